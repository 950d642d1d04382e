/-- what the reference's draw changes before it is done -/
def FY (dn : Nat) (b s : XS) : Prop := gJ s = gJ b ∧ (∀ c, ¬ c = 20 → ¬ c = 16 → gM s c = gM b c) ∧ ∀ j, j < 40 * dn + 40 → gM s 16 j = gM b 16 j
theorem LY.fr {b s : XS} {w : Nat} {v : Nat → Nat} (h : LY b w v) (e1 : gM s 0 23 = gM b 0 23) (e2 : gM s 17 = gM b 17) : LY s w v := by
  unfold LY at h ⊢
  rw [e1, e2]; exact h
theorem Y_seek {s : XS} {w : Nat} {v : Nat → Nat} (h : LY s w v) {r : Nat} (hr : 0 < r) (hr2 : r ≤ 40) {k : Nat} (hk : k ≤ w) (x1 x2 x3 x5 : Int32) (c65 : Int32 → Int32 → XS → Option (Int32 × XS)) : lo1 (p_Model_draws_B77 x1 x2 x3 x5 (nI r) s c65) fuelN (nI k) = p_Model_draws_K111 c65 x1 x2 x3 (oW w (seekL v (r * (10000 / r)) (w - k) k)) x5 (nI r) s := by
  have hw := h.1
  have hB := fair_b r
  have key : ∀ (m k fu : Nat), k + m = w → m < fu → lo1 (p_Model_draws_B77 x1 x2 x3 x5 (nI r) s c65) fu (nI k) = p_Model_draws_K111 c65 x1 x2 x3 (oW w (seekL v (r * (10000 / r)) m k)) x5 (nI r) s := by
    intro m
    induction m with
    | zero =>
      intro k fu hk hf
      obtain ⟨fu, rfl⟩ : ∃ g, fu = g + 1 := ⟨fu - 1, by omega⟩
      show p_Model_draws_B77 _ _ _ _ _ s _ _ (nI k) = _
      unfold p_Model_draws_B77
      rw [h.2.1, if_pos (nI_le (by omega) (by omega))]
      show _ = p_Model_draws_K111 c65 x1 x2 x3 (nI w) x5 (nI r) s
      rw [show k = w by omega]
    | succ m ih =>
      intro k fu hk hf
      obtain ⟨fu, rfl⟩ : ∃ g, fu = g + 1 := ⟨fu - 1, by omega⟩
      show p_Model_draws_B77 _ _ _ _ _ s _ (lo1 (p_Model_draws_B77 x1 x2 x3 x5 (nI r) s c65) fu) (nI k) = _
      have ih := ih (k + 1) fu (by omega) (by omega)
      generalize lo1 (p_Model_draws_B77 x1 x2 x3 x5 (nI r) s c65) fu = K at ih ⊢
      have es : seekL v (r * (10000 / r)) (m + 1) k = if v k < r * (10000 / r) then some k else seekL v (r * (10000 / r)) m (k + 1) := rfl
      have hv := h.2.2 k (by omega)
      unfold p_Model_draws_B77
      rw [es, h.2.1, if_neg (nI_ge (by omega) (by omega)), if_pos (gIn_t (show k < 500 by omega) (by omega)), if_neg (nI_ne0 hr (by omega)), ix_nI (by omega), hv.2, fair_I hr hr2, nI_1]
      by_cases e : v k < r * (10000 / r)
      · rw [if_pos e, if_pos (nI_lt e (by omega))]; rfl
      · rw [if_neg e, if_neg (nI_nlt (by omega) (by omega)), ih]
  exact key (w - k) k fuelN (by omega) (by unfold fuelN; omega)
theorem Y_shift {r p : Nat} (hr : r ≤ 40) (hp : p < r) (x1 x2 x3 x4 x5 : Int32) (c65 : Int32 → Int32 → XS → Option (Int32 × XS)) (s0 : XS) : ∃ s', lo2 (p_Model_draws_B160 x1 x2 x3 x4 x5 (nI r) c65) fuelN (nI p) s0 = c65 x4 (x5 + 1) s' ∧ gJ s' = gJ s0 ∧ (∀ c, ¬ c = 20 → gM s' c = gM s0 c) ∧ ∀ j, j + 1 < r → gM s' 20 j = if p ≤ j then gM s0 20 (j + 1) else gM s0 20 j := by
  have key : ∀ (m i fu : Nat) (s : XS), i + m + 1 = r → p ≤ i → m < fu → gJ s = gJ s0 → (∀ c, ¬ c = 20 → gM s c = gM s0 c) → (∀ j, gM s 20 j = if p ≤ j ∧ j < i then gM s0 20 (j + 1) else gM s0 20 j) → ∃ s', lo2 (p_Model_draws_B160 x1 x2 x3 x4 x5 (nI r) c65) fu (nI i) s = c65 x4 (x5 + 1) s' ∧ gJ s' = gJ s0 ∧ (∀ c, ¬ c = 20 → gM s' c = gM s0 c) ∧ ∀ j, j + 1 < r → gM s' 20 j = if p ≤ j then gM s0 20 (j + 1) else gM s0 20 j := by
    intro m
    induction m with
    | zero =>
      intro i fu s hi hpi hf hJ hF hr
      obtain ⟨fu, rfl⟩ : ∃ g, fu = g + 1 := ⟨fu - 1, by omega⟩
      refine ⟨s, ?_, hJ, hF, fun j hj => ?_⟩
      · show p_Model_draws_B160 _ _ _ _ _ _ _ _ (nI i) s = _
        unfold p_Model_draws_B160
        rw [show nI r - (1 : Int32) = nI (r - 1) from pk_sub (b := 1) (by omega), if_pos (nI_le (by omega) (by omega))]
      · rw [hr j]
        by_cases e : p ≤ j
        · rw [if_pos e, if_pos ⟨e, by omega⟩]
        · rw [if_neg e, if_neg (fun q => e q.1)]
    | succ m ih =>
      intro i fu s hi hpi hf hJ hF hr
      obtain ⟨fu, rfl⟩ : ∃ g, fu = g + 1 := ⟨fu - 1, by omega⟩
      have ih := ih (i + 1) fu (sM s 20 i (gM s 20 (i + 1))) (by omega) (by omega) (by omega) hJ (fun c hc => (gM_o hc).trans (hF c hc)) (fun j => by
        rw [gM_sM, if_pos rfl]
        by_cases e : j = i
        · subst e
          rw [if_pos rfl, if_pos ⟨hpi, by omega⟩, hr (j + 1), if_neg (fun q => by omega)]
        · rw [if_neg e, hr j]
          by_cases e2 : p ≤ j ∧ j < i
          · rw [if_pos e2, if_pos ⟨e2.1, by omega⟩]
          · rw [if_neg e2, if_neg (fun q => e2 ⟨q.1, by omega⟩)])
      show ∃ s', p_Model_draws_B160 x1 x2 x3 x4 x5 (nI r) c65 (lo2 (p_Model_draws_B160 x1 x2 x3 x4 x5 (nI r) c65) fu) (nI i) s = _ ∧ _
      generalize lo2 (p_Model_draws_B160 x1 x2 x3 x4 x5 (nI r) c65) fu = K at ih ⊢
      unfold p_Model_draws_B160
      rw [show nI r - (1 : Int32) = nI (r - 1) from pk_sub (b := 1) (by omega), if_neg (nI_ge (by omega) (by omega)), nI_1, if_pos (gIn_t (show i + 1 < 40 by omega) (by omega)), if_pos (gIn_t (show i < 40 by omega) (by omega)), ix_nI (by omega), ix_nI (by omega), lq_e]
      exact ih
  exact key (r - p - 1) p fuelN s0 (by omega) (Nat.le_refl _) (by unfold fuelN; omega) rfl (fun _ _ => rfl) (fun j => by rw [if_neg (fun q => by omega)])
theorem Y_drawloop {b : XS} {w dn N S : Nat} {v : Nat → Nat} (hL : LY b w v) (hdn : dn < 12) (hNS : N ≤ S) (hS : S ≤ 40) : ∀ (m i k fu : Nat) (s : XS) (L D : List Nat), i + m = N → m < fu → D.length = i → L.length + i = S → k ≤ w → rowIs (gM s 20) 0 L → rowIs (gM s 16) (40 * dn + 40) D → FY dn b s → ∃ s', FY dn b s' ∧ ((drw v w m k L D = none ∧ lo3 (p_Model_draws_B65 (nI N) (nI (40 * dn)) (nI S)) fu (nI k) (nI i) s = some (1, s')) ∨ ∃ k' D', drw v w m k L D = some (k', D') ∧ rowIs (gM s' 16) (40 * dn + 40) D' ∧ lo3 (p_Model_draws_B65 (nI N) (nI (40 * dn)) (nI S)) fu (nI k) (nI i) s = (if gIn ((gM s' 0 18) + (1 : Int32)) 13 = true then lq (sM s' 15 (ix ((gM s' 0 18) + (1 : Int32))) (nI N)) (fun s23 => lo2 (p_Model_draws_B213 (nI k')) fuelN (nI k') s23) else none)) := by
  intro m
  induction m with
  | zero =>
    intro i k fu s L D hi hf hD hLl hk h17 h49 hF
    obtain ⟨fu, rfl⟩ : ∃ g, fu = g + 1 := ⟨fu - 1, by omega⟩
    refine ⟨s, hF, Or.inr ⟨k, D, rfl, h49, ?_⟩⟩
    show p_Model_draws_B65 _ _ _ _ (nI k) (nI i) s = _
    unfold p_Model_draws_B65
    rw [if_pos (nI_le (by omega) (by omega))]
  | succ m ih =>
    intro i k fu s L D hi hf hD hLl hk h17 h49 hF
    obtain ⟨fu, rfl⟩ : ∃ g, fu = g + 1 := ⟨fu - 1, by omega⟩
    have hLs : LY s w v := hL.fr (by rw [hF.2.1 0 (by omega) (by omega)]) (hF.2.1 17 (by omega) (by omega))
    have hw := hL.1
    have ih := ih (i + 1) (fu := fu)
    show ∃ s', FY dn b s' ∧ ((drw v w (m + 1) k L D = none ∧ p_Model_draws_B65 (nI N) (nI (40 * dn)) (nI S) (lo3 (p_Model_draws_B65 (nI N) (nI (40 * dn)) (nI S)) fu) (nI k) (nI i) s = some (1, s')) ∨ ∃ k' D', drw v w (m + 1) k L D = some (k', D') ∧ rowIs (gM s' 16) (40 * dn + 40) D' ∧ p_Model_draws_B65 (nI N) (nI (40 * dn)) (nI S) (lo3 (p_Model_draws_B65 (nI N) (nI (40 * dn)) (nI S)) fu) (nI k) (nI i) s = _)
    generalize lo3 (p_Model_draws_B65 (nI N) (nI (40 * dn)) (nI S)) fu = K at ih ⊢
    unfold p_Model_draws_B65
    rw [if_neg (nI_ge (by omega) (by omega)), nI_sub (show i ≤ S by omega), show S - i = L.length by omega, Y_seek hLs (by omega) (by omega) hk]
    cases e : seekL v (L.length * (10000 / L.length)) (w - k) k with
    | none =>
      refine ⟨s, hF, Or.inl ⟨drw_n e, ?_⟩⟩
      unfold p_Model_draws_K111
      rw [hLs.2.1, if_pos (show oW w none = nI w from rfl)]
    | some q =>
      have hb := seekL_b e
      have hp : v q % L.length < L.length := Nat.mod_lt _ (by omega)
      have hv := hLs.2.2 q (by omega)
      have e1 := h17 (v q % L.length) hp
      rw [Nat.zero_add] at e1
      unfold p_Model_draws_K111
      rw [show oW w (some q) = nI q from rfl, hLs.2.1, if_neg (fun z => by have := (nI_eq (by omega) (by omega)).mp z; omega), if_pos (gIn_t (show q < 500 by omega) (by omega)), if_neg (nI_ne0 (by omega) (by omega)), ix_nI (by omega), hv.2, pk_rem (by omega) (by omega) (by omega), if_pos (gIn_t (show v q % L.length < 40 by omega) (by omega)), show nI (40 * dn) + (40 : Int32) + nI i = nI (40 * dn + 40 + i) by rw [show (40 : Int32) = nI 40 from rfl, nI_add, nI_add], if_pos (gIn_t (show 40 * dn + 40 + i < 520 by omega) (by omega)), ix_nI (by omega), ix_nI (by omega), e1, lq_e, nI_1]
      obtain ⟨s', t1, t2, t3, t4⟩ := Y_shift (r := L.length) (p := v q % L.length) (by omega) hp (nI N) (nI (40 * dn)) (nI S) (nI (q + 1)) (nI i) K (sM s 16 (40 * dn + 40 + i) (nI (L.getD (v q % L.length) 0)))
      rw [t1, drw_s e, nI_1]
      refine ih (q + 1) s' (L.eraseIdx (v q % L.length)) (D ++ [L.getD (v q % L.length) 0]) (by omega) (by omega) (by rw [List.length_append]; simp; omega) (by rw [List.length_eraseIdx, if_pos hp]; omega) (by omega) ?_ ?_ ⟨by rw [t2]; exact hF.1, fun c h1 h2 => ?_, fun j hj => ?_⟩
      · exact rowIs_erase (f := gM s 20) h17 hp t4
      · refine rowIs_push h49 _ (fun j hj => ?_) ?_
        · rw [t3 16 (by omega), gM_sM, if_pos rfl, if_neg (by omega)]
        · rw [t3 16 (by omega), gM_sM, if_pos rfl, if_pos (by omega)]
      · rw [t3 c h1, gM_o h2]; exact hF.2.1 c h1 h2
      · rw [t3 16 (by omega), gM_sM, if_pos rfl, if_neg (by omega)]; exact hF.2.2 j hj
theorem Y_copy {b : XS} {dn N S : Nat} {L : List Nat} (hdn : dn < 12) (hS : S ≤ 40) (hL : L.length = S) (hr : rowIs (gM b 16) (40 * dn) L) : ∃ s', lo2 (p_Model_draws_B31 (nI N) (nI (40 * dn)) (nI S)) fuelN (nI 0) b = lo3 (p_Model_draws_B65 (nI N) (nI (40 * dn)) (nI S)) fuelN 0 0 s' ∧ FY dn b s' ∧ rowIs (gM s' 20) 0 L := by
  have key : ∀ (m i fu : Nat) (s : XS), i + m = S → m < fu → FY dn b s → (∀ j, j < i → gM s 20 j = nI (L.getD j 0)) → ∃ s', lo2 (p_Model_draws_B31 (nI N) (nI (40 * dn)) (nI S)) fu (nI i) s = lo3 (p_Model_draws_B65 (nI N) (nI (40 * dn)) (nI S)) fuelN 0 0 s' ∧ FY dn b s' ∧ rowIs (gM s' 20) 0 L := by
    intro m
    induction m with
    | zero =>
      intro i fu s hi hf hF h20
      obtain ⟨fu, rfl⟩ : ∃ g, fu = g + 1 := ⟨fu - 1, by omega⟩
      refine ⟨s, ?_, hF, fun j hj => ?_⟩
      · show p_Model_draws_B31 _ _ _ _ (nI i) s = _
        unfold p_Model_draws_B31
        rw [if_pos (nI_le (by omega) (by omega))]
      · rw [Nat.zero_add]; exact h20 j (by omega)
    | succ m ih =>
      intro i fu s hi hf hF h20
      obtain ⟨fu, rfl⟩ : ∃ g, fu = g + 1 := ⟨fu - 1, by omega⟩
      have e1 : gM s 16 (40 * dn + i) = nI (L.getD i 0) := by rw [hF.2.2 _ (by omega)]; exact hr i (by omega)
      have ih := ih (i + 1) fu (sM s 20 i (nI (L.getD i 0))) (by omega) (by omega) ⟨hF.1, fun c h1 h2 => (gM_o h1).trans (hF.2.1 c h1 h2), fun j hj => by rw [gM_o (by omega)]; exact hF.2.2 j hj⟩ (fun j hj => by
        rw [gM_sM, if_pos rfl]
        by_cases e : j = i
        · rw [if_pos e, e]
        · rw [if_neg e]; exact h20 j (by omega))
      show ∃ s', p_Model_draws_B31 (nI N) (nI (40 * dn)) (nI S) (lo2 (p_Model_draws_B31 (nI N) (nI (40 * dn)) (nI S)) fu) (nI i) s = _ ∧ _
      generalize lo2 (p_Model_draws_B31 (nI N) (nI (40 * dn)) (nI S)) fu = K at ih ⊢
      unfold p_Model_draws_B31
      rw [if_neg (nI_ge (by omega) (by omega)), nI_add, if_pos (gIn_t (show 40 * dn + i < 520 by omega) (by omega)), if_pos (gIn_t (show i < 40 by omega) (by omega)), ix_nI (by omega), ix_nI (by omega), lq_e, e1, nI_1]
      exact ih
  exact key S 0 fuelN b (by omega) (by unfold fuelN; omega) ⟨rfl, fun _ _ _ => rfl, fun _ _ => rfl⟩ (fun j hj => absurd hj (Nat.not_lt_zero j))
theorem Y_use {w k : Nat} (hk : k ≤ w) (hw : w ≤ 500) (s0 : XS) (h23 : gM s0 0 23 = nI w) : ∃ s', lo2 (p_Model_draws_B213 (nI k)) fuelN (nI k) s0 = some (0, sM (sM s' 0 23 (nI (w - k))) 0 24 (gM s0 0 24 + nI k)) ∧ gJ s' = gJ s0 ∧ (∀ c, ¬ c = 17 → gM s' c = gM s0 c) ∧ ∀ j, j + k < w → gM s' 17 j = gM s0 17 (j + k) := by
  have key : ∀ (m i fu : Nat) (s : XS), i + m = w → k ≤ i → m < fu → gJ s = gJ s0 → (∀ c, ¬ c = 17 → gM s c = gM s0 c) → (∀ j, gM s 17 j = if j + k < i then gM s0 17 (j + k) else gM s0 17 j) → ∃ s', lo2 (p_Model_draws_B213 (nI k)) fu (nI i) s = some (0, sM (sM s' 0 23 (nI (w - k))) 0 24 (gM s0 0 24 + nI k)) ∧ gJ s' = gJ s0 ∧ (∀ c, ¬ c = 17 → gM s' c = gM s0 c) ∧ ∀ j, j + k < w → gM s' 17 j = gM s0 17 (j + k) := by
    intro m
    induction m with
    | zero =>
      intro i fu s hi hki hf hJ hF h17
      obtain ⟨fu, rfl⟩ : ∃ g, fu = g + 1 := ⟨fu - 1, by omega⟩
      refine ⟨s, ?_, hJ, hF, fun j hj => by rw [h17 j, if_pos (by omega)]⟩
      show p_Model_draws_B213 _ _ (nI i) s = _
      unfold p_Model_draws_B213
      have e24 : ∀ x : Int32, gM (sM s 0 23 x) 0 24 = gM s0 0 24 := fun x => by
        rw [gM_sM, if_pos rfl, if_neg (by omega), hF 0 (by omega)]
      rw [hF 0 (by omega), h23, if_pos (nI_le (by omega) (by omega)), lq_e, lq_e, e24, nI_sub hk]
    | succ m ih =>
      intro i fu s hi hki hf hJ hF h17
      obtain ⟨fu, rfl⟩ : ∃ g, fu = g + 1 := ⟨fu - 1, by omega⟩
      have ih := ih (i + 1) fu (sM s 17 (i - k) (gM s 17 i)) (by omega) (by omega) (by omega) hJ (fun c hc => (gM_o hc).trans (hF c hc)) (fun j => by
        rw [gM_sM, if_pos rfl]
        by_cases e : j = i - k
        · rw [if_pos e, if_pos (by omega), h17 i, show j + k = i by omega]
          by_cases e2 : i + k < i
          · omega
          · rw [if_neg e2]
        · rw [if_neg e, h17 j]
          by_cases e2 : j + k < i
          · rw [if_pos e2, if_pos (by omega)]
          · rw [if_neg e2, if_neg (by omega)])
      show ∃ s', p_Model_draws_B213 (nI k) (lo2 (p_Model_draws_B213 (nI k)) fu) (nI i) s = _ ∧ _
      generalize lo2 (p_Model_draws_B213 (nI k)) fu = K at ih ⊢
      unfold p_Model_draws_B213
      rw [hF 0 (by omega), h23, if_neg (nI_ge (by omega) (by omega)), if_pos (gIn_t (show i < 500 by omega) (by omega)), nI_sub hki, if_pos (gIn_t (show i - k < 500 by omega) (by omega)), ix_nI (by omega), ix_nI (by omega), lq_e, nI_1]
      exact ih
  exact key (w - k) k fuelN s0 (by omega) (Nat.le_refl _) (by unfold fuelN; omega) rfl (fun _ _ => rfl) (fun j => by rw [if_neg (by omega)])
