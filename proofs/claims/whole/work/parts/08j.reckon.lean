/-! THE COUNT, the class's side: the walk through all steps -/
theorem fill_genJ {R : Type} (C N : Nat) (hN : N ≤ 2000) (x : Int64) (F : (Int32 → XS → Option R) → Int32 → XS → Option R) (E : XS → Option R) (hF : ∀ c i s, F c i s = (if nI N ≤ i then E s else if gIn i N = true then lq (sJ s C (ix i) x) (fun s3 => c (i + (1 : Int32)) s3) else none)) (s0 : XS) : ∃ s', lo2 F fuelN 0 s0 = E s' ∧ gG s' = gG s0 ∧ gM s' = gM s0 ∧ (∀ c, ¬ c = C → gJ s' c = gJ s0 c) ∧ ∀ i, i < N → gJ s' C i = x := by
  have key : ∀ (m i f : Nat) (s : XS), i + m = N → m < f → gG s = gG s0 → gM s = gM s0 → (∀ c, ¬ c = C → gJ s c = gJ s0 c) → (∀ j, j < i → gJ s C j = x) → ∃ s', lo2 F f (nI i) s = E s' ∧ gG s' = gG s0 ∧ gM s' = gM s0 ∧ (∀ c, ¬ c = C → gJ s' c = gJ s0 c) ∧ ∀ i, i < N → gJ s' C i = x := by
    intro m
    induction m with
    | zero =>
      intro i f s hi hf h1 h2 h3 h4
      obtain ⟨f, rfl⟩ : ∃ g, f = g + 1 := ⟨f - 1, by omega⟩
      refine ⟨s, ?_, h1, h2, h3, fun j hj => h4 j (by omega)⟩
      show F _ (nI i) s = _
      rw [hF, if_pos (nI_le (by omega) (by omega))]
    | succ m ih =>
      intro i f s hi hf h1 h2 h3 h4
      obtain ⟨f, rfl⟩ : ∃ g, f = g + 1 := ⟨f - 1, by omega⟩
      have ih := ih (i + 1) f (sJ s C i x) (by omega) (by omega) h1 h2 (fun c hc => (gJ_o hc).trans (h3 c hc)) (fun j hj => by
        rw [gJ_sJ, if_pos rfl]
        by_cases e : j = i
        · rw [if_pos e]
        · rw [if_neg e]; exact h4 j (by omega))
      show ∃ s', F (lo2 F f) (nI i) s = _ ∧ _
      rw [hF, if_neg (nI_ge (by omega) (by omega)), if_pos (gIn_t (by omega) (by omega)), ix_nI (by omega), lq_e, nI_1]
      exact ih
  exact key N 0 fuelN s0 (by omega) (by unfold fuelN; omega) rfl rfl (fun _ _ => rfl) (fun j hj => absurd hj (Nat.not_lt_zero j))
def gof (pa : Nat → Nat) : List Nat → (Nat → Nat) → (Nat → Nat)
  | [], g => g
  | x :: xs, g => gof pa xs (inc g (pa x))
theorem gof_s {pa : Nat → Nat} : ∀ (L : List Nat) (g : Nat → Nat), (∀ x ∈ L, pa x < 4) → s4 (gof pa L g) = s4 g + L.length
  | [], g, _ => rfl
  | x :: xs, g, h => by
    show s4 (gof pa xs (inc g (pa x))) = s4 g + (xs.length + 1)
    rw [gof_s xs _ (fun y hy => h y (List.mem_cons_of_mem x hy)), s4_inc g (h x List.mem_cons_self)]; omega
def c0of (pa : Nat → Nat) (L : List Nat) : Nat := cd4 (gof pa L (fun _ => 0) 0) (gof pa L (fun _ => 0) 1) (gof pa L (fun _ => 0) 2) (gof pa L (fun _ => 0) 3)
def R0of (pa : Nat → Nat) (L : List Nat) : TT := (1, fun i => if i = 0 then c0of pa L else 0, fun i => if i = 0 then 1 else 0)
section RECKON
variable {a b : XS} {n : Nat} {ho pa pr ye : Nat → Nat} {ki : Nat → Nat → Bool} {np st : Nat} {kd sz vt lm : Nat → Nat} {dn : Nat} {BL : Nat → List Nat}
theorem c0_vc {L : List Nat} (h : ∀ x ∈ L, pa x < 4) : vc L.length (c0of pa L) := by
  have := gof_s L (fun _ => 0) h
  exact ⟨_, _, _, _, by rw [show (s4 (fun _ => 0)) = 0 from rfl, Nat.zero_add] at this; exact this, rfl⟩
theorem R0_v {L : List Nat} (h : ∀ x ∈ L, pa x < 4) : VT L.length (R0of pa L) := ⟨by show 1 ≤ 600; omega, fun i hi => by
  have : i = 0 := by have : i < 1 := hi; omega
  subst this
  exact c0_vc h, fun i j hi hj _ => by
  have : i < 1 := hi
  have : j < 1 := hj
  omega⟩
theorem X_look (hc : CC n ho pa pr ye ki np) {s0 : XS} (hX : XC s0 n ho pa pr ye ki np) : ∃ s', p_Odds_lookAtCity s0 = some s' ∧ gG s' = gG s0 ∧ gJ s' = gJ s0 ∧ (∀ c, ¬ c = 37 → ¬ c = 29 → ¬ c = 35 → ¬ c = 36 → gM s' c = gM s0 c) ∧ (∀ j, ¬ j = 10 → gM s' 29 j = gM s0 29 j) ∧ (∀ i, i < 16 → gM s' 37 i = nI (ye i)) ∧ gM s' 29 10 = nI (sel pr n).length ∧ (∀ j, j < (sel pr n).length → gM s' 35 j = nI ((sel pr n).getD j 0)) ∧ ∀ j, j < (sel pr n).length → gM s' 36 j = nI (pa ((sel pr n).getD j 0)) := by
  have hn := hc.1
  have loop2 : ∀ (m i f : Nat) (s : XS), i + m = n → m < f → gG s = gG s0 → gJ s = gJ s0 → (∀ c, ¬ c = 37 → ¬ c = 29 → ¬ c = 35 → ¬ c = 36 → gM s c = gM s0 c) → (∀ j, ¬ j = 10 → gM s 29 j = gM s0 29 j) → (∀ i, i < 16 → gM s 37 i = nI (ye i)) → gM s 29 10 = nI (sel pr i).length → (∀ j, j < (sel pr i).length → gM s 35 j = nI ((sel pr i).getD j 0)) → (∀ j, j < (sel pr i).length → gM s 36 j = nI (pa ((sel pr i).getD j 0))) → ∃ s', lo2 (p_Odds_lookAtCity_B48) f (nI i) s = some s' ∧ gG s' = gG s0 ∧ gJ s' = gJ s0 ∧ (∀ c, ¬ c = 37 → ¬ c = 29 → ¬ c = 35 → ¬ c = 36 → gM s' c = gM s0 c) ∧ (∀ j, ¬ j = 10 → gM s' 29 j = gM s0 29 j) ∧ (∀ i, i < 16 → gM s' 37 i = nI (ye i)) ∧ gM s' 29 10 = nI (sel pr n).length ∧ (∀ j, j < (sel pr n).length → gM s' 35 j = nI ((sel pr n).getD j 0)) ∧ ∀ j, j < (sel pr n).length → gM s' 36 j = nI (pa ((sel pr n).getD j 0)) := by
    intro m
    induction m with
    | zero =>
      intro i f s hi hf h1 h2 h3 h4 h5 h6 h7 h8
      obtain ⟨f, rfl⟩ : ∃ g, f = g + 1 := ⟨f - 1, by omega⟩
      have ei : i = n := by omega
      subst ei
      have hXs : XC s i ho pa pr ye ki np := hX.fr (fun c z1 z2 => h3 c (by omega) (by omega) (by omega) (by omega)) (by rw [h2])
      refine ⟨s, ?_, h1, h2, h3, h4, h5, h6, h7, h8⟩
      show p_Odds_lookAtCity_B48 _ (nI i) s = _
      unfold p_Odds_lookAtCity_B48 p_City_size
      rw [bind1_s, hXs.1, if_pos (nI_le (by omega) (by omega))]
    | succ m ih =>
      intro i f s hi hf h1 h2 h3 h4 h5 h6 h7 h8
      obtain ⟨f, rfl⟩ : ∃ g, f = g + 1 := ⟨f - 1, by omega⟩
      have hXs : XC s n ho pa pr ye ki np := hX.fr (fun c z1 z2 => h3 c (by omega) (by omega) (by omega) (by omega)) (by rw [h2])
      have hl := sel_len pr i
      have hpi := hc.2.2.1 i (by omega)
      have hst := ih (i + 1) f
      show ∃ s', p_Odds_lookAtCity_B48 (lo2 (p_Odds_lookAtCity_B48) f) (nI i) s = _ ∧ _
      generalize lo2 (p_Odds_lookAtCity_B48) f = K at hst ⊢
      unfold p_Odds_lookAtCity_B48 p_City_size
      rw [bind1_s, hXs.1, if_neg (nI_ge (by omega) (by omega)), h6, if_neg (show ¬ (40 : Int32) ≤ nI (sel pr i).length from nI_ge (b := 40) (by omega) (by omega)), X_isThere_t hXs hc (by omega), bind1_s, nI_1]
      rcases (show pr i = 0 ∨ pr i = 1 by omega) with e | e
      · rw [e, if_pos (show nI 0 = 0 from rfl)]
        have es := sel_succ_f e
        exact hst s (by omega) (by omega) h1 h2 h3 h4 h5 (by rw [es]; exact h6) (by rw [es]; exact h7) (by rw [es]; exact h8)
      · have g40 : gIn (nI (sel pr i).length) 40 = true := gIn_t (by omega) (by omega)
        have hX2 : XC (sM s 35 (sel pr i).length (nI i)) n ho pa pr ye ki np := hXs.fr (fun c z1 z2 => gM_o (by omega)) rfl
        have r1 : gM (sM s 35 (sel pr i).length (nI i)) 29 10 = nI (sel pr i).length := h6
        have r2 : gM (sM (sM s 35 (sel pr i).length (nI i)) 36 (sel pr i).length (nI (pa i))) 29 10 = nI (sel pr i).length := h6
        have es := sel_succ_t e
        rw [e, if_neg (show ¬ nI 1 = 0 by decide), if_pos g40, ix_nI (by omega), lq_e, X_partyOf hX2 hc (by omega), bind1_s, r1, if_pos g40, ix_nI (by omega), lq_e, r2, nI_1, lq_e]
        refine hst _ (by omega) (by omega) h1 h2 (fun c z1 z2 z3 z4 => (gM_o z2).trans ((gM_o z4).trans ((gM_o z3).trans (h3 c z1 z2 z3 z4)))) (fun j hj => ?_) h5 ?_ (fun j hj => ?_) (fun j hj => ?_)
        · rw [gM_sM, if_pos rfl, if_neg hj]; exact h4 j hj
        · rw [es, List.length_append]; rfl
        · rw [es, List.length_append] at hj
          have hj : j < (sel pr i).length + 1 := hj
          rw [es]
          show gM (sM s 35 (sel pr i).length (nI i)) 35 j = _
          rw [gM_sM, if_pos rfl]
          by_cases ej : j = (sel pr i).length
          · rw [if_pos ej, ej, getD_app_r]
          · rw [if_neg ej, getD_app_l (by omega)]; exact h7 j (by omega)
        · rw [es, List.length_append] at hj
          have hj : j < (sel pr i).length + 1 := hj
          rw [es]
          show gM (sM (sM s 35 (sel pr i).length (nI i)) 36 (sel pr i).length (nI (pa i))) 36 j = _
          rw [gM_sM, if_pos rfl]
          by_cases ej : j = (sel pr i).length
          · rw [if_pos ej, ej, getD_app_r]
          · rw [if_neg ej, getD_app_l (by omega)]; exact h8 j (by omega)
  have loop1 : ∀ (m x f : Nat) (s : XS), x + m = 16 → m < f → gG s = gG s0 → gJ s = gJ s0 → (∀ c, ¬ c = 37 → gM s c = gM s0 c) → (∀ y, y < x → gM s 37 y = nI (ye y)) → ∃ s', lo2 (p_Odds_lookAtCity_B2) f (nI x) s = some s' ∧ gG s' = gG s0 ∧ gJ s' = gJ s0 ∧ (∀ c, ¬ c = 37 → ¬ c = 29 → ¬ c = 35 → ¬ c = 36 → gM s' c = gM s0 c) ∧ (∀ j, ¬ j = 10 → gM s' 29 j = gM s0 29 j) ∧ (∀ i, i < 16 → gM s' 37 i = nI (ye i)) ∧ gM s' 29 10 = nI (sel pr n).length ∧ (∀ j, j < (sel pr n).length → gM s' 35 j = nI ((sel pr n).getD j 0)) ∧ ∀ j, j < (sel pr n).length → gM s' 36 j = nI (pa ((sel pr n).getD j 0)) := by
    intro m
    induction m with
    | zero =>
      intro x f s hi hf h1 h2 h3 h4
      obtain ⟨f, rfl⟩ : ∃ g, f = g + 1 := ⟨f - 1, by omega⟩
      show ∃ s', p_Odds_lookAtCity_B2 _ (nI x) s = _ ∧ _
      unfold p_Odds_lookAtCity_B2
      rw [if_pos (show (16 : Int32) ≤ nI x from nI_le (a := 16) (by omega) (by omega)), lq_e]
      exact loop2 n 0 fuelN (sM s 29 10 0) (by omega) (by unfold fuelN; omega) h1 h2 (fun c z1 z2 _ _ => (gM_o z2).trans (h3 c z1)) (fun j hj => by rw [gM_sM, if_pos rfl, if_neg hj, h3 29 (by omega)]) (fun i hi2 => by rw [gM_o (by omega)]; exact h4 i (by omega)) rfl (fun j hj => absurd hj (Nat.not_lt_zero j)) (fun j hj => absurd hj (Nat.not_lt_zero j))
    | succ m ih =>
      intro x f s hi hf h1 h2 h3 h4
      obtain ⟨f, rfl⟩ : ∃ g, f = g + 1 := ⟨f - 1, by omega⟩
      have hXs : XC s n ho pa pr ye ki np := hX.fr (fun c z1 z2 => h3 c (by omega)) (by rw [h2])
      have hyx := hc.2.2.2.1 x (by omega)
      have ih := ih (x + 1) f (sM s 37 x (nI (ye x))) (by omega) (by omega) h1 h2 (fun c z => (gM_o z).trans (h3 c z)) (fun y hy => by
        rw [gM_sM, if_pos rfl]
        by_cases e : y = x
        · rw [if_pos e, e]
        · rw [if_neg e]; exact h4 y (by omega))
      have d1 : nI x / (4 : Int32) = nI (x / 4) := by rw [show (4 : Int32) = nI 4 from rfl, pk_div (by omega) (by omega) (by omega)]
      have d2 : nI x - nI (x / 4) * (4 : Int32) = nI (x % 4) := by rw [← d1, show (4 : Int32) = nI 4 from rfl, pk_rem (by omega) (by omega) (by omega)]
      have hs := X_saysYes hXs hc (i := x / 4) (j := x % 4) (by omega) (by omega)
      rw [show x / 4 * 4 + x % 4 = x by omega] at hs
      show ∃ s', p_Odds_lookAtCity_B2 (lo2 (p_Odds_lookAtCity_B2) f) (nI x) s = _ ∧ _
      generalize lo2 (p_Odds_lookAtCity_B2) f = K at ih ⊢
      unfold p_Odds_lookAtCity_B2
      rw [if_neg (show ¬ (16 : Int32) ≤ nI x from nI_ge (b := 16) (by omega) (by omega)), d1, d2, hs, bind1_s, if_pos (gIn_t (show x < 16 by omega) (by omega)), ix_nI (by omega), lq_e, lq_e, nI_1]
      rcases (show ye x = 0 ∨ ye x = 1 by omega) with e | e
      · rw [e] at ih ⊢
        rw [if_pos (show nI 0 = 0 from rfl)]; exact ih
      · rw [e] at ih ⊢
        rw [if_neg (show ¬ nI 1 = 0 by decide), if_pos (gIn_t (show x < 16 by omega) (by omega))]; exact ih
  exact loop1 16 0 fuelN s0 (by omega) (by unfold fuelN; omega) rfl rfl (fun _ _ => rfl) (fun y hy => absurd hy (Nat.not_lt_zero y))
theorem X_start {s : XS} (hr : gG a 29 12 < 2) (ha : gG a 29 13 < 2) (hc : CC n ho pa pr ye ki np) (hX : XC a n ho pa pr ye ki np) (h12 : st ≤ 12) (hS : RS a b n pr st kd dn BL) (hH : HX a s) : ∃ s', p_Odds_startFromBody s = some s' ∧ HX a s' ∧ TXk (gG a 29 13) (R0of pa (bodyOf pr n dn BL)) s' ∧ (∀ c, ¬ (40 ≤ c ∧ c ≤ 48) → ¬ c = 33 → ¬ c = 16 → gM s' c = gM s c) ∧ ∀ c, ¬ (40 ≤ c ∧ c ≤ 47) → gJ s' c = gJ s c := by
  have hn := hc.1
  obtain ⟨s1, f1, f2, f3, f4, f5⟩ := fill_gen 33 4 (by omega) 0 (p_fill_ogets_B5 0 4) some (fun c i s => rfl) s
  have hH1 : HX a s1 := ⟨f2.trans hH.1, fun c z1 z2 => (f4 c (by omega)).trans (hH.2.1 c z1 z2), fun r hr => by rw [f4 16 (by omega)]; exact hH.2.2.1 r hr, by rw [f4 29 (by omega)]; exact hH.2.2.2.1, fun c z1 z2 z3 => by rw [f3]; exact hH.2.2.2.2 c z1 z2 z3⟩
  obtain ⟨s2, x1, hG, hH2, xr, x14, xl, xm⟩ := hH1.bs hr hc hX h12 hS
  generalize eL : bodyOf pr n dn BL = L at x1 xr xl xm
  have hpaL : ∀ x ∈ L, pa x < 4 := fun x hx => (hc.2.2.1 x (xm x hx)).2.1
  have key : ∀ (m j f : Nat) (g : Nat → Nat) (u : XS), j + m = L.length → m < f → HX a u → (∀ c, ¬ (40 ≤ c ∧ c ≤ 48) → ¬ c = 33 → ¬ c = 16 → gM u c = gM s c) → gJ u = gJ s → (∀ q, q < 4 → gM u 33 q = nI (g q)) → gof pa (L.drop j) g = gof pa L (fun _ => 0) → ∃ s', lo2 (p_Odds_startFromBody_B18 (nI L.length)) f (nI j) u = some s' ∧ HX a s' ∧ TXk (gG a 29 13) (R0of pa L) s' ∧ (∀ c, ¬ (40 ≤ c ∧ c ≤ 48) → ¬ c = 33 → ¬ c = 16 → gM s' c = gM s c) ∧ ∀ c, ¬ (40 ≤ c ∧ c ≤ 47) → gJ s' c = gJ s c := by
    intro m
    induction m with
    | zero =>
      intro j f g u hj hf hHu hMu hJu hg hgo
      obtain ⟨f, rfl⟩ : ∃ g, f = g + 1 := ⟨f - 1, by omega⟩
      have ed : L.drop j = [] := List.drop_eq_nil_of_le (by omega)
      rw [ed] at hgo
      have hgo : g = gof pa L (fun _ => 0) := hgo
      have hs4 := gof_s L (fun _ => 0) hpaL
      rw [← hgo] at hs4
      have hs4 : g 0 + g 1 + g 2 + g 3 = L.length := by rw [show (s4 (fun _ => 0)) = 0 from rfl, Nat.zero_add] at hs4; exact hs4
      have hc0 : c0of pa L = cd4 (g 0) (g 1) (g 2) (g 3) := by unfold c0of; rw [← hgo]
      obtain ⟨u1, t1, t2, t3, t4⟩ := X_tclear (gG a 29 13) u
      have k33 : gM u1 33 = gM u 33 := t3.2.1 33 (by omega)
      have eK : p_Odds_keyOfGets u1 = some (nI (ck (c0of pa L))) := by
        unfold p_Odds_keyOfGets
        rw [if_pos g4_0, if_pos g4_1, if_pos g4_2, ix_0, ix_1, ix_2, k33, hg 0 (by omega), hg 1 (by omega), hg 2 (by omega), hc0, ck_cd (by omega) (by omega) (by omega) (by omega), show (41 : Int32) = nI 41 from rfl, pk_mul, nI_add, pk_mul, nI_add]
      have hadd := X_tadd (k := gG a 29 13) (n := L.length) (T := (0, fun _ => 0, fun _ => 0)) (s := u1) xl ⟨Nat.zero_le _, fun x hx => absurd hx (Nat.not_lt_zero x), fun x y hx => absurd hx (Nat.not_lt_zero x)⟩ t2 (c0_vc hpaL) 1
      have et : tadd (0, fun _ => 0, fun _ => 0) (c0of pa L) 1 = some (R0of pa L) := rfl
      rcases hadd with ⟨z1, z2⟩ | ⟨T', s', z1, z2, z3, z4⟩
      · rw [et] at z1; cases z1
      · rw [et] at z1
        cases z1
        refine ⟨s', ?_, ⟨z4.1.trans (t3.1.trans hHu.1), fun c w1 w2 => (z4.2.1 c (by omega)).trans ((t3.2.1 c (by omega)).trans (hHu.2.1 c w1 w2)), fun r hr => ?_, ?_, fun c w1 w2 w3 => ?_⟩, z3, fun c w1 w2 w3 => (z4.2.1 c (by omega)).trans ((t3.2.1 c (by omega)).trans (hMu c w1 w2 w3)), fun c w1 => ?_⟩
        · show p_Odds_startFromBody_B18 _ _ (nI j) u = _
          unfold p_Odds_startFromBody_B18
          rw [if_pos (nI_le (by omega) (by omega)), hHu.1, t1, bind1_s, eK, bind1_s, t3.1, hHu.1, show (1 : Int64) = lN 1 from rfl, z2, bind2_s]
        · rw [z4.2.1 16 (by omega), t3.2.1 16 (by omega)]; exact hHu.2.2.1 r hr
        · rw [z4.2.1 29 (by omega), t3.2.1 29 (by omega)]; exact hHu.2.2.2.1
        · rw [z4.2.2 c (by omega), t4]; exact hHu.2.2.2.2 c w1 w2 w3
        · rw [z4.2.2 c (by omega), t4, hJu]
    | succ m ih =>
      intro j f g u hj hf hHu hMu hJu hg hgo
      obtain ⟨f, rfl⟩ : ∃ g, f = g + 1 := ⟨f - 1, by omega⟩
      obtain ⟨u1, y1, yG, yH, yr, y14, yl, ym⟩ := hHu.bs hr hc hX h12 hS
      rw [eL] at y1 yr yl ym
      have hjl : j < L.length := by omega
      have hxn : L.getD j 0 < n := xm _ (mem_getD hjl)
      have hp4 := (hc.2.2.1 _ hxn).2.1
      have e1 := yr j hjl
      rw [Nat.zero_add] at e1
      have h13 := hS.1
      have eM : p_Sess_member (nI j) u = some (nI (L.getD j 0), u1) := by
        unfold p_Sess_member
        rw [if_neg (nI_pos (by omega)), y1, bind2_s, if_neg (nI_ge hjl (by omega)), y14, if_pos (gIn_t (show dn < 13 by omega) (by omega)), if_pos (gIn_t (show j < 40 by omega) (by omega)), ix_nI (by omega), ix_nI (by omega), e1]
      have hg1 : ∀ q, q < 4 → gM u1 33 q = nI (g q) := fun q hq => by rw [yG.2.2.1 33 (by omega) (by omega)]; exact hg q hq
      have eC : p_Odds_countParty (nI (pa (L.getD j 0))) u1 = some (sM u1 33 (pa (L.getD j 0)) (nI (g (pa (L.getD j 0)) + 1))) := by
        unfold p_Odds_countParty
        rw [isParty_t hp4, bind1_s, if_neg one_ne, if_pos (gIn_t hp4 (by omega)), if_pos (gIn_t hp4 (by omega)), ix_nI (by omega), hg1 _ hp4, nI_1, lq_e]
      have ed := drop_cons hjl
      rw [ed] at hgo
      have ih := ih (j + 1) f (inc g (pa (L.getD j 0))) (sM u1 33 (pa (L.getD j 0)) (nI (g (pa (L.getD j 0)) + 1))) (by omega) (by omega) ⟨yH.1, fun c z1 z2 => (gM_o (by omega)).trans (yH.2.1 c z1 z2), fun r hr => by rw [gM_o (by omega)]; exact yH.2.2.1 r hr, by rw [gM_o (by omega)]; exact yH.2.2.2.1, yH.2.2.2.2⟩ (fun c z1 z2 z3 => (gM_o z2).trans ((yG.2.2.1 c (by omega) z3).trans (hMu c z1 z2 z3))) (by show gJ u1 = _; rw [yG.2.1]; exact hJu) (fun q hq => by
        rw [gM_sM, if_pos rfl]
        unfold inc
        by_cases eq : q = pa (L.getD j 0)
        · rw [if_pos eq, if_pos eq, eq]
        · rw [if_neg eq, if_neg eq]; exact hg1 q hq) hgo
      show ∃ s', p_Odds_startFromBody_B18 (nI L.length) (lo2 (p_Odds_startFromBody_B18 (nI L.length)) f) (nI j) u = _ ∧ _
      generalize lo2 (p_Odds_startFromBody_B18 (nI L.length)) f = K at ih ⊢
      unfold p_Odds_startFromBody_B18
      rw [if_neg (nI_ge hjl (by omega)), eM, bind2_s, X_partyOf (yH.xc hr hX) hc hxn, bind1_s, eC, bind1_s, nI_1]
      exact ih
  have h := key L.length 0 fuelN (fun _ => 0) s2 (by omega) (by unfold fuelN; omega) hH2 (fun c z1 z2 z3 => (hG.2.2.1 c (by omega) z3).trans (f4 c z2)) (by rw [hG.2.1, f3]) (fun q hq => by rw [hG.2.2.1 33 (by omega) (by omega)]; exact f5 q hq) (by rw [List.drop_zero])
  have e0 : p_Odds_startFromBody s = lo2 (p_Odds_startFromBody_B18 (nI L.length)) fuelN (nI 0) s2 := by
    unfold p_Odds_startFromBody p_fill_ogets
    rw [f1, bind1_s, x1, bind2_s]; rfl
  rw [e0]
  exact h
end RECKON
