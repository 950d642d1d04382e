theorem rel_gx {a b s : XS} {n : Nat} {ho pa pr ye : Nat → Nat} {ki : Nat → Nat → Bool} {np st : Nat} {kd sz vt lm : Nat → Nat} {dn : Nat} {BL : Nat → List Nat} (hc : CC n ho pa pr ye ki np) (hX : XC a n ho pa pr ye ki np) (hY : YC b n ho pa pr ye ki np) (hT : RT a b) (hL : RL_ a b) (hB : RB a b) (hO : RO a b) (hp : PC st kd sz vt lm) (hP : RP a b st kd sz vt lm) (hS : RS a b n pr st kd dn BL) (hG : GX a s) : XC s n ho pa pr ye ki np ∧ RT s b ∧ RL_ s b ∧ RB s b ∧ RO s b ∧ RP s b st kd sz vt lm ∧ RS s b n pr st kd dn BL := by
  have h12 := hP.2.1
  have h13 := hS.1
  have g : ∀ c, ¬ c = 48 → ¬ c = 16 → gM s c = gM a c := hG.2.2.1
  refine ⟨hX.fr (fun c h1 h2 => g c (by omega) (by omega)) (by rw [hG.2.1]), hT.fr (g 7 (by omega) (by omega)) (g 8 (by omega) (by omega)) rfl rfl, hL.fr (g 10 (by omega) (by omega)) (g 11 (by omega) (by omega)) rfl rfl rfl, hB.fr (g 12 (by omega) (by omega)) (g 13 (by omega) (by omega)) rfl rfl rfl rfl rfl, hO.fr hG.1 (fun _ _ _ => by rw [hG.2.1]) (by rw [g 29 (by omega) (by omega)]) rfl rfl, hP.fr hO.2.1 hG.1 (fun c h1 h2 => g c (by omega) (by omega)) rfl rfl rfl rfl rfl, ?_⟩
  obtain ⟨q1, q2, q3, q4, q5, q6⟩ := hS
  refine ⟨q1, by rw [g 14 (by omega) (by omega)]; exact q2, q3, by rw [g 14 (by omega) (by omega)]; exact q4, fun r h1 h2 => ?_, q6⟩
  rw [hG.2.2.2 r (by omega), g (48 + r) (by omega) (by omega)]
  exact q5 r h1 h2
/-- the body as it stands -/
def bodyOf (pr : Nat → Nat) (n dn : Nat) (BL : Nat → List Nat) : List Nat := if dn = 0 then sel pr n else BL dn
theorem X_bodySize {a b : XS} {n : Nat} {ho pa pr ye : Nat → Nat} {ki : Nat → Nat → Bool} {np st : Nat} {kd : Nat → Nat} {dn : Nat} {BL : Nat → List Nat} (hc : CC n ho pa pr ye ki np) (hX : XC a n ho pa pr ye ki np) (h12 : st ≤ 12) (hS : RS a b n pr st kd dn BL) : ∃ s, p_Sess_bodySize a = some (nI (bodyOf pr n dn BL).length, s) ∧ GX a s ∧ rowIs (gM s (48 + dn)) 0 (bodyOf pr n dn BL) ∧ gM s 16 dn = nI (bodyOf pr n dn BL).length ∧ (bodyOf pr n dn BL).length ≤ 40 ∧ (∀ x ∈ bodyOf pr n dn BL, x < n) := by
  have h13 := hS.1
  have hn := hc.1
  rcases Nat.eq_zero_or_pos dn with e | e
  · subst e
    obtain ⟨s, h1, hG, z1, z2⟩ := X_gather hX hc
    have hl := sel_len pr n
    refine ⟨s, ?_, hG, z2, z1, by show (sel pr n).length ≤ 40; omega, fun x hx => sel_lt (pr := pr) hx⟩
    unfold p_Sess_bodySize
    have e14 : gM s 14 8 = nI 0 := by rw [hG.2.2.1 14 (by omega) (by omega)]; exact hS.2.1
    rw [hS.2.1, if_pos (show nI 0 = 0 from rfl), h1, bind1_s, e14, if_pos (gIn_t (show 0 < 13 by omega) (by omega)), ix_nI (by omega), z1]; rfl
  · have hr := hS.2.2.2.2.1 dn (by omega) (Nat.le_refl _)
    have eb : bodyOf pr n dn BL = BL dn := if_neg (by omega)
    rw [eb]
    refine ⟨a, ?_, ⟨rfl, rfl, fun _ _ _ => rfl, fun _ _ => rfl⟩, hr.2.2.2.1, hr.2.2.1, hr.1, hr.2.1⟩
    unfold p_Sess_bodySize
    rw [hS.2.1, if_neg (show ¬ nI dn = 0 from nI_ne0 e (by omega)), if_pos (gIn_t (show dn < 13 by omega) (by omega)), ix_nI (by omega), hr.2.2.1]
theorem Y_row {a b : XS} {n : Nat} {pr : Nat → Nat} {st : Nat} {kd sz vt lm : Nat → Nat} {dn : Nat} {BL : Nat → List Nat} (hp : PC st kd sz vt lm) (hP : RP a b st kd sz vt lm) (hS : RS a b n pr st kd dn BL) : ∃ r, r ≤ 12 ∧ p_Model_row b = some (nI r) ∧ gM b 15 r = nI (bodyOf pr n dn BL).length ∧ rowIs (gM b 16) (40 * r) (bodyOf pr n dn BL) := by
  have h12 := hP.2.1
  have h13 := hS.1
  rcases Nat.eq_zero_or_pos dn with e | e
  · subst e
    refine ⟨0, by omega, ?_, (hS.2.2.2.2.2 rfl).1, (hS.2.2.2.2.2 rfl).2⟩
    unfold p_Model_row
    rw [hS.2.2.1, if_pos (show nI 0 ≤ 0 by decide)]
  · have hr := hS.2.2.2.2.1 dn (by omega) (Nat.le_refl _)
    have eb : bodyOf pr n dn BL = BL dn := if_neg (by omega)
    have e1 : nI dn - (1 : Int32) = nI (dn - 1) := pk_sub (b := 1) (by omega)
    have hk := (hP.2.2.2.2 (dn - 1) (by omega)).2.1
    have hpc := hp (dn - 1) (by omega)
    rw [eb]
    by_cases e2 : kd (dn - 1) = 2
    · have h0 : ¬ dn - 1 = 0 := fun q => by have := hpc.2.2.2.2.2.2.2.2 q; omega
      have hr2 := hS.2.2.2.2.1 (dn - 1) (by omega) (by omega)
      have hpc2 := hp (dn - 1 - 1) (by omega)
      have e3 : ¬ kd (dn - 1 - 1) = 2 := fun q => by
        have a1 := hpc2.2.2.2.2.2.1.mp q
        have a2 := hpc.2.2.2.2.2.1.mp e2
        omega
      rw [hr.2.2.2.2.1 e2]
      refine ⟨dn - 1, by omega, ?_, (hr2.2.2.2.2.2 e3).1, (hr2.2.2.2.2.2 e3).2⟩
      unfold p_Model_row
      rw [hS.2.2.1, if_neg (nI_nle e (by omega)), e1, if_pos (gIn_t (show dn - 1 < 12 by omega) (by omega)), ix_nI (by omega), hk, e2, if_pos (show nI 2 = (2 : Int32) from rfl)]
    · refine ⟨dn, by omega, ?_, (hr.2.2.2.2.2 e2).1, (hr.2.2.2.2.2 e2).2⟩
      unfold p_Model_row
      rw [hS.2.2.1, if_neg (nI_nle e (by omega)), e1, if_pos (gIn_t (show dn - 1 < 12 by omega) (by omega)), ix_nI (by omega), hk, if_neg (show ¬ nI (kd (dn - 1)) = (2 : Int32) from fun q => e2 ((nI_eq (b := 2) (by omega) (by omega)).mp q))]
theorem S_body : sim_body Rel := by
  intro a b x hR
  obtain ⟨n, ho, pa, pr, ye, ki, np, st, kd, sz, vt, lm, dn, BL, hc, hX, hY, hT, hL, hB, hO, hp, hP, hS⟩ := id hR
  have h12 := hP.2.1
  have h13 := hS.1
  obtain ⟨s, h1, hG, h2, h3, h4, h5⟩ := X_bodySize hc hX h12 hS
  obtain ⟨r, r1, r2, r3, r4⟩ := Y_row hp hP hS
  obtain ⟨hX2, hT2, hL2, hB2, hO2, hP2, hS2⟩ := rel_gx hc hX hY hT hL hB hO hp hP hS hG
  have hR2 : Rel s b := ⟨n, ho, pa, pr, ye, ki, np, st, kd, sz, vt, lm, dn, BL, hc, hX2, hY, hT2, hL2, hB2, hO2, hp, hP2, hS2⟩
  generalize bodyOf pr n dn BL = L at h1 h2 h3 h4 h5 r3 r4
  have ebn : p_Model_bodyNow b = some (nI L.length) := by
    unfold p_Model_bodyNow
    rw [r2, bind1_s, if_pos (gIn_t (show r < 13 by omega) (by omega)), ix_nI (by omega), r3]
  rcases cit_cases L.length x with ⟨j, hj, rfl⟩ | hx
  · refine ⟨nI (L.getD j 0), s, ?_, ?_, hR2⟩
    · unfold p_House_body p_Sess_member
      have e14 : gM s 14 8 = nI dn := hS2.2.1
      have e48 := h2 j hj
      rw [Nat.zero_add] at e48
      rw [if_neg (nI_pos (by omega)), h1, bind2_s, if_neg (nI_ge hj (by omega)), e14, if_pos (gIn_t (show dn < 13 by omega) (by omega)), if_pos (gIn_t (show j < 40 by omega) (by omega)), ix_nI (by omega), ix_nI (by omega), e48]; rfl
    · unfold p_Model_body
      have e1 : (40 : Int32) * nI r + nI j = nI (40 * r + j) := by rw [show (40 : Int32) = nI 40 from rfl, pk_mul, nI_add]
      rw [ebn, bind1_s, Y_in_t hj (by omega), bind1_s, if_neg one_ne, r2, bind1_s, e1, if_pos (gIn_t (show 40 * r + j < 520 by omega) (by omega)), ix_nI (by omega), r4 j hj]
  · have ey : p_Model_body x b = some (-1) := by
      unfold p_Model_body
      rw [ebn, bind1_s, Y_in_f (by omega) hx, bind1_s, if_pos (show (0 : Int32) = 0 from rfl)]
    by_cases h0 : x < 0
    · refine ⟨-1, a, ?_, ey, hR⟩
      unfold p_House_body p_Sess_member
      rw [if_pos h0]; rfl
    · refine ⟨-1, s, ?_, ey, hR2⟩
      obtain ⟨j, hj, e⟩ := nI_of h0
      subst e
      have : L.length ≤ j := Nat.not_lt.mp (fun q => hx j q rfl)
      unfold p_House_body p_Sess_member
      rw [if_neg h0, h1, bind2_s, if_pos (nI_le this hj)]; rfl
theorem Y_cnt {b : XS} {n : Nat} {ho pa pr ye : Nat → Nat} {ki : Nat → Nat → Bool} {np : Nat} (h : YC b n ho pa pr ye ki np) (hc : CC n ho pa pr ye ki np) : lo2 (p_Model_count_B59 b) fuelN 0 0 = some (nI (cnt (fun o => pr o == 1) n)) := by
  have hn := hc.1
  have key : ∀ (m i f : Nat), i + m = n → m < f → lo2 (p_Model_count_B59 b) f (nI (cnt (fun o => pr o == 1) i)) (nI i) = some (nI (cnt (fun o => pr o == 1) n)) := by
    intro m
    induction m with
    | zero =>
      intro i f hi hf
      obtain ⟨f, rfl⟩ : ∃ g, f = g + 1 := ⟨f - 1, by omega⟩
      show p_Model_count_B59 b _ _ (nI i) = _
      unfold p_Model_count_B59
      rw [h.1, if_pos (nI_le (by omega) (by omega)), show i = n by omega]
    | succ m ih =>
      intro i f hi hf
      obtain ⟨f, rfl⟩ : ∃ g, f = g + 1 := ⟨f - 1, by omega⟩
      have ih := ih (i + 1) f (by omega) (by omega)
      have hp := (hc.2.2.1 i (by omega)).2.2
      show p_Model_count_B59 b (lo2 (p_Model_count_B59 b) f) _ (nI i) = _
      generalize lo2 (p_Model_count_B59 b) f = k at ih ⊢
      unfold p_Model_count_B59
      have hz : nI (cnt (fun o => pr o == 1) i) + (0 : Int32) = nI (cnt (fun o => pr o == 1) i) := by rw [show (0 : Int32) = nI 0 from rfl, nI_add, Nat.add_zero]
      rw [h.1, if_neg (nI_ge (by omega) (by omega)), if_pos (gIn_t (show i < 40 by omega) (by omega)), ix_nI (by omega), (h.2.2.1 i (by omega)).2.2, show nI i + (1 : Int32) = nI (i + 1) from nI_1 i, hz, nI_1]
      rcases (show pr i = 0 ∨ pr i = 1 by omega) with e | e
      · have e2 : cnt (fun o => pr o == 1) (i + 1) = cnt (fun o => pr o == 1) i := by show _ + _ = _; simp [e]
        rw [e2] at ih
        rw [e, if_pos (show nI 0 = 0 from rfl)]; exact ih
      · have e2 : cnt (fun o => pr o == 1) (i + 1) = cnt (fun o => pr o == 1) i + 1 := by show _ + _ = _; simp [e]
        rw [e2] at ih
        rw [e, if_neg (show ¬ nI 1 = 0 by decide)]; exact ih
  exact key n 0 fuelN (by omega) (by unfold fuelN; omega)
theorem S_count : sim_count Rel := by
  intro a b x hR
  obtain ⟨n, ho, pa, pr, ye, ki, np, st, kd, sz, vt, lm, dn, BL, hc, hX, hY, hT, hL, hB, hO, hp, hP, hS⟩ := id hR
  have h12 := hP.2.1
  have h13 := hS.1
  have eP : p_Sess_stepsInAll a = some (nI st) := by
    unfold p_Sess_stepsInAll p_Plan_length
    rw [hP.2.2.1]; rfl
  unfold p_House_count p_Model_count
  by_cases c0 : x = 0
  · exact ⟨nI n, a, by rw [if_pos c0]; show some (gM a 1 5, a) = _; rw [hX.1], by rw [if_pos c0, hY.1], hR⟩
  by_cases c1 : x = 1
  · exact ⟨_, a, by rw [if_neg c0, if_pos c1, X_sizeThere hX hc]; rfl, by rw [if_neg c0, if_pos c1, Y_cnt hY hc], hR⟩
  by_cases c2 : x = 2
  · exact ⟨nI np, a, by rw [if_neg c0, if_neg c1, if_pos c2]; show some (gM a 1 6, a) = _; rw [hX.2.1], by rw [if_neg c0, if_neg c1, if_pos c2, hY.2.1], hR⟩
  by_cases c3 : x = 3
  · exact ⟨nI st, a, by rw [if_neg c0, if_neg c1, if_neg c2, if_pos c3, eP]; rfl, by rw [if_neg c0, if_neg c1, if_neg c2, if_pos c3, hP.2.2.2.1], hR⟩
  by_cases c4 : x = 4
  · exact ⟨nI dn, a, by rw [if_neg c0, if_neg c1, if_neg c2, if_neg c3, if_pos c4]; show some (gM a 14 8, a) = _; rw [hS.2.1], by rw [if_neg c0, if_neg c1, if_neg c2, if_neg c3, if_pos c4, hS.2.2.1], hR⟩
  by_cases c5 : x = 5
  · obtain ⟨s, h1, hG, h2, h3, h4, h5⟩ := X_bodySize hc hX h12 hS
    obtain ⟨r, r1, r2, r3, r4⟩ := Y_row hp hP hS
    obtain ⟨hX2, hT2, hL2, hB2, hO2, hP2, hS2⟩ := rel_gx hc hX hY hT hL hB hO hp hP hS hG
    refine ⟨_, s, by rw [if_neg c0, if_neg c1, if_neg c2, if_neg c3, if_neg c4, if_pos c5, h1]; rfl, ?_, n, ho, pa, pr, ye, ki, np, st, kd, sz, vt, lm, dn, BL, hc, hX2, hY, hT2, hL2, hB2, hO2, hp, hP2, hS2⟩
    rw [if_neg c0, if_neg c1, if_neg c2, if_neg c3, if_neg c4, if_pos c5]
    unfold p_Model_bodyNow
    rw [r2, bind1_s, if_pos (gIn_t (show r < 13 by omega) (by omega)), ix_nI (by omega), r3]; rfl
  obtain ⟨w, f, v, hw, hf, l1, l2, l3, l4, l5⟩ := hL
  obtain ⟨t, tv, t0, t1, t2, t3⟩ := hT
  by_cases c6 : x = 6
  · exact ⟨nI w, a, by rw [if_neg c0, if_neg c1, if_neg c2, if_neg c3, if_neg c4, if_neg c5, if_pos c6]; show some (gM a 10 2, a) = _; rw [l2], by rw [if_neg c0, if_neg c1, if_neg c2, if_neg c3, if_neg c4, if_neg c5, if_pos c6, l3], hR⟩
  by_cases c7 : x = 7
  · exact ⟨gM b 0 24, a, by rw [if_neg c0, if_neg c1, if_neg c2, if_neg c3, if_neg c4, if_neg c5, if_neg c6, if_pos c7]; show some (gM a 10 3, a) = _; rw [l4], by rw [if_neg c0, if_neg c1, if_neg c2, if_neg c3, if_neg c4, if_neg c5, if_neg c6, if_pos c7], hR⟩
  by_cases c8 : x = 8
  · exact ⟨nI t, a, by rw [if_neg c0, if_neg c1, if_neg c2, if_neg c3, if_neg c4, if_neg c5, if_neg c6, if_neg c7, if_pos c8]; show some (gM a 7 1, a) = _; rw [t1], by rw [if_neg c0, if_neg c1, if_neg c2, if_neg c3, if_neg c4, if_neg c5, if_neg c6, if_neg c7, if_pos c8, t2], hR⟩
  exact ⟨-1, a, by rw [if_neg c0, if_neg c1, if_neg c2, if_neg c3, if_neg c4, if_neg c5, if_neg c6, if_neg c7, if_neg c8], by rw [if_neg c0, if_neg c1, if_neg c2, if_neg c3, if_neg c4, if_neg c5, if_neg c6, if_neg c7, if_neg c8], hR⟩
