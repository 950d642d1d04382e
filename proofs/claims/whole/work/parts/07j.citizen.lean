theorem Y_in_any {x : Int32} {k : Nat} {K : Int32} (eK : K = nI (k - 1)) (hk0 : 0 < k) (hk : k < 2 ^ 31) : p_Model_in x 0 K = some 0 ∨ p_Model_in x 0 K = some 1 := by
  rcases par_cases k x with ⟨i, hi, rfl⟩ | hx
  · exact Or.inr (Y_in3_t eK hi hk)
  · exact Or.inl (Y_in3_f eK hk0 hk hx)
theorem S_citizen : sim_citizen Rel := by
  intro a b x y hR
  obtain ⟨n, ho, pa, pr, ye, ki, np, st, kd, sz, vt, lm, dn, BL, hc, hX, hY, hT, hL, hB, hO, hp, hP, hS⟩ := id hR
  have hn := hc.1
  have h12 := hP.2.1
  have h13 := hS.1
  have ed : p_Sess_stepsDone a = some (nI dn) := by
    show some (gM a 14 8) = _
    rw [hS.2.1]
  rcases Nat.eq_zero_or_pos dn with e0 | e0
  · subst e0
    have z0 : nI 0 ≤ (0 : Int32) := by decide
    have m1 : ∀ X : Int32 × XS, p_City_settle x y a = some X → p_House_citizen x y a = some X := by
      intro X hh
      unfold p_House_citizen
      rw [ed, bind1_s, if_pos z0, hh]; rfl
    by_cases h40 : n = 40
    · refine ⟨-1, a, b, m1 _ ?_, ?_, hR⟩
      · unfold p_City_settle
        rw [hX.1, if_pos (show (40 : Int32) ≤ nI n from nI_le (a := 40) (by omega) (by omega))]
      · unfold p_Model_citizen
        rw [hY.1, if_pos (show nI n = (40 : Int32) by rw [h40]; rfl)]
    · have n1 : ¬ (40 : Int32) ≤ nI n := nI_ge (b := 40) (by omega) (by omega)
      have n2 : ¬ nI n = (40 : Int32) := fun q => h40 ((nI_eq (b := 40) (by omega) (by omega)).mp q)
      have g40 : gIn (nI n) 40 = true := gIn_t (by omega) (by omega)
      rcases par_cases 12 x with ⟨h, hh, rfl⟩ | hx
      · rcases par_cases 4 y with ⟨p, hpp, rfl⟩ | hy
        · obtain ⟨s, h1, hg, h3⟩ := begin_rel (a := sM (sM (sM (sM a 2 n (nI h)) 3 n (nI p)) 4 n (nI 1)) 1 5 (nI (n + 1))) (b := sM (sM (sM (sM b 1 n (nI h)) 2 n (nI p)) 3 n (nI 1)) 0 0 (nI (n + 1))) (n := n + 1) (ho := fun k => if k = n then h else ho k) (pa := fun k => if k = n then p else pa k) (pr := fun k => if k = n then 1 else pr k) (ye := ye) (ki := ki) (np := np) (st := st) (kd := kd) (sz := sz) (vt := vt) (lm := lm) (dn := 0) (BL := BL)
            ⟨by omega, hc.2.1, fun k hk => by
              show (if k = n then h else ho k) < 12 ∧ (if k = n then p else pa k) < 4 ∧ (if k = n then 1 else pr k) < 2
              by_cases e : k = n
              · rw [if_pos e, if_pos e, if_pos e]; omega
              · rw [if_neg e, if_neg e, if_neg e]; exact hc.2.2.1 k (by omega), hc.2.2.2.1, hc.2.2.2.2⟩
            ⟨rfl, hX.2.1, fun k hk => by
              show gM (sM a 2 n (nI h)) 2 k = nI (if k = n then h else ho k) ∧ gM (sM (sM a 2 n (nI h)) 3 n (nI p)) 3 k = nI (if k = n then p else pa k) ∧ gM (sM (sM (sM a 2 n (nI h)) 3 n (nI p)) 4 n (nI 1)) 4 k = nI (if k = n then 1 else pr k)
              refine ⟨?_, ?_, ?_⟩
              · rw [gM_sM, if_pos rfl]
                by_cases e : k = n
                · rw [if_pos e, if_pos e]
                · rw [if_neg e, if_neg e]; exact (hX.2.2.1 k (by omega)).1
              · rw [gM_sM, if_pos rfl]
                by_cases e : k = n
                · rw [if_pos e, if_pos e]
                · rw [if_neg e, if_neg e]; exact (hX.2.2.1 k (by omega)).2.1
              · rw [gM_sM, if_pos rfl]
                by_cases e : k = n
                · rw [if_pos e, if_pos e]
                · rw [if_neg e, if_neg e]; exact (hX.2.2.1 k (by omega)).2.2, hX.2.2.2.1, hX.2.2.2.2⟩
            ⟨rfl, hY.2.1, fun k hk => by
              show gM (sM b 1 n (nI h)) 1 k = nI (if k = n then h else ho k) ∧ gM (sM (sM b 1 n (nI h)) 2 n (nI p)) 2 k = nI (if k = n then p else pa k) ∧ gM (sM (sM (sM b 1 n (nI h)) 2 n (nI p)) 3 n (nI 1)) 3 k = nI (if k = n then 1 else pr k)
              refine ⟨?_, ?_, ?_⟩
              · rw [gM_sM, if_pos rfl]
                by_cases e : k = n
                · rw [if_pos e, if_pos e]
                · rw [if_neg e, if_neg e]; exact (hY.2.2.1 k (by omega)).1
              · rw [gM_sM, if_pos rfl]
                by_cases e : k = n
                · rw [if_pos e, if_pos e]
                · rw [if_neg e, if_neg e]; exact (hY.2.2.1 k (by omega)).2.1
              · rw [gM_sM, if_pos rfl]
                by_cases e : k = n
                · rw [if_pos e, if_pos e]
                · rw [if_neg e, if_neg e]; exact (hY.2.2.1 k (by omega)).2.2, hY.2.2.2.1, hY.2.2.2.2⟩
            hT hL hB hO hp (hP.fr hO.2.1 rfl (fun c h1 h2 => (gM_o (by omega)).trans ((gM_o (by omega)).trans ((gM_o (by omega)).trans (gM_o (by omega))))) rfl rfl rfl rfl rfl) (by omega) hS.2.1 hS.2.2.1 hS.2.2.2.1 (fun r h1 h2 => absurd h2 (by omega))
          refine ⟨nI n, _, s, m1 _ ?_, ?_, h3⟩
          · unfold p_City_settle
            rw [hX.1, if_neg n1, isHouse_t hh, bind1_s, if_neg one_ne, isParty_t hpp, bind1_s, if_neg one_ne, if_pos g40, lq_e, if_pos g40, lq_e, if_pos g40, lq_e, lq_e, ix_nI (by omega)]
            have e9 : gM (sM (sM (sM a 2 n (nI h)) 3 n (nI p)) 4 n (vp_nar .boolean 1)) 1 5 = nI n := hX.1
            rw [e9, nI_1]; rfl
          · unfold p_Model_citizen
            have e9 : ∀ v : Int32, gM (sM b 1 n v) 0 0 = nI n := fun _ => hY.1
            have e10 : ∀ v w : Int32, gM (sM (sM b 1 n v) 2 n w) 0 0 = nI n := fun _ _ => hY.1
            have e11 : ∀ v w z : Int32, gM (sM (sM (sM b 1 n v) 2 n w) 3 n z) 0 0 = nI n := fun _ _ _ => hY.1
            rw [hY.1, if_neg n2, Y_in3_t (K := 11) (k := 12) rfl hh (by omega), bind1_s, if_neg one_ne, Y_in3_t (K := 3) (k := 4) rfl hpp (by omega), bind1_s, if_neg one_ne, hS.2.2.1, if_pos z0, if_pos g40, lq_e, ix_nI (by omega), e9, if_pos g40, lq_e, ix_nI (by omega), e10, if_pos g40, lq_e, ix_nI (by omega), lq_e, e11, nI_1]
            rw [show vp_nar .boolean (1 : Int32) = nI 1 from rfl, h1, bind1_s, hg 0 (by omega) (by omega)]
            show some (nI (n + 1) - 1, s) = _
            rw [show nI (n + 1) - 1 = nI n from nI_pred n]
        · refine ⟨-1, a, b, m1 _ ?_, ?_, hR⟩
          · unfold p_City_settle
            rw [hX.1, if_neg n1, isHouse_t hh, bind1_s, if_neg one_ne, isParty_f hy, bind1_s, if_pos (show (0 : Int32) = 0 from rfl)]
          · unfold p_Model_citizen
            rw [hY.1, if_neg n2, Y_in3_t (K := 11) (k := 12) rfl hh (by omega), bind1_s, if_neg one_ne, Y_in3_f (K := 3) (k := 4) rfl (by omega) (by omega) hy, bind1_s, if_pos (show (0 : Int32) = 0 from rfl)]
      · refine ⟨-1, a, b, m1 _ ?_, ?_, hR⟩
        · unfold p_City_settle
          rw [hX.1, if_neg n1, isHouse_f hx, bind1_s, if_pos (show (0 : Int32) = 0 from rfl)]
        · unfold p_Model_citizen
          rw [hY.1, if_neg n2, Y_in3_f (K := 11) (k := 12) rfl (by omega) (by omega) hx, bind1_s, if_pos (show (0 : Int32) = 0 from rfl)]
  · have z0 : ¬ nI dn ≤ (0 : Int32) := nI_nle e0 (by omega)
    refine ⟨-1, a, b, ?_, ?_, hR⟩
    · unfold p_House_citizen
      rw [ed, bind1_s, if_neg z0]
    · unfold p_Model_citizen
      by_cases h40 : gM b 0 0 = (40 : Int32)
      · rw [if_pos h40]
      · rw [if_neg h40]
        rcases Y_in_any (x := x) (K := 11) (k := 12) rfl (by omega) (by omega) with q | q
        · rw [q, bind1_s, if_pos (show (0 : Int32) = 0 from rfl)]
        · rw [q, bind1_s, if_neg one_ne]
          rcases Y_in_any (x := y) (K := 3) (k := 4) rfl (by omega) (by omega) with q2 | q2
          · rw [q2, bind1_s, if_pos (show (0 : Int32) = 0 from rfl)]
          · rw [q2, bind1_s, if_neg one_ne, hS.2.2.1, if_neg z0]
