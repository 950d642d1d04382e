theorem one_ne : ¬ (1 : Int32) = 0 := by decide
theorem gJ_o {s : XS} {c0 j : Nat} {v : Int64} {c : Nat} (h : ¬ c = c0) : gJ (sJ s c0 j v) c = gJ s c := by
  show up2 s.2.2 c0 j v c = _
  unfold up2
  rw [if_neg h]; rfl
theorem S_kin : sim_kin Rel := by
  intro a b x y hR
  obtain ⟨n, ho, pa, pr, ye, ki, np, st, kd, sz, vt, lm, dn, BL, hc, hX, hY, hT, hL, hB, hO, hp, hP, hS⟩ := id hR
  have hn := hc.1
  rcases cit_cases n x with ⟨i, hi, rfl⟩ | hx
  · rcases cit_cases n y with ⟨j, hj, rfl⟩ | hy
    · by_cases eij : i = j
      · subst eij
        refine ⟨0, a, b, ?_, ?_, hR⟩
        · unfold p_House_kin p_City_tellKin
          rw [X_has_t hX hn hi, bind1_s, if_neg one_ne, bind1_s, if_neg one_ne, if_pos rfl]; rfl
        · unfold p_Model_kin
          rw [Y_cit_t hY hn hi, bind1_s, if_neg one_ne, bind1_s, if_neg one_ne, if_pos rfl]
      · have nij : ¬ nI i = nI j := fun q => eij ((nI_eq (by omega) (by omega)).mp q)
        have e1 : (40 : Int32) * nI i + nI j = nI (40 * i + j) := by rw [show (40 : Int32) = nI 40 from rfl, pk_mul, nI_add]
        have e2 : (40 : Int32) * nI j + nI i = nI (40 * j + i) := by rw [show (40 : Int32) = nI 40 from rfl, pk_mul, nI_add]
        have b1 : 40 * i + j < 1600 := by omega
        have b2 : 40 * j + i < 1600 := by omega
        have hY4 := hY.2.2.2.2 i j (by omega) (by omega)
        have hX4 := X_wasTold hX (i := i) (j := j) (by omega) (by omega)
        cases ek : ki i j with
        | true =>
          rw [ek] at hY4 hX4
          refine ⟨0, a, b, ?_, ?_, hR⟩
          · unfold p_House_kin p_City_tellKin
            rw [X_has_t hX hn hi, bind1_s, if_neg one_ne, X_has_t hX hn hj, bind1_s, if_neg one_ne, if_neg nij, hX4, bind1_s, if_neg (show ¬ nI (if true = true then 1 else 0) = 0 by decide)]; rfl
          · unfold p_Model_kin
            rw [Y_cit_t hY hn hi, bind1_s, if_neg one_ne, Y_cit_t hY hn hj, bind1_s, if_neg one_ne, if_neg nij, e1, if_pos (gIn_t b1 (by omega)), ix_nI (by omega), hY4, if_neg (show ¬ nI (if true = true then 1 else 0) = 0 by decide)]
        | false =>
          rw [ek] at hY4 hX4
          have hnp := hc.2.1
          by_cases e60 : np = 60
          · refine ⟨0, a, b, ?_, ?_, hR⟩
            · unfold p_House_kin p_City_tellKin
              rw [X_has_t hX hn hi, bind1_s, if_neg one_ne, X_has_t hX hn hj, bind1_s, if_neg one_ne, if_neg nij, hX4, bind1_s, if_pos (show nI (if false = true then 1 else 0) = 0 from rfl), hX.2.1, if_neg (show ¬ nI np < (60 : Int32) from nI_nlt (b := 60) (by omega) (by omega))]; rfl
            · unfold p_Model_kin
              rw [Y_cit_t hY hn hi, bind1_s, if_neg one_ne, Y_cit_t hY hn hj, bind1_s, if_neg one_ne, if_neg nij, e1, if_pos (gIn_t b1 (by omega)), ix_nI (by omega), hY4, if_pos (show nI (if false = true then 1 else 0) = 0 from rfl), hY.2.1, if_pos (show nI np = (60 : Int32) by rw [e60]; rfl)]
          · have g1 : nI np < (60 : Int32) := nI_lt (b := 60) (by omega) (by omega)
            have g2 : ¬ nI np = (60 : Int32) := fun q => e60 ((nI_eq (b := 60) (by omega) (by omega)).mp q)
            have h40i : gIn (nI i) 40 = true := gIn_t (by omega) (by omega)
            have h40j : gIn (nI j) 40 = true := gIn_t (by omega) (by omega)
            refine ⟨1, sM (sJ (sJ a 6 i (gJ a 6 i ||| ((1 : Int64) <<< ((nI j).toInt64 &&& 63)))) 6 j (gJ (sJ a 6 i (gJ a 6 i ||| ((1 : Int64) <<< ((nI j).toInt64 &&& 63)))) 6 j ||| ((1 : Int64) <<< ((nI i).toInt64 &&& 63)))) 1 6 (nI (np + 1)), sM (sM (sM b 4 (40 * i + j) (nI 1)) 4 (40 * j + i) (nI 1)) 0 5 (nI (np + 1)), ?_, ?_, ?_⟩
            · unfold p_House_kin p_City_tellKin
              rw [X_has_t hX hn hi, bind1_s, if_neg one_ne, X_has_t hX hn hj, bind1_s, if_neg one_ne, if_neg nij, hX4, bind1_s, if_pos (show nI (if false = true then 1 else 0) = 0 from rfl), hX.2.1, if_pos g1, if_pos h40i, if_pos h40i, lq_e, if_pos h40j, if_pos h40j, lq_e, lq_e, ix_nI (by omega), ix_nI (by omega)]
              have e9 : gM (sJ (sJ a 6 i (gJ a 6 i ||| ((1 : Int64) <<< ((nI j).toInt64 &&& 63)))) 6 j (gJ (sJ a 6 i (gJ a 6 i ||| ((1 : Int64) <<< ((nI j).toInt64 &&& 63)))) 6 j ||| ((1 : Int64) <<< ((nI i).toInt64 &&& 63)))) 1 6 = nI np := hX.2.1
              rw [e9, nI_1]; rfl
            · unfold p_Model_kin
              rw [Y_cit_t hY hn hi, bind1_s, if_neg one_ne, Y_cit_t hY hn hj, bind1_s, if_neg one_ne, if_neg nij, e1, e2, if_pos (gIn_t b1 (by omega)), ix_nI (by omega), hY4, if_pos (show nI (if false = true then 1 else 0) = 0 from rfl), hY.2.1, if_neg g2, if_pos (gIn_t b1 (by omega)), lq_e, if_pos (gIn_t b2 (by omega)), lq_e, lq_e, ix_nI (by omega)]
              have e9 : gM (sM (sM b 4 (40 * i + j) (vp_nar .boolean 1)) 4 (40 * j + i) (vp_nar .boolean 1)) 0 5 = nI np := hY.2.1
              rw [e9, nI_1]; rfl
            · refine ⟨n, ho, pa, pr, ye, (fun p q => ki p q || decide ((p = i ∧ q = j) ∨ (p = j ∧ q = i))), np + 1, st, kd, sz, vt, lm, dn, BL, ⟨hc.1, by omega, hc.2.2.1, hc.2.2.2.1, fun p q => ?_⟩, ⟨hX.1, rfl, hX.2.2.1, hX.2.2.2.1, fun p q hp2 hq => ?_⟩, ⟨hY.1, rfl, hY.2.2.1, hY.2.2.2.1, fun p q hp2 hq => ?_⟩, hT, hL, hB, ?_, hp, hP.fr hO.2.1 rfl (fun c h1 h2 => gM_o (s := sJ (sJ a 6 i (gJ a 6 i ||| ((1 : Int64) <<< ((nI j).toInt64 &&& 63)))) 6 j (gJ (sJ a 6 i (gJ a 6 i ||| ((1 : Int64) <<< ((nI j).toInt64 &&& 63)))) 6 j ||| ((1 : Int64) <<< ((nI i).toInt64 &&& 63)))) (by omega)) rfl rfl rfl rfl rfl, hS.fr hP.2.1 rfl rfl rfl (fun c h1 h2 => gM_o (s := sJ (sJ a 6 i (gJ a 6 i ||| ((1 : Int64) <<< ((nI j).toInt64 &&& 63)))) 6 j (gJ (sJ a 6 i (gJ a 6 i ||| ((1 : Int64) <<< ((nI j).toInt64 &&& 63)))) 6 j ||| ((1 : Int64) <<< ((nI i).toInt64 &&& 63)))) (by omega)) rfl rfl rfl rfl⟩
              · show (ki p q || _) = (ki q p || _)
                rw [hc.2.2.2.2 p q]
                congr 1
                apply decide_eq_decide.mpr
                constructor
                · intro z
                  rcases z with ⟨z1, z2⟩ | ⟨z1, z2⟩
                  · exact Or.inr ⟨z2, z1⟩
                  · exact Or.inl ⟨z2, z1⟩
                · intro z
                  rcases z with ⟨z1, z2⟩ | ⟨z1, z2⟩
                  · exact Or.inr ⟨z2, z1⟩
                  · exact Or.inl ⟨z2, z1⟩
              · have hk := hX.2.2.2.2 p q hp2 hq
                show (gJ (sJ (sJ a 6 i _) 6 j _) 6 p).toBitVec.getLsbD q = (ki p q || _)
                rw [gJ_sJ, if_pos rfl, gJ_sJ, if_pos rfl, gJ_sJ, if_pos rfl, if_neg (Ne.symm eij)]
                by_cases pj : p = j
                · subst pj
                  rw [if_pos rfl, bit_set _ (by omega) (by omega), hk]
                  congr 1
                  apply decide_eq_decide.mpr
                  constructor
                  · intro z; exact Or.inr ⟨rfl, z⟩
                  · intro z; rcases z with ⟨z1, z2⟩ | ⟨z1, z2⟩
                    · exact absurd z1.symm eij
                    · exact z2
                · rw [if_neg pj]
                  by_cases pi_ : p = i
                  · subst pi_
                    rw [if_pos rfl, bit_set _ (by omega) (by omega), hk]
                    congr 1
                    apply decide_eq_decide.mpr
                    constructor
                    · intro z; exact Or.inl ⟨rfl, z⟩
                    · intro z; rcases z with ⟨z1, z2⟩ | ⟨z1, z2⟩
                      · exact z2
                      · exact absurd z1 pj
                  · rw [if_neg pi_, hk]
                    have : decide ((p = i ∧ q = j) ∨ (p = j ∧ q = i)) = false := by simp [pi_, pj]
                    rw [this, Bool.or_false]
              · have hk := hY.2.2.2.2 p q hp2 hq
                show gM (sM (sM b 4 (40 * i + j) (nI 1)) 4 (40 * j + i) (nI 1)) 4 (40 * p + q) = nI (if (ki p q || decide ((p = i ∧ q = j) ∨ (p = j ∧ q = i))) = true then 1 else 0)
                rw [gM_sM, if_pos rfl, gM_sM, if_pos rfl]
                by_cases c1 : p = j ∧ q = i
                · rw [if_pos (by rw [c1.1, c1.2]), if_pos (by simp [c1])]
                · rw [if_neg (fun z => c1 (by omega))]
                  by_cases c2 : p = i ∧ q = j
                  · rw [if_pos (by rw [c2.1, c2.2]), if_pos (by simp [c2])]
                  · rw [if_neg (fun z => c2 (by omega)), hk]
                    have : decide ((p = i ∧ q = j) ∨ (p = j ∧ q = i)) = false := by simp [c1, c2]
                    rw [this, Bool.or_false]
              · have hg := hO.2.1 29 11
                have e39 : ∀ k, gJ (sJ (sJ a 6 i (gJ a 6 i ||| ((1 : Int64) <<< ((nI j).toInt64 &&& 63)))) 6 j (gJ (sJ a 6 i (gJ a 6 i ||| ((1 : Int64) <<< ((nI j).toInt64 &&& 63)))) 6 j ||| ((1 : Int64) <<< ((nI i).toInt64 &&& 63)))) (38 + k) = gJ a (38 + k) := fun k => (gJ_o (by omega)).trans (gJ_o (by omega))
                refine ⟨hO.1, hO.2.1, hO.2.2.1, hO.2.2.2.1, ?_⟩
                rcases hO.2.2.2.2 with z | ⟨z1, z2, z3⟩
                · exact Or.inl z
                · refine Or.inr ⟨z1, z2, fun k hk => ?_⟩
                  show gJ (sJ (sJ a 6 i _) 6 j _) (38 + gG a 29 11) k = _
                  rw [e39]; exact z3 k hk
    · refine ⟨0, a, b, ?_, ?_, hR⟩
      · unfold p_House_kin p_City_tellKin
        rw [X_has_t hX hn hi, bind1_s, if_neg one_ne, X_has_f hX hn hy, bind1_s, if_pos (show (0 : Int32) = 0 from rfl)]; rfl
      · unfold p_Model_kin
        rw [Y_cit_t hY hn hi, bind1_s, if_neg one_ne, Y_cit_f hY hn hy, bind1_s, if_pos (show (0 : Int32) = 0 from rfl)]
  · refine ⟨0, a, b, ?_, ?_, hR⟩
    · unfold p_House_kin p_City_tellKin
      rw [X_has_f hX hn hx, bind1_s, if_pos (show (0 : Int32) = 0 from rfl)]; rfl
    · unfold p_Model_kin
      rw [Y_cit_f hY hn hx, bind1_s, if_pos (show (0 : Int32) = 0 from rfl)]
