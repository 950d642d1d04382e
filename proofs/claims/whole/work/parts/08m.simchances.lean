/-! CHANCES: both sides -/
theorem HY.rel {a b s t : XS} {n : Nat} {ho pa pr ye : Nat → Nat} {ki : Nat → Nat → Bool} {np st : Nat} {kd sz vt lm : Nat → Nat} {dn : Nat} {BL : Nat → List Nat} (hc : CC n ho pa pr ye ki np) (hX : XC a n ho pa pr ye ki np) (hY : YC b n ho pa pr ye ki np) (hT : RT a b) (hL : RL_ a b) (hB : RB a b) (hO : RO a b) (hp : PC st kd sz vt lm) (hP : RP a b st kd sz vt lm) (hS : RS a b n pr st kd dn BL) (hH : HY a s) (hF : FC b t) (hR : RO s t) : Rel s t := by
  have hk : gG a 14 7 < 2 := hO.2.1 14 7
  have hr : gG a 29 12 < 2 := hO.2.1 29 12
  obtain ⟨h1, h2, h3, h4, h5, h6, h7, h8⟩ := hH
  have m : ∀ c, ¬ c = 16 → ¬ (29 ≤ c ∧ c ≤ 48) → gM s c = gM a c := h5
  have y0 : ∀ j, ¬ j = 39 → ¬ j = 42 → ¬ j = 49 → ¬ j = 46 → gM t 0 j = gM b 0 j := hF.2.1
  have y : ∀ c, ¬ c = 0 → ¬ c = 21 → ¬ c = 23 → gM t c = gM b c := hF.1
  refine ⟨n, ho, pa, pr, ye, ki, np, st, kd, sz, vt, lm, dn, BL, hc, hX.fr (fun c z1 z2 => m c (by omega) (by omega)) (h8 6 (by omega) (by omega) (by omega)), hY.fr (y0 0 (by omega) (by omega) (by omega) (by omega)) (y0 5 (by omega) (by omega) (by omega) (by omega)) (fun c z1 z2 => y c (by omega) (by omega) (by omega)), hT.fr (m 7 (by omega) (by omega)) (m 8 (by omega) (by omega)) (y0 8 (by omega) (by omega) (by omega) (by omega)) (y 6 (by omega) (by omega) (by omega)), hL.fr (m 10 (by omega) (by omega)) (m 11 (by omega) (by omega)) (y0 23 (by omega) (by omega) (by omega) (by omega)) (y0 24 (by omega) (by omega) (by omega) (by omega)) (y 17 (by omega) (by omega) (by omega)), hB.fr (m 12 (by omega) (by omega)) (m 13 (by omega) (by omega)) (y0 33 (by omega) (by omega) (by omega) (by omega)) (y0 34 (by omega) (by omega) (by omega) (by omega)) (y0 35 (by omega) (by omega) (by omega) (by omega)) (y0 36 (by omega) (by omega) (by omega) (by omega)) (y 19 (by omega) (by omega) (by omega)), hR, hp, ?_, hS.fr2 hc.1 (by rw [m 14 (by omega) (by omega)]) (by rw [m 14 (by omega) (by omega)]) (y0 18 (by omega) (by omega) (by omega) (by omega)) (y0 21 (by omega) (by omega) (by omega) (by omega)) (fun r z1 _ => h6 r (by omega)) (fun r z1 _ => m (48 + r) (by omega) (by omega)) (fun r _ => by rw [y 15 (by omega) (by omega) (by omega)]) (fun j _ => by rw [y 16 (by omega) (by omega) (by omega)])⟩
  have g14 : gG s 14 7 = gG a 14 7 := h1 14 7 (by omega)
  have g0 : gG s 0 7 = gG a 0 7 := h1 0 7 (by omega)
  obtain ⟨q1, q2, q3, q4, q5⟩ := hP
  refine ⟨by rw [g14, g0]; exact q1, q2, by rw [g14, m _ (by omega) (by omega)]; exact q3, by rw [y0 9 (by omega) (by omega) (by omega) (by omega)]; exact q4, fun i hi => ?_⟩
  rw [g14, m _ (by omega) (by omega), m _ (by omega) (by omega), m _ (by omega) (by omega), m _ (by omega) (by omega), y 7 (by omega) (by omega) (by omega), y 8 (by omega) (by omega) (by omega), y 9 (by omega) (by omega) (by omega), y 10 (by omega) (by omega) (by omega)]
  exact q5 i hi
theorem HY.ro {a b s t : XS} (hO : RO a b) (hH : HY a s) (hF : FZ b t) : RO s t := by
  have hr : gG a 29 12 < 2 := hO.2.1 29 12
  have hr1 : gG a 29 11 < 2 := hO.2.1 29 11
  obtain ⟨h1, h2, h3, h4, h5, h6, h7, h8⟩ := hH
  have g11 : gG s 29 11 = gG a 29 11 := h1 29 11 (by omega)
  have g12 : gG s 29 12 = gG a 29 12 := h1 29 12 (by omega)
  refine ⟨by rw [h8 30 (by omega) (by omega) (by omega)]; exact hO.1, fun c j => ?_, by rw [g11, g12]; exact hO.2.2.1, h4, ?_⟩
  · by_cases e : c = 29 ∧ (j = 13 ∨ j = 14)
    · obtain ⟨e1, e2⟩ := e
      subst e1
      rcases e2 with e2 | e2 <;> subst e2
      · exact h2
      · exact h3
    · rw [h1 c j e]; exact hO.2.1 c j
  · have hne := hO.2.2.1
    rw [h7, hF.2.1 46 (by omega) (by omega) (by omega), g11, h8 _ (by omega) (by omega) (by omega), hF.2.2 25 (by omega) (by omega) (by omega) (by omega)]
    exact hO.2.2.2.2
theorem S_chances : sim_chances Rel := by
  intro a b hR
  obtain ⟨n, ho, pa, pr, ye, ki, np, st, kd, sz, vt, lm, dn, BL, hc, hX, hY, hT, hL, hB, hO, hp, hP, hS⟩ := id hR
  have h12 := hP.2.1
  have h13 := hS.1
  have hk : gG a 14 7 < 2 := hO.2.1 14 7
  have hr : gG a 29 12 < 2 := hO.2.1 29 12
  have hr1 : gG a 29 11 < 2 := hO.2.1 29 11
  have FZ_C : ∀ {t : XS}, FZ b t → FC b t := fun h => ⟨h.1, fun j z1 z2 z3 _ => h.2.1 j z1 z2 z3, fun c z1 z2 z3 z4 _ => h.2.2 c z1 z2 z3 z4⟩
  by_cases hlt : dn < st
  · obtain ⟨_, _, _, _, _, _, xl, xm⟩ := HX.bs (a := a) (s := a) ⟨rfl, fun _ _ _ => rfl, fun _ _ => rfl, rfl, fun _ _ _ _ => rfl⟩ hr hc hX h12 hS
    have hx := X_reckon hlt hc hX hO hp hP hS
    have hy := Y_chances rfl hlt hc hY hp hP hS xl xm
    dsimp only at hx
    have hspent : (∃ s', HY a s' ∧ p_House_chances a = some (-2, s')) → (∃ t', FZ b t' ∧ p_Model_chances b = some (-2, t')) → ∃ (r : Int32) (a' : XS) (b' : XS), p_House_chances a = some (r, a') ∧ p_Model_chances b = some (r, b') ∧ Rel a' b' := by
      intro ⟨s', u1, u2⟩ ⟨t', w1, w2⟩
      exact ⟨-2, s', t', u2, w2, u1.rel hc hX hY hT hL hB hO hp hP hS (FZ_C w1) (u1.ro hO w1)⟩
    rcases hx with ⟨g1, hx⟩ | ⟨g1, hx⟩
    · rcases hy with ⟨-, hy⟩ | ⟨g2, -⟩
      · exact hspent hx hy
      · rw [g1] at g2; cases g2
    · rcases hx with ⟨e1, hx⟩ | ⟨M, E, s', e1, u1, u2, u3⟩
      · rcases hy with ⟨-, hy⟩ | ⟨-, M2, E2, t', e2, -⟩
        · exact hspent hx hy
        · rw [e1] at e2; cases e2
      · rcases hy with ⟨g2, -⟩ | ⟨-, M2, E2, t', e2, w1, w2, w3, w4, w5, w6⟩
        · rcases g2 with g2 | g2
          · rw [g1] at g2; cases g2
          · rw [e1] at g2; cases g2
        · rw [e1] at e2
          cases e2
          refine ⟨0, _, t', u3, w2, ?_⟩
          have g11 : gG s' 29 11 = gG a 29 11 := u1.1 29 11 (by omega)
          have g12 : gG s' 29 12 = gG a 29 12 := u1.1 29 12 (by omega)
          have hne : ¬ gG a 29 11 = gG a 29 12 := hO.2.2.1
          have gg : ∀ c j, ¬ (c = 29 ∧ (j = 11 ∨ j = 12)) → gG (sM (sG (sG s' 29 11 (gG s' 29 12)) 29 12 (gG s' 29 11)) 29 15 1) c j = gG s' c j := fun c j z => by
            show gG (sG (sG s' 29 11 (gG s' 29 12)) 29 12 (gG s' 29 11)) c j = _
            rw [gG_sG]
            by_cases e3 : c = 29
            · rw [if_pos e3, if_neg (fun q => z ⟨e3, Or.inr q⟩), gG_sG, if_pos e3, if_neg (fun q => z ⟨e3, Or.inl q⟩)]
            · rw [if_neg e3, gG_sG, if_neg e3]
          have G11 : gG (sM (sG (sG s' 29 11 (gG s' 29 12)) 29 12 (gG s' 29 11)) 29 15 1) 29 11 = gG a 29 12 := g12
          have G12 : gG (sM (sG (sG s' 29 11 (gG s' 29 12)) 29 12 (gG s' 29 11)) 29 15 1) 29 12 = gG a 29 11 := g11
          have MM : ∀ c, ¬ c = 29 → gM (sM (sG (sG s' 29 11 (gG s' 29 12)) 29 12 (gG s' 29 11)) 29 15 1) c = gM s' c := fun c hc29 => gM_o (s := sG (sG s' 29 11 (gG s' 29 12)) 29 12 (gG s' 29 11)) hc29
          have JJ : gJ (sM (sG (sG s' 29 11 (gG s' 29 12)) 29 12 (gG s' 29 11)) 29 15 1) = gJ s' := rfl
          have M15 : gM (sM (sG (sG s' 29 11 (gG s' 29 12)) 29 12 (gG s' 29 11)) 29 15 1) 29 15 = 1 := rfl
          generalize sM (sG (sG s' 29 11 (gG s' 29 12)) 29 12 (gG s' 29 11)) 29 15 1 = sf at gg G11 G12 MM JJ M15 ⊢
          have hRO : RO sf t' := by
            refine ⟨by rw [JJ, u1.2.2.2.2.2.2.2 30 (by omega) (by omega) (by omega)]; exact hO.1, fun c j => ?_, by rw [G11, G12]; exact fun q => hne q.symm, by rw [gg 29 13 (by omega), gg 29 14 (by omega)]; exact u1.2.2.2.1, Or.inr ⟨M15, w3, fun i hi => ?_⟩⟩
            · by_cases e3 : c = 29 ∧ (j = 11 ∨ j = 12)
              · obtain ⟨e4, e5⟩ := e3
                subst e4
                rcases e5 with e5 | e5 <;> subst e5
                · rw [G11]; exact hr
                · rw [G12]; exact hr1
              · rw [gg c j e3]
                by_cases e6 : c = 29 ∧ (j = 13 ∨ j = 14)
                · obtain ⟨e4, e5⟩ := e6
                  subst e4
                  rcases e5 with e5 | e5 <;> subst e5
                  · exact u1.2.1
                  · exact u1.2.2.1
                · rw [u1.1 c j e6]; exact hO.2.1 c j
            · rw [JJ, G11]
              rcases (show i < 40 ∨ i = 40 ∨ i = 41 by omega) with e7 | e7 | e7
              · rw [u2.2.1 i e7, w4 i e7]
              · rw [e7, u2.1, w5, Nat.mul_one]
              · rw [e7, u2.2.2, w6, Nat.one_mul]
          -- the relation, by a state whose pointers are the old ones
          have hA : ∃ a2 : XS, XC a2 n ho pa pr ye ki np ∧ True := ⟨a, hX, trivial⟩
          obtain ⟨q1, q2, q3, q4, q5⟩ := hP
          have m : ∀ c, ¬ c = 16 → ¬ (29 ≤ c ∧ c ≤ 48) → gM sf c = gM a c := fun c z1 z2 => (MM c (by omega)).trans (u1.2.2.2.2.1 c z1 z2)
          have y0 : ∀ j, ¬ j = 39 → ¬ j = 42 → ¬ j = 49 → ¬ j = 46 → gM t' 0 j = gM b 0 j := w1.2.1
          have y : ∀ c, ¬ c = 0 → ¬ c = 21 → ¬ c = 23 → gM t' c = gM b c := w1.1
          have g14 : gG sf 14 7 = gG a 14 7 := (gg 14 7 (by omega)).trans (u1.1 14 7 (by omega))
          have g0 : gG sf 0 7 = gG a 0 7 := (gg 0 7 (by omega)).trans (u1.1 0 7 (by omega))
          refine ⟨n, ho, pa, pr, ye, ki, np, st, kd, sz, vt, lm, dn, BL, hc, hX.fr (fun c z1 z2 => m c (by omega) (by omega)) (by rw [JJ]; exact u1.2.2.2.2.2.2.2 6 (by omega) (by omega) (by omega)), hY.fr (y0 0 (by omega) (by omega) (by omega) (by omega)) (y0 5 (by omega) (by omega) (by omega) (by omega)) (fun c z1 z2 => y c (by omega) (by omega) (by omega)), hT.fr (m 7 (by omega) (by omega)) (m 8 (by omega) (by omega)) (y0 8 (by omega) (by omega) (by omega) (by omega)) (y 6 (by omega) (by omega) (by omega)), hL.fr (m 10 (by omega) (by omega)) (m 11 (by omega) (by omega)) (y0 23 (by omega) (by omega) (by omega) (by omega)) (y0 24 (by omega) (by omega) (by omega) (by omega)) (y 17 (by omega) (by omega) (by omega)), hB.fr (m 12 (by omega) (by omega)) (m 13 (by omega) (by omega)) (y0 33 (by omega) (by omega) (by omega) (by omega)) (y0 34 (by omega) (by omega) (by omega) (by omega)) (y0 35 (by omega) (by omega) (by omega) (by omega)) (y0 36 (by omega) (by omega) (by omega) (by omega)) (y 19 (by omega) (by omega) (by omega)), hRO, hp, ⟨by rw [g14, g0]; exact q1, q2, by rw [g14, m _ (by omega) (by omega)]; exact q3, by rw [y0 9 (by omega) (by omega) (by omega) (by omega)]; exact q4, fun i hi => ?_⟩, hS.fr2 hc.1 (by rw [m 14 (by omega) (by omega)]) (by rw [m 14 (by omega) (by omega)]) (y0 18 (by omega) (by omega) (by omega) (by omega)) (y0 21 (by omega) (by omega) (by omega) (by omega)) (fun r z1 _ => by rw [MM 16 (by omega)]; exact u1.2.2.2.2.2.1 r (by omega)) (fun r z1 _ => m (48 + r) (by omega) (by omega)) (fun r _ => by rw [y 15 (by omega) (by omega) (by omega)]) (fun j _ => by rw [y 16 (by omega) (by omega) (by omega)])⟩
          rw [g14, m _ (by omega) (by omega), m _ (by omega) (by omega), m _ (by omega) (by omega), m _ (by omega) (by omega), y 7 (by omega) (by omega) (by omega), y 8 (by omega) (by omega) (by omega), y 9 (by omega) (by omega) (by omega), y 10 (by omega) (by omega) (by omega)]
          exact q5 i hi
  · have e : dn = st := by omega
    refine ⟨-1, a, b, ?_, ?_, hR⟩
    · unfold p_House_chances p_Odds_reckon p_Sess_plan p_Sess_stepsDone p_Plan_length
      rw [bind1_s, if_pos (decide_eq_true hk), bind1_s, bind1_s, hS.2.1, hP.2.2.1, if_neg (nI_nlt (by omega) (by omega)), bind2_s]
    · unfold p_Model_chances
      rw [hP.2.2.2.1, hS.2.2.1]
      by_cases z : nI st = 0
      · rw [if_pos z]
      · rw [if_neg z, if_pos (by rw [e])]
