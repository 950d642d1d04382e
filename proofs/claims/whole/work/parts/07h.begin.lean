def rowR (a b : XS) (n : Nat) (kd : Nat → Nat) (BL : Nat → List Nat) (r : Nat) : Prop := (BL r).length ≤ 40 ∧ (∀ x ∈ BL r, x < n) ∧ gM a 16 r = nI (BL r).length ∧ rowIs (gM a (48 + r)) 0 (BL r) ∧ (kd (r - 1) = 2 → BL r = BL (r - 1)) ∧ (¬ kd (r - 1) = 2 → gM b 15 r = nI (BL r).length ∧ rowIs (gM b 16) (40 * r) (BL r))
theorem begin_rel {a b : XS} {n : Nat} {ho pa pr ye : Nat → Nat} {ki : Nat → Nat → Bool} {np st : Nat} {kd sz vt lm : Nat → Nat} {dn : Nat} {BL : Nat → List Nat} (hc : CC n ho pa pr ye ki np) (hX : XC a n ho pa pr ye ki np) (hY : YC b n ho pa pr ye ki np) (hT : RT a b) (hL : RL_ a b) (hB : RB a b) (hO : RO a b) (hp : PC st kd sz vt lm) (hP : RP a b st kd sz vt lm) (hd : dn ≤ st) (h14 : gM a 14 8 = nI dn) (h18 : gM b 0 18 = nI dn) (hh : gM a 14 9 = gM b 0 21) (hrows : ∀ r, 1 ≤ r → r ≤ dn → rowR a b n kd BL r) : ∃ s, p_Model_begins b = some s ∧ (∀ c, ¬ c = 15 → ¬ c = 16 → gM s c = gM b c) ∧ Rel a s := by
  rcases Nat.eq_zero_or_pos dn with e | e
  · subst e
    obtain ⟨s, h1, hG, z1, z2⟩ := Y_begins hY hc h18
    have g0 : gM s 0 = gM b 0 := hG.2.1 0 (by omega) (by omega)
    refine ⟨s, h1, hG.2.1, n, ho, pa, pr, ye, ki, np, st, kd, sz, vt, lm, 0, BL, hc, hX, hY.fr (by rw [g0]) (by rw [g0]) (fun c h1 h2 => hG.2.1 c (by omega) (by omega)), hT.fr rfl rfl (by rw [g0]) (hG.2.1 6 (by omega) (by omega)), hL.fr rfl rfl (by rw [g0]) (by rw [g0]) (hG.2.1 17 (by omega) (by omega)), hB.fr rfl rfl (by rw [g0]) (by rw [g0]) (by rw [g0]) (by rw [g0]) (hG.2.1 19 (by omega) (by omega)), hO.fr rfl (fun _ _ _ => rfl) rfl (by rw [g0]) (by rw [hG.1]), hp, hP.fr hO.2.1 rfl (fun _ _ _ => rfl) (by rw [g0]) (hG.2.1 7 (by omega) (by omega)) (hG.2.1 8 (by omega) (by omega)) (hG.2.1 9 (by omega) (by omega)) (hG.2.1 10 (by omega) (by omega)), Nat.zero_le _, h14, by rw [g0]; exact h18, by rw [g0]; exact hh, fun r h1 h2 => absurd h2 (by omega), fun _ => ⟨z1, z2⟩⟩
  · have h12 := hP.2.1
    exact ⟨b, Y_begins_no h18 e (by omega), fun _ _ _ => rfl, n, ho, pa, pr, ye, ki, np, st, kd, sz, vt, lm, dn, BL, hc, hX, hY, hT, hL, hB, hO, hp, hP, hd, h14, h18, hh, hrows, fun z => absurd z (by omega)⟩
theorem S_there : sim_there Rel := by
  intro a b x z hR hz
  obtain ⟨n, ho, pa, pr, ye, ki, np, st, kd, sz, vt, lm, dn, BL, hc, hX, hY, hT, hL, hB, hO, hp, hP, hS⟩ := id hR
  have hn := hc.1
  obtain ⟨t, ht, rfl⟩ := gZ_of hz
  rcases cit_cases n x with ⟨i, hi, rfl⟩ | hx
  · have g40 : gIn (nI i) 40 = true := gIn_t (by omega) (by omega)
    have hpi := (hc.2.2.1 i hi).2.2
    by_cases e : pr i = t
    · refine ⟨0, a, b, ?_, ?_, hR⟩
      · unfold p_House_there p_City_setThere
        rw [X_has_t hX hn hi, bind1_s, if_neg one_ne, if_pos g40, ix_nI (by omega), (hX.2.2.1 i hi).2.2, if_pos (by rw [e])]; rfl
      · unfold p_Model_there
        rw [Y_cit_t hY hn hi, bind1_s, if_neg one_ne, if_pos g40, ix_nI (by omega), (hY.2.2.1 i hi).2.2, if_pos (by rw [e])]
    · have ne : ¬ nI (pr i) = nI t := fun q => e ((nI_eq (by omega) (by omega)).mp q)
      obtain ⟨s, h1, -, h3⟩ := begin_rel (a := sM a 4 i (nI t)) (b := sM b 3 i (nI t)) (n := n) (ho := ho) (pa := pa) (pr := fun k => if k = i then t else pr k) (ye := ye) (ki := ki) (np := np) (st := st) (kd := kd) (sz := sz) (vt := vt) (lm := lm) (dn := dn) (BL := BL)
        ⟨hc.1, hc.2.1, fun k hk => by
          have := hc.2.2.1 k hk
          show ho k < 12 ∧ pa k < 4 ∧ (if k = i then t else pr k) < 2
          split <;> omega, hc.2.2.2.1, hc.2.2.2.2⟩
        ⟨hX.1, hX.2.1, fun k hk => by
          have := hX.2.2.1 k hk
          show gM a 2 k = _ ∧ gM a 3 k = _ ∧ gM (sM a 4 i (nI t)) 4 k = nI (if k = i then t else pr k)
          rw [gM_sM, if_pos rfl]
          split
          · exact ⟨this.1, this.2.1, rfl⟩
          · exact this, hX.2.2.2.1, hX.2.2.2.2⟩
        ⟨hY.1, hY.2.1, fun k hk => by
          have := hY.2.2.1 k hk
          show gM b 1 k = _ ∧ gM b 2 k = _ ∧ gM (sM b 3 i (nI t)) 3 k = nI (if k = i then t else pr k)
          rw [gM_sM, if_pos rfl]
          split
          · exact ⟨this.1, this.2.1, rfl⟩
          · exact this, hY.2.2.2.1, hY.2.2.2.2⟩
        hT hL hB hO hp (hP.fr hO.2.1 rfl (fun c h1 h2 => gM_o (by omega)) rfl rfl rfl rfl rfl) hS.1 hS.2.1 hS.2.2.1 hS.2.2.2.1
        (fun r h1 h2 => by
          have h12 := hP.2.1
          have h13 := hS.1
          unfold rowR
          rw [gM_o (show ¬ 48 + r = 4 by omega)]
          exact hS.2.2.2.2.1 r h1 h2)
      refine ⟨1, _, s, ?_, ?_, h3⟩
      · unfold p_House_there p_City_setThere
        rw [X_has_t hX hn hi, bind1_s, if_neg one_ne, if_pos g40, ix_nI (by omega), (hX.2.2.1 i hi).2.2, if_neg ne, if_pos g40, vp_b ht]; rfl
      · unfold p_Model_there
        rw [Y_cit_t hY hn hi, bind1_s, if_neg one_ne, if_pos g40, ix_nI (by omega), (hY.2.2.1 i hi).2.2, if_neg ne, if_pos g40, vp_b ht, lq_e, h1, bind1_s]
  · refine ⟨0, a, b, ?_, ?_, hR⟩
    · unfold p_House_there p_City_setThere
      rw [X_has_f hX hn hx, bind1_s, if_pos (show (0 : Int32) = 0 from rfl)]; rfl
    · unfold p_Model_there
      rw [Y_cit_f hY hn hx, bind1_s, if_pos (show (0 : Int32) = 0 from rfl)]
theorem S_protest : sim_protest Rel := by
  intro a b x hR
  obtain ⟨n, ho, pa, pr, ye, ki, np, st, kd, sz, vt, lm, dn, BL, hc, hX, hY, hT, hL, hB, hO, hp, hP, hS⟩ := id hR
  have h12 := hP.2.1
  have h13 := hS.1
  rcases cit_cases dn x with ⟨i, hi, rfl⟩ | hx
  · obtain ⟨s, h1, -, h3⟩ := begin_rel (a := sM (sM a 14 8 (nI i)) 14 9 (-1)) (b := sM (sM b 0 18 (nI i)) 0 21 (-1)) (n := n) (ho := ho) (pa := pa) (pr := pr) (ye := ye) (ki := ki) (np := np) (st := st) (kd := kd) (sz := sz) (vt := vt) (lm := lm) (dn := i) (BL := BL) hc hX hY hT hL hB hO hp (hP.fr hO.2.1 rfl (fun c h1 h2 => (gM_o (by omega)).trans (gM_o (by omega))) rfl rfl rfl rfl rfl) (by omega) rfl rfl rfl
        (fun r h1 h2 => by
          unfold rowR
          rw [gM_o (show ¬ 48 + r = 14 by omega), gM_o (show ¬ 48 + r = 14 by omega)]
          exact hS.2.2.2.2.1 r h1 (by omega))
    refine ⟨1, _, s, ?_, ?_, h3⟩
    · unfold p_House_protest p_Sess_undoFrom
      rw [if_neg (nI_pos (by omega)), hS.2.1, if_pos (nI_lt hi (by omega))]; rfl
    · unfold p_Model_protest
      rw [hS.2.2.1, Y_in_t hi (by omega), bind1_s, if_neg one_ne, lq_e, lq_e, h1, bind1_s]
  · refine ⟨0, a, b, ?_, ?_, hR⟩
    · unfold p_House_protest p_Sess_undoFrom
      by_cases h0 : x < 0
      · rw [if_pos h0]; rfl
      · obtain ⟨j, hj, e⟩ := nI_of h0
        subst e
        have : dn ≤ j := Nat.not_lt.mp (fun q => hx j q rfl)
        rw [if_neg h0, hS.2.1, if_neg (nI_nlt this hj)]; rfl
    · unfold p_Model_protest
      rw [hS.2.2.1, Y_in_f (by omega) hx, bind1_s, if_pos (show (0 : Int32) = 0 from rfl)]
