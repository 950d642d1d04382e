/-! THE RELATION between the class's state a and the reference's b -/
def sel (pr : Nat → Nat) (n : Nat) : List Nat := (List.range n).filter (fun i => pr i == 1)
def rowIs (f : Nat → Int32) (off : Nat) (L : List Nat) : Prop := ∀ j, j < L.length → f (off + j) = nI (L.getD j 0)
/-- the tape -/
def RT (a b : XS) : Prop := ∃ (t : Nat) (v : Nat → Nat), t ≤ 300 ∧ gM a 7 1 = nI t ∧ gM b 0 8 = nI t ∧ ∀ i, i < t → v i < 256 ∧ gM a 8 i = nI (v i) ∧ gM b 6 i = (nI (v i)).toInt8.toInt32
/-- the lots -/
def RL_ (a b : XS) : Prop := ∃ (w f : Nat) (v : Nat → Nat), w ≤ 500 ∧ f < 500 ∧ gM a 10 1 = nI f ∧ gM a 10 2 = nI w ∧ gM b 0 23 = nI w ∧ gM a 10 3 = gM b 0 24 ∧ ∀ i, i < w → v i < 10000 ∧ gM a 11 ((f + i) % 500) = nI (v i) ∧ gM b 17 i = nI (v i)
/-- the latest ballot -/
def RB (a b : XS) : Prop := (gM a 12 1 = 0 ∧ gM b 0 33 = -1) ∨ (gM a 12 1 = 1 ∧ ¬ gM b 0 33 = -1 ∧ gM a 12 2 = gM b 0 34 ∧ gM a 12 3 = gM b 0 35 ∧ gM a 12 4 = gM b 0 36 ∧ ∀ i, i < 40 → gM a 13 i = gM b 19 i)
/-- the latest chances -/
def RO (a b : XS) : Prop := gJ a 30 = sets0 ∧ (∀ c j, gG a c j < 2) ∧ ¬ gG a 29 11 = gG a 29 12 ∧ ¬ gG a 29 13 = gG a 29 14 ∧ ((gM a 29 15 = 0 ∧ gM b 0 46 = 0) ∨ (gM a 29 15 = 1 ∧ gM b 0 46 = 1 ∧ ∀ i, i < 42 → gJ a (38 + gG a 29 11) i = gJ b 25 i))
/-- the procedure -/
def RP (a b : XS) (st : Nat) (kd sz vt lm : Nat → Nat) : Prop := ¬ gG a 14 7 = gG a 0 7 ∧ st ≤ 12 ∧ gM a (19 + 5 * gG a 14 7) 4 = nI st ∧ gM b 0 9 = nI st ∧
  ∀ i, i < st → gM a (20 + 5 * gG a 14 7) i = nI (kd i + 1) ∧ gM b 7 i = nI (kd i) ∧ gM a (21 + 5 * gG a 14 7) i = nI (sz i) ∧ gM b 8 i = nI (sz i) ∧ gM a (22 + 5 * gG a 14 7) i = nI (vt i) ∧ gM b 9 i = nI (vt i) ∧ gM a (23 + 5 * gG a 14 7) i = nI (lm i) ∧ gM b 10 i = nI (lm i)
def PC (st : Nat) (kd sz vt lm : Nat → Nat) : Prop := ∀ i, i < st → kd i ≤ 2 ∧ 1 ≤ sz i ∧ sz i ≤ 40 ∧ vt i ≤ 40 ∧ lm i ≤ 9 ∧ (kd i = 2 ↔ i + 1 = st) ∧ (kd i = 2 → sz i = 1 ∧ lm i = 0) ∧ (kd i = 0 → vt i = 0) ∧ (i = 0 → kd i = 0)
/-- the session: how far, the head, the bodies behind each step done -/
def RS (a b : XS) (n : Nat) (pr : Nat → Nat) (st : Nat) (kd : Nat → Nat) (dn : Nat) (BL : Nat → List Nat) : Prop := dn ≤ st ∧ gM a 14 8 = nI dn ∧ gM b 0 18 = nI dn ∧ gM a 14 9 = gM b 0 21 ∧
  (∀ r, 1 ≤ r → r ≤ dn → (BL r).length ≤ 40 ∧ (∀ x ∈ BL r, x < n) ∧ gM a 16 r = nI (BL r).length ∧ rowIs (gM a (48 + r)) 0 (BL r) ∧ (kd (r - 1) = 2 → BL r = BL (r - 1)) ∧ (¬ kd (r - 1) = 2 → gM b 15 r = nI (BL r).length ∧ rowIs (gM b 16) (40 * r) (BL r))) ∧
  (dn = 0 → gM b 15 0 = nI (sel pr n).length ∧ rowIs (gM b 16) 0 (sel pr n))
def Rel (a b : XS) : Prop := ∃ (n : Nat) (ho pa pr ye : Nat → Nat) (ki : Nat → Nat → Bool) (np st : Nat) (kd sz vt lm : Nat → Nat) (dn : Nat) (BL : Nat → List Nat),
  CC n ho pa pr ye ki np ∧ XC a n ho pa pr ye ki np ∧ YC b n ho pa pr ye ki np ∧ RT a b ∧ RL_ a b ∧ RB a b ∧ RO a b ∧ PC st kd sz vt lm ∧ RP a b st kd sz vt lm ∧ RS a b n pr st kd dn BL
theorem gM_o {s : XS} {c0 j : Nat} {v : Int32} {c : Nat} (h : ¬ c = c0) : gM (sM s c0 j v) c = gM s c := by
  show up2 s.2.1 c0 j v c = _
  unfold up2
  rw [if_neg h]; rfl
theorem RP.fr {a b a' b' : XS} {st : Nat} {kd sz vt lm : Nat → Nat} (h : RP a b st kd sz vt lm) (hk : ∀ c j, gG a c j < 2) (hG : gG a' = gG a) (hM : ∀ c, 19 ≤ c → c < 29 → gM a' c = gM a c) (h1 : gM b' 0 9 = gM b 0 9) (h7 : gM b' 7 = gM b 7) (h8 : gM b' 8 = gM b 8) (h9 : gM b' 9 = gM b 9) (h10 : gM b' 10 = gM b 10) : RP a' b' st kd sz vt lm := by
  have hk2 := hk 14 7
  obtain ⟨q1, q2, q3, q4, q5⟩ := h
  refine ⟨by rw [hG]; exact q1, q2, by rw [hG, hM _ (by omega) (by omega)]; exact q3, by rw [h1]; exact q4, fun i hi => ?_⟩
  rw [hG, hM _ (by omega) (by omega), hM _ (by omega) (by omega), hM _ (by omega) (by omega), hM _ (by omega) (by omega), h7, h8, h9, h10]
  exact q5 i hi
theorem RS.fr {a b a' b' : XS} {n : Nat} {pr : Nat → Nat} {st : Nat} {kd : Nat → Nat} {dn : Nat} {BL : Nat → List Nat} (h : RS a b n pr st kd dn BL) (hst : st ≤ 12) (e1 : gM a' 14 8 = gM a 14 8) (e2 : gM a' 14 9 = gM a 14 9) (e3 : gM a' 16 = gM a 16) (e4 : ∀ c, 48 ≤ c → c < 61 → gM a' c = gM a c) (f1 : gM b' 0 18 = gM b 0 18) (f2 : gM b' 0 21 = gM b 0 21) (f3 : gM b' 15 = gM b 15) (f4 : gM b' 16 = gM b 16) : RS a' b' n pr st kd dn BL := by
  obtain ⟨q1, q2, q3, q4, q5, q6⟩ := h
  refine ⟨q1, by rw [e1]; exact q2, by rw [f1]; exact q3, by rw [e2, f2]; exact q4, fun r h1 h2 => ?_, fun h0 => by rw [f3, f4]; exact q6 h0⟩
  rw [e3, e4 _ (by omega) (by omega), f3, f4]
  exact q5 r h1 h2
theorem S_elected : sim_elected Rel := by
  intro a b hR
  obtain ⟨n, ho, pa, pr, ye, ki, np, st, kd, sz, vt, lm, dn, BL, hc, hX, hY, hT, hL, hB, hO, hp, hP, hS⟩ := id hR
  exact ⟨gM b 0 21, by show some (gM a 14 9) = _; rw [hS.2.2.2.1], rfl, hR⟩
theorem Y_in_h {x : Int32} {lo hi : Nat} {A B : Int32} (eA : A = nI lo) (eB : B = nI hi) (hl : lo < 2 ^ 31) (hh : hi < 2 ^ 31) : (∃ j, lo ≤ j ∧ j ≤ hi ∧ x = nI j ∧ p_Model_in x A B = some 1 ∧ ¬ x < A ∧ ¬ B < x) ∨ (p_Model_in x A B = some 0 ∧ (x < A ∨ B < x)) := by
  unfold p_Model_in
  by_cases h1 : x < A
  · right; rw [if_pos h1]; exact ⟨rfl, Or.inl h1⟩
  · by_cases h2 : B < x
    · right; rw [if_neg h1, if_pos h2]; exact ⟨rfl, Or.inr h2⟩
    · left
      have h0 : ¬ x < 0 := fun q => h1 (by
        rw [eA]
        rw [Int32.lt_iff_toInt_lt] at q ⊢
        rw [nI_toInt hl]
        have : (0 : Int32).toInt = 0 := rfl
        omega)
      obtain ⟨j, hj, e⟩ := nI_of h0
      subst e
      rw [eA] at h1
      rw [eB] at h2
      have a1 : lo ≤ j := Nat.not_lt.mp (fun q => h1 (nI_lt q (by omega)))
      have a2 : j ≤ hi := Nat.not_lt.mp (fun q => h2 (nI_lt q (by omega)))
      rw [if_neg (by rw [eA]; exact h1), if_neg (by rw [eB]; exact h2), eA, eB]
      exact ⟨j, a1, a2, rfl, rfl, h1, h2⟩
theorem S_ways : sim_ways Rel := by
  intro a b x hR
  obtain ⟨n, ho, pa, pr, ye, ki, np, st, kd, sz, vt, lm, dn, BL, hc, hX, hY, hT, hL, hB, hO, hp, hP, hS⟩ := id hR
  rcases hO.2.2.2.2 with ⟨e1, e2⟩ | ⟨e1, e2, e3⟩
  · refine ⟨-1, ?_, ?_, hR⟩
    · unfold p_House_ways p_Odds_answer
      rw [if_pos e1]; rfl
    · unfold p_Model_ways
      rw [if_pos e2]
  · have n1 : ¬ gM a 29 15 = 0 := by rw [e1]; decide
    have n2 : ¬ gM b 0 46 = 0 := by rw [e2]; decide
    rcases Y_in_h (x := x) (lo := 0) (hi := 41) (A := 0) (B := 41) rfl rfl (by omega) (by omega) with ⟨j, a1, a2, e, h1, g1, -⟩ | ⟨h1, h2⟩
    · subst e
      refine ⟨gJ b 25 j, ?_, ?_, hR⟩
      · unfold p_House_ways p_Odds_answer
        rw [if_neg n1, if_neg g1, if_neg (show ¬ (42 : Int32) ≤ nI j from nI_ge (b := 42) (by omega) (by omega)), if_pos (gIn_t (show j < 42 by omega) (by omega)), ix_nI (by omega), e3 j (by omega)]; rfl
      · unfold p_Model_ways
        rw [if_neg n2, h1, bind1_s, if_neg (by decide), if_pos (gIn_t (show j < 42 by omega) (by omega)), ix_nI (by omega)]
    · refine ⟨-1, ?_, ?_, hR⟩
      · unfold p_House_ways p_Odds_answer
        rw [if_neg n1]
        by_cases h0 : x < 0
        · rw [if_pos h0]; rfl
        · rcases h2 with h2 | h2
          · exact absurd h2 h0
          · rw [if_neg h0, if_pos (show (42 : Int32) ≤ x by
              rw [Int32.le_iff_toInt_le]
              rw [Int32.lt_iff_toInt_lt] at h2
              have e41 : (41 : Int32).toInt = 41 := rfl
              have e42 : (42 : Int32).toInt = 42 := rfl
              omega)]; rfl
      · unfold p_Model_ways
        rw [if_neg n2, h1, bind1_s, if_pos (show (0 : Int32) = 0 from rfl)]
theorem S_ballot : sim_ballot Rel := by
  intro a b x hR
  obtain ⟨n, ho, pa, pr, ye, ki, np, st, kd, sz, vt, lm, dn, BL, hc, hX, hY, hT, hL, hB, hO, hp, hP, hS⟩ := id hR
  rcases hB with ⟨e1, e2⟩ | ⟨e1, e2, e3, e4, e5, e6⟩
  · refine ⟨-1, ?_, ?_, hR⟩
    · unfold p_House_ballot p_Poll_answer
      rw [if_pos e1]; rfl
    · unfold p_Model_ballot
      rw [if_pos e2]
  · have n1 : ¬ gM a 12 1 = 0 := by rw [e1]; decide
    rcases Y_in_h (x := x) (lo := 100) (hi := 139) (A := 100) (B := 139) rfl rfl (by omega) (by omega) with ⟨j, a1, a2, e, h1, h2, h3⟩ | ⟨h1, h2⟩
    · subst e
      have es : nI j - (100 : Int32) = nI (j - 100) := pk_sub (b := 100) (by omega)
      refine ⟨gM b 19 (j - 100), ?_, ?_, hR⟩
      · unfold p_House_ballot p_Poll_answer p_Poll_votesAt p_Poll_votesAt_K18
        rw [if_neg n1, if_neg (show ¬ nI j = (0 : Int32) from fun q => by have := (nI_eq (b := 0) (by omega) (by omega)).mp q; omega), if_neg (show ¬ nI j = (1 : Int32) from fun q => by have := (nI_eq (b := 1) (by omega) (by omega)).mp q; omega), if_neg (show ¬ nI j = (2 : Int32) from fun q => by have := (nI_eq (b := 2) (by omega) (by omega)).mp q; omega), if_neg h2, if_neg (show ¬ (140 : Int32) ≤ nI j from nI_ge (b := 140) (by omega) (by omega)), if_neg (show ¬ (1 : Int32) = 0 by decide), es, if_pos (gIn_t (show j - 100 < 40 by omega) (by omega)), ix_nI (by omega), e6 _ (by omega)]; rfl
      · unfold p_Model_ballot
        rw [if_neg e2, h1, bind1_s, if_neg (show ¬ (1 : Int32) = 0 by decide), es, if_pos (gIn_t (show j - 100 < 40 by omega) (by omega)), ix_nI (by omega)]
    · have ey : p_Model_ballot x b = (if x = 0 then some (gM b 0 34) else (if x = (1 : Int32) then some (gM b 0 35) else (if x = (2 : Int32) then some (gM b 0 36) else some (-1 : Int32)))) := by
        unfold p_Model_ballot
        rw [if_neg e2, h1, bind1_s, if_pos (show (0 : Int32) = 0 from rfl)]
      have ex : p_House_ballot x a = (if x = 0 then some (gM a 12 2) else (if x = (1 : Int32) then some (gM a 12 3) else (if x = (2 : Int32) then some (gM a 12 4) else some (-1 : Int32)))) := by
        unfold p_House_ballot p_Poll_answer
        have ev : p_Poll_votesAt x a = some (-1) := by
          unfold p_Poll_votesAt p_Poll_votesAt_K18
          by_cases h100 : x < 100
          · rw [if_pos h100, if_pos (show (0 : Int32) = 0 from rfl)]
          · rcases h2 with h2 | h2
            · exact absurd h2 h100
            · rw [if_neg h100, if_pos (show (140 : Int32) ≤ x by
                rw [Int32.le_iff_toInt_le]
                rw [Int32.lt_iff_toInt_lt] at h2
                have e41 : (139 : Int32).toInt = 139 := rfl
                have e42 : (140 : Int32).toInt = 140 := rfl
                omega), if_pos (show (0 : Int32) = 0 from rfl)]
        rw [if_neg n1, ev]
        repeat' split
        all_goals rfl
      rw [e3, e4, e5, ← ey] at ex
      cases ey2 : p_Model_ballot x b with
      | none => rw [ey] at ey2; repeat' split at ey2
                all_goals cases ey2
      | some r => exact ⟨r, by rw [ex, ey2], rfl, hR⟩
theorem S_end : sim_end Rel := by
  intro a b x hR
  obtain ⟨n, ho, pa, pr, ye, ki, np, st, kd, sz, vt, lm, dn, BL, hc, hX, hY, hT, hL, hB, hO, hp, hP, hS⟩ := id hR
  obtain ⟨t, v, ht, h1, h2, h3⟩ := hT
  by_cases h0 : x < 0
  · exact ⟨-1, a, b, by unfold p_House_end p_Tape_cut; rw [if_pos h0]; rfl, by unfold p_Model_end; rw [if_pos h0], hR⟩
  · obtain ⟨j, hj, e⟩ := nI_of h0
    subst e
    by_cases h4 : nI j ≤ nI t
    · have hjt : j ≤ t := (nI_leI hj (by omega)).mp h4
      refine ⟨nI j, sM a 7 1 (nI j), sM b 0 8 (nI j), by unfold p_House_end p_Tape_cut; rw [if_neg h0, h1, if_pos h4]; rfl, by unfold p_Model_end; rw [if_neg h0, h2, if_pos h4]; rfl, ?_⟩
      exact ⟨n, ho, pa, pr, ye, ki, np, st, kd, sz, vt, lm, dn, BL, hc, hX, hY, ⟨j, v, by omega, rfl, rfl, fun i hi => h3 i (by omega)⟩, hL, hB, hO, hp, hP.fr hO.2.1 rfl (fun c h1 h2 => gM_o (by omega)) rfl rfl rfl rfl rfl, hS.fr hP.2.1 rfl rfl rfl (fun c h1 h2 => gM_o (by omega)) rfl rfl rfl rfl⟩
    · exact ⟨-1, a, b, by unfold p_House_end p_Tape_cut; rw [if_neg h0, h1, if_neg h4]; rfl, by unfold p_Model_end; rw [if_neg h0, h2, if_neg h4], hR⟩
theorem lot_in {x : Int32} : (∃ v, v < 10000 ∧ x = nI v) ∨ (x < 0 ∨ (¬ x < 0 ∧ ¬ x < 10000 ∧ ∀ i, i < 10000 → x ≠ nI i)) := by
  by_cases h0 : x < 0
  · exact Or.inr (Or.inl h0)
  · obtain ⟨j, hj, e⟩ := nI_of h0
    subst e
    by_cases h : j < 10000
    · exact Or.inl ⟨j, h, rfl⟩
    · refine Or.inr (Or.inr ⟨h0, nI_nlt (b := 10000) (by omega) (by omega), fun i hi q => ?_⟩)
      have := (nI_eq hj (by omega)).mp q
      omega
theorem S_lot : sim_lot Rel := by
  intro a b x hR
  obtain ⟨n, ho, pa, pr, ye, ki, np, st, kd, sz, vt, lm, dn, BL, hc, hX, hY, hT, hL, hB, hO, hp, hP, hS⟩ := id hR
  obtain ⟨w, f, v, hw, hf, h1, h2, h3, h4, h5⟩ := hL
  by_cases hw5 : w = 500
  · refine ⟨-1, a, b, ?_, ?_, hR⟩
    · unfold p_House_lot p_Lot_tell
      rw [h2, if_pos (show (500 : Int32) ≤ nI w from nI_le (a := 500) (by omega) (by omega))]; rfl
    · unfold p_Model_lot
      rw [h3, if_pos (show nI w = (500 : Int32) by rw [hw5]; rfl)]
  · have n1 : ¬ (500 : Int32) ≤ nI w := nI_ge (b := 500) (by omega) (by omega)
    have n2 : ¬ nI w = (500 : Int32) := fun q => hw5 ((nI_eq (b := 500) (by omega) (by omega)).mp q)
    rcases lot_in (x := x) with ⟨u, hu, e⟩ | h6
    · subst e
      have er : (nI f + nI w) - (nI f + nI w) / (500 : Int32) * (500 : Int32) = nI ((f + w) % 500) := by
        rw [nI_add]; exact pk_rem (d := 500) (by omega) (by omega) (by omega)
      have hm : (f + w) % 500 < 500 := Nat.mod_lt _ (by omega)
      refine ⟨nI (w + 1), sM (sM a 11 ((f + w) % 500) (nI u)) 10 2 (nI (w + 1)), sM (sM b 17 w (nI u)) 0 23 (nI (w + 1)), ?_, ?_, ?_⟩
      · unfold p_House_lot p_Lot_tell
        rw [h2, h1, if_neg n1, if_neg (nI_pos (by omega)), if_pos (show nI u < (10000 : Int32) from nI_lt (b := 10000) (by omega) (by omega)), er, if_pos (gIn_t hm (by omega)), ix_nI (by omega), lq_e, lq_e]
        have e2 : gM (sM a 11 ((f + w) % 500) (nI u)) 10 2 = nI w := h2
        rw [e2, nI_1]; rfl
      · unfold p_Model_lot
        rw [h3, if_neg n2, Y_in3_t (K := 9999) (k := 10000) rfl hu (by omega), bind1_s, if_neg (show ¬ (1 : Int32) = 0 by decide), if_pos (gIn_t (show w < 500 by omega) (by omega)), ix_nI (by omega), lq_e, lq_e]
        have e2 : gM (sM b 17 w (nI u)) 0 23 = nI w := h3
        rw [e2, nI_1]; rfl
      · refine ⟨n, ho, pa, pr, ye, ki, np, st, kd, sz, vt, lm, dn, BL, hc, hX, hY, hT, ⟨w + 1, f, fun i => if i = w then u else v i, by omega, hf, h1, rfl, rfl, h4, fun i hi => ?_⟩, hB, hO, hp, hP.fr hO.2.1 rfl (fun c h1 h2 => (gM_o (by omega)).trans (gM_o (by omega))) rfl rfl rfl rfl rfl, hS.fr hP.2.1 rfl rfl rfl (fun c h1 h2 => (gM_o (by omega)).trans (gM_o (by omega))) rfl rfl rfl rfl⟩
        show _ ∧ gM (sM a 11 ((f + w) % 500) (nI u)) 11 ((f + i) % 500) = _ ∧ gM (sM b 17 w (nI u)) 17 i = _
        rw [gM_sM, gM_sM, if_pos rfl, if_pos rfl]
        dsimp only
        by_cases e : i = w
        · subst e
          rw [if_pos rfl, if_pos rfl, if_pos rfl]
          exact ⟨hu, rfl, rfl⟩
        · have hi2 : i < w := by omega
          have e3 : ¬ (f + i) % 500 = (f + w) % 500 := by omega
          rw [if_neg e3, if_neg e, if_neg e]
          exact h5 i hi2
    · refine ⟨-1, a, b, ?_, ?_, hR⟩
      · unfold p_House_lot p_Lot_tell
        rw [h2, if_neg n1]
        rcases h6 with h6 | ⟨h6, h7, -⟩
        · rw [if_pos h6]; rfl
        · rw [if_neg h6, if_neg h7]; rfl
      · unfold p_Model_lot
        rw [h3, if_neg n2]
        have ey : p_Model_in x 0 9999 = some 0 := Y_in3_f (k := 10000) rfl (by omega) (by omega) (by
          rcases h6 with h6 | ⟨-, -, h8⟩
          · intro p hp q
            exact nI_pos (n := p) (by omega) (q ▸ h6)
          · exact h8)
        rw [ey, bind1_s, if_pos (show (0 : Int32) = 0 from rfl)]
theorem vp_b {t : Nat} (h : t < 2) : vp_nar .boolean (nI t) = nI t := by
  rcases (show t = 0 ∨ t = 1 by omega) with e | e <;> subst e <;> rfl
theorem gZ_of {x : Int32} (h : gZ x = true) : ∃ t : Nat, t < 2 ∧ x = nI t := by
  rcases of_decide_eq_true h with q | q
  · exact ⟨0, by omega, q⟩
  · exact ⟨1, by omega, q⟩
theorem par_cases (k : Nat) (x : Int32) : (∃ i, i < k ∧ x = nI i) ∨ ∀ i, i < k → x ≠ nI i := cit_cases k x
theorem S_says : sim_says Rel := by
  intro a b x y z hR hz
  obtain ⟨n, ho, pa, pr, ye, ki, np, st, kd, sz, vt, lm, dn, BL, hc, hX, hY, hT, hL, hB, hO, hp, hP, hS⟩ := id hR
  obtain ⟨t, ht, rfl⟩ := gZ_of hz
  rcases par_cases 4 x with ⟨i, hi, rfl⟩ | hx
  · rcases par_cases 4 y with ⟨j, hj, rfl⟩ | hy
    · have e1 : nI i * (4 : Int32) + nI j = nI (i * 4 + j) := by rw [show (4 : Int32) = nI 4 from rfl, pk_mul, nI_add]
      have e2 : (4 : Int32) * nI i + nI j = nI (i * 4 + j) := by rw [show (4 : Int32) = nI 4 from rfl, pk_mul, nI_add, Nat.mul_comm]
      have hij : i * 4 + j < 16 := by omega
      have hye := hc.2.2.2.1 _ hij
      by_cases e : ye (i * 4 + j) = t
      · refine ⟨0, a, b, ?_, ?_, hR⟩
        · unfold p_House_says p_City_setYes
          rw [isParty_t hi, bind1_s, if_neg (show ¬ (1 : Int32) = 0 by decide), isParty_t hj, bind1_s, if_neg (show ¬ (1 : Int32) = 0 by decide), e1, if_pos (gIn_t hij (by omega)), ix_nI (by omega), hX.2.2.2.1 _ hij, if_pos (by rw [e])]; rfl
        · unfold p_Model_says
          rw [Y_in3_t (K := 3) (k := 4) rfl hi (by omega), bind1_s, if_neg (show ¬ (1 : Int32) = 0 by decide), Y_in3_t (K := 3) (k := 4) rfl hj (by omega), bind1_s, if_neg (show ¬ (1 : Int32) = 0 by decide), e2, if_pos (gIn_t hij (by omega)), ix_nI (by omega), hY.2.2.2.1 _ hij, if_pos (by rw [e])]
      · have ne : ¬ nI (ye (i * 4 + j)) = nI t := fun q => e ((nI_eq (by omega) (by omega)).mp q)
        refine ⟨1, sM a 5 (i * 4 + j) (nI t), sM b 5 (i * 4 + j) (nI t), ?_, ?_, ?_⟩
        · unfold p_House_says p_City_setYes
          rw [isParty_t hi, bind1_s, if_neg (show ¬ (1 : Int32) = 0 by decide), isParty_t hj, bind1_s, if_neg (show ¬ (1 : Int32) = 0 by decide), e1, if_pos (gIn_t hij (by omega)), ix_nI (by omega), hX.2.2.2.1 _ hij, if_neg ne, if_pos (gIn_t hij (by omega)), vp_b ht]; rfl
        · unfold p_Model_says
          rw [Y_in3_t (K := 3) (k := 4) rfl hi (by omega), bind1_s, if_neg (show ¬ (1 : Int32) = 0 by decide), Y_in3_t (K := 3) (k := 4) rfl hj (by omega), bind1_s, if_neg (show ¬ (1 : Int32) = 0 by decide), e2, if_pos (gIn_t hij (by omega)), ix_nI (by omega), hY.2.2.2.1 _ hij, if_neg ne, if_pos (gIn_t hij (by omega)), vp_b ht]; rfl
        · refine ⟨n, ho, pa, pr, (fun k => if k = i * 4 + j then t else ye k), ki, np, st, kd, sz, vt, lm, dn, BL, ⟨hc.1, hc.2.1, hc.2.2.1, fun k hk => ?_, hc.2.2.2.2⟩, ⟨hX.1, hX.2.1, hX.2.2.1, fun k hk => ?_, hX.2.2.2.2⟩, ⟨hY.1, hY.2.1, hY.2.2.1, fun k hk => ?_, hY.2.2.2.2⟩, hT, hL, hB, hO, hp, hP.fr hO.2.1 rfl (fun c h1 h2 => gM_o (by omega)) rfl rfl rfl rfl rfl, hS.fr hP.2.1 rfl rfl rfl (fun c h1 h2 => gM_o (by omega)) rfl rfl rfl rfl⟩
          · have := hc.2.2.2.1 k hk
            show (if k = i * 4 + j then t else ye k) < 2
            split <;> omega
          · rw [gM_sM, if_pos rfl]
            show _ = nI (if k = i * 4 + j then t else ye k)
            split
            · rfl
            · exact hX.2.2.2.1 k hk
          · rw [gM_sM, if_pos rfl]
            show _ = nI (if k = i * 4 + j then t else ye k)
            split
            · rfl
            · exact hY.2.2.2.1 k hk
    · refine ⟨0, a, b, ?_, ?_, hR⟩
      · unfold p_House_says p_City_setYes
        rw [isParty_t hi, bind1_s, if_neg (show ¬ (1 : Int32) = 0 by decide), isParty_f hy, bind1_s, if_pos (show (0 : Int32) = 0 from rfl)]; rfl
      · unfold p_Model_says
        rw [Y_in3_t (K := 3) (k := 4) rfl hi (by omega), bind1_s, if_neg (show ¬ (1 : Int32) = 0 by decide), Y_in3_f (K := 3) (k := 4) rfl (by omega) (by omega) hy, bind1_s, if_pos (show (0 : Int32) = 0 from rfl)]
  · refine ⟨0, a, b, ?_, ?_, hR⟩
    · unfold p_House_says p_City_setYes
      rw [isParty_f hx, bind1_s, if_pos (show (0 : Int32) = 0 from rfl)]; rfl
    · unfold p_Model_says
      rw [Y_in3_f (K := 3) (k := 4) rfl (by omega) (by omega) hx, bind1_s, if_pos (show (0 : Int32) = 0 from rfl)]
theorem S_turn : sim_turn Rel := by
  intro a b x y z hR
  obtain ⟨n, ho, pa, pr, ye, ki, np, st, kd, sz, vt, lm, dn, BL, hc, hX, hY, hT, hL, hB, hO, hp, hP, hS⟩ := id hR
  have hn := hc.1
  rcases cit_cases n x with ⟨i, hi, rfl⟩ | hx
  · rcases par_cases 12 y with ⟨h, hh, rfl⟩ | hy
    · rcases par_cases 4 z with ⟨p, hpp, rfl⟩ | hz
      · refine ⟨1, sM (sM a 2 i (nI h)) 3 i (nI p), sM (sM b 1 i (nI h)) 2 i (nI p), ?_, ?_, ?_⟩
        · unfold p_House_turn p_City_convert
          rw [X_has_t hX hn hi, bind1_s, if_neg (show ¬ (1 : Int32) = 0 by decide), isHouse_t hh, bind1_s, if_neg (show ¬ (1 : Int32) = 0 by decide), isParty_t hpp, bind1_s, if_neg (show ¬ (1 : Int32) = 0 by decide), if_pos (gIn_t (show i < 40 by omega) (by omega)), lq_e, if_pos (gIn_t (show i < 40 by omega) (by omega)), ix_nI (by omega)]; rfl
        · unfold p_Model_turn
          rw [Y_cit_t hY hn hi, bind1_s, if_neg (show ¬ (1 : Int32) = 0 by decide), Y_in3_t (K := 11) (k := 12) rfl hh (by omega), bind1_s, if_neg (show ¬ (1 : Int32) = 0 by decide), Y_in3_t (K := 3) (k := 4) rfl hpp (by omega), bind1_s, if_neg (show ¬ (1 : Int32) = 0 by decide), if_pos (gIn_t (show i < 40 by omega) (by omega)), lq_e, if_pos (gIn_t (show i < 40 by omega) (by omega)), ix_nI (by omega)]; rfl
        · refine ⟨n, (fun k => if k = i then h else ho k), (fun k => if k = i then p else pa k), pr, ye, ki, np, st, kd, sz, vt, lm, dn, BL, ⟨hc.1, hc.2.1, fun k hk => ?_, hc.2.2.2.1, hc.2.2.2.2⟩, ⟨hX.1, hX.2.1, fun k hk => ?_, hX.2.2.2.1, hX.2.2.2.2⟩, ⟨hY.1, hY.2.1, fun k hk => ?_, hY.2.2.2.1, hY.2.2.2.2⟩, hT, hL, hB, hO, hp, hP.fr hO.2.1 rfl (fun c h1 h2 => (gM_o (by omega)).trans (gM_o (by omega))) rfl rfl rfl rfl rfl, hS.fr hP.2.1 rfl rfl rfl (fun c h1 h2 => (gM_o (by omega)).trans (gM_o (by omega))) rfl rfl rfl rfl⟩
          · have := hc.2.2.1 k hk
            show (if k = i then h else ho k) < 12 ∧ (if k = i then p else pa k) < 4 ∧ pr k < 2
            split <;> omega
          · have := hX.2.2.1 k hk
            show gM (sM a 2 i (nI h)) 2 k = nI (if k = i then h else ho k) ∧ gM (sM (sM a 2 i (nI h)) 3 i (nI p)) 3 k = nI (if k = i then p else pa k) ∧ gM a 4 k = nI (pr k)
            rw [gM_sM, if_pos rfl, gM_sM, if_pos rfl]
            split
            · exact ⟨rfl, rfl, this.2.2⟩
            · exact this
          · have := hY.2.2.1 k hk
            show gM (sM b 1 i (nI h)) 1 k = nI (if k = i then h else ho k) ∧ gM (sM (sM b 1 i (nI h)) 2 i (nI p)) 2 k = nI (if k = i then p else pa k) ∧ gM b 3 k = nI (pr k)
            rw [gM_sM, if_pos rfl, gM_sM, if_pos rfl]
            split
            · exact ⟨rfl, rfl, this.2.2⟩
            · exact this
      · refine ⟨0, a, b, ?_, ?_, hR⟩
        · unfold p_House_turn p_City_convert
          rw [X_has_t hX hn hi, bind1_s, if_neg (show ¬ (1 : Int32) = 0 by decide), isHouse_t hh, bind1_s, if_neg (show ¬ (1 : Int32) = 0 by decide), isParty_f hz, bind1_s, if_pos (show (0 : Int32) = 0 from rfl)]; rfl
        · unfold p_Model_turn
          rw [Y_cit_t hY hn hi, bind1_s, if_neg (show ¬ (1 : Int32) = 0 by decide), Y_in3_t (K := 11) (k := 12) rfl hh (by omega), bind1_s, if_neg (show ¬ (1 : Int32) = 0 by decide), Y_in3_f (K := 3) (k := 4) rfl (by omega) (by omega) hz, bind1_s, if_pos (show (0 : Int32) = 0 from rfl)]
    · refine ⟨0, a, b, ?_, ?_, hR⟩
      · unfold p_House_turn p_City_convert
        rw [X_has_t hX hn hi, bind1_s, if_neg (show ¬ (1 : Int32) = 0 by decide), isHouse_f hy, bind1_s, if_pos (show (0 : Int32) = 0 from rfl)]; rfl
      · unfold p_Model_turn
        rw [Y_cit_t hY hn hi, bind1_s, if_neg (show ¬ (1 : Int32) = 0 by decide), Y_in3_f (K := 11) (k := 12) rfl (by omega) (by omega) hy, bind1_s, if_pos (show (0 : Int32) = 0 from rfl)]
  · refine ⟨0, a, b, ?_, ?_, hR⟩
    · unfold p_House_turn p_City_convert
      rw [X_has_f hX hn hx, bind1_s, if_pos (show (0 : Int32) = 0 from rfl)]; rfl
    · unfold p_Model_turn
      rw [Y_cit_f hY hn hx, bind1_s, if_pos (show (0 : Int32) = 0 from rfl)]
