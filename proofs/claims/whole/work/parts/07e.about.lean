theorem Y_about_loop {b : XS} {n : Nat} {ho pa pr ye : Nat → Nat} {ki : Nat → Nat → Bool} {np : Nat} (hY : YC b n ho pa pr ye ki np) (hc : CC n ho pa pr ye ki np) {c : Nat} (hcn : c < n) (x2 : Int32) (P : Nat → Bool) (hP : ∀ o, P o = decide (o ≠ c ∧ (ho o = ho c ∨ ki o c = true))) :
    ∀ (m i f : Nat), i + m = n → m < f → lo2 (p_Model_about_B15 (nI c) x2 b) f (nI (cnt P i)) (nI i) = (if x2 = (0 : Int32) then some (nI (ho c)) else if x2 = (1 : Int32) then some (nI (pa c)) else if x2 = (2 : Int32) then some (nI (pr c)) else if x2 = (3 : Int32) then some (nI (cnt P n)) else some (-1)) := by
  have hn := hc.1
  have g40 : gIn (nI c) 40 = true := gIn_t (by omega) (by omega)
  have hcc := hY.2.2.1 c hcn
  have hpc := (hc.2.2.1 c hcn).2.2
  intro m
  induction m with
  | zero =>
    intro i f hi hf
    obtain ⟨f, rfl⟩ : ∃ g, f = g + 1 := ⟨f - 1, by omega⟩
    show p_Model_about_B15 (nI c) x2 b _ _ (nI i) = _
    unfold p_Model_about_B15
    rw [hY.1, if_pos (nI_le (by omega) (by omega)), if_pos g40, if_pos g40, if_pos g40, ix_nI (by omega), hcc.1, hcc.2.1, hcc.2.2, show i = n by omega]
    have e2 : (if nI (pr c) = 0 then some (0 : Int32) else some 1) = some (nI (pr c)) := by
      rcases (show pr c = 0 ∨ pr c = 1 by omega) with e | e <;> rw [e] <;> rfl
    rw [e2]
  | succ m ih =>
    intro i f hi hf
    obtain ⟨f, rfl⟩ : ∃ g, f = g + 1 := ⟨f - 1, by omega⟩
    have ih := ih (i + 1) f (by omega) (by omega)
    show p_Model_about_B15 (nI c) x2 b (lo2 (p_Model_about_B15 (nI c) x2 b) f) _ (nI i) = _
    generalize lo2 (p_Model_about_B15 (nI c) x2 b) f = k at ih ⊢
    unfold p_Model_about_B15
    have hi1 : nI i + (1 : Int32) = nI (i + 1) := nI_1 i
    have hz : nI (cnt P i) + (0 : Int32) = nI (cnt P i) := by rw [show (0 : Int32) = nI 0 from rfl, nI_add, Nat.add_zero]
    rw [hY.1, if_neg (nI_ge (by omega) (by omega)), hi1, hz, nI_1]
    by_cases e : i = c
    · subst e
      have e3 : cnt P (i + 1) = cnt P i := by show _ + _ = _; rw [hP i]; simp
      rw [e3] at ih
      rw [if_pos rfl]; exact ih
    · have g41 : gIn (nI i) 40 = true := gIn_t (by omega) (by omega)
      have e1 : (40 : Int32) * nI i + nI c = nI (40 * i + c) := by rw [show (40 : Int32) = nI 40 from rfl, pk_mul, nI_add]
      rw [if_neg (fun q => e ((nI_eq (by omega) (by omega)).mp q)), if_pos g41, if_pos g40, ix_nI (by omega), ix_nI (by omega), (hY.2.2.1 i (by omega)).1, hcc.1]
      have h1 := (hc.2.2.1 i (by omega)).1
      have h2 := (hc.2.2.1 c hcn).1
      by_cases e2 : ho i = ho c
      · have e3 : cnt P (i + 1) = cnt P i + 1 := by show _ + _ = _; rw [hP i]; simp [e, e2]
        rw [e3] at ih
        rw [if_pos (by rw [e2])]; exact ih
      · rw [if_neg (fun q => e2 ((nI_eq (by omega) (by omega)).mp q)), e1, if_pos (gIn_t (show 40 * i + c < 1600 by omega) (by omega)), ix_nI (by omega), hY.2.2.2.2 i c (by omega) (by omega)]
        cases e4 : ki i c with
        | true =>
          have e3 : cnt P (i + 1) = cnt P i + 1 := by show _ + _ = _; rw [hP i]; simp [e, e4]
          rw [e3] at ih
          rw [if_neg (show ¬ nI (if true = true then 1 else 0) = 0 by decide)]; exact ih
        | false =>
          have e3 : cnt P (i + 1) = cnt P i := by show _ + _ = _; rw [hP i]; simp [e2, e4]
          rw [e3] at ih
          rw [if_pos (show nI (if false = true then 1 else 0) = 0 from rfl)]; exact ih
theorem S_about : sim_about Rel := by
  intro a b x y hR
  obtain ⟨n, ho, pa, pr, ye, ki, np, st, kd, sz, vt, lm, dn, BL, hc, hX, hY, hT, hL, hB, hO, hp, hP, hS⟩ := id hR
  have hn := hc.1
  rcases cit_cases n x with ⟨i, hi, rfl⟩ | hx
  · have hpi := (hc.2.2.1 i hi).2.2
    have ey : p_Model_about (nI i) y b = (if y = (0 : Int32) then some (nI (ho i)) else if y = (1 : Int32) then some (nI (pa i)) else if y = (2 : Int32) then some (nI (pr i)) else if y = (3 : Int32) then some (nI (cnt (fun o => decide (o ≠ i ∧ (ho o = ho i ∨ ki o i = true))) n)) else some (-1)) := by
      unfold p_Model_about
      rw [Y_cit_t hY hn hi, bind1_s, if_neg one_ne]
      exact Y_about_loop hY hc hi y (fun o => decide (o ≠ i ∧ (ho o = ho i ∨ ki o i = true))) (fun _ => rfl) n 0 fuelN (by omega) (by unfold fuelN; omega)
    have ex : p_House_about (nI i) y a = p_Model_about (nI i) y b := by
      rw [ey]
      unfold p_House_about
      rw [X_has_t hX hn hi, bind1_s, if_neg one_ne, X_houseOf hX hc hi, X_partyOf hX hc hi, X_isThere_t hX hc hi, X_kinOf hX hc hi, bind1_s, bind1_s, bind1_s, bind1_s]
      have e2 : (if nI (pr i) = 0 then some (0 : Int32) else some 1) = some (nI (pr i)) := by
        rcases (show pr i = 0 ∨ pr i = 1 by omega) with e | e <;> rw [e] <;> rfl
      rw [e2]
      have e3 : cnt (fun o => decide (i ≠ o ∧ (ho i = ho o ∨ ki i o = true))) n = cnt (fun o => decide (o ≠ i ∧ (ho o = ho i ∨ ki o i = true))) n := by
        apply cnt_congr
        intro o _
        apply decide_eq_decide.mpr
        rw [hc.2.2.2.2 i o]
        constructor
        · intro z; exact ⟨Ne.symm z.1, z.2.imp Eq.symm id⟩
        · intro z; exact ⟨Ne.symm z.1, z.2.imp Eq.symm id⟩
      rw [e3]
    cases e : p_Model_about (nI i) y b with
    | none => rw [ey] at e; repeat' split at e
              all_goals cases e
    | some r => exact ⟨r, by rw [ex, e], rfl, hR⟩
  · refine ⟨-1, ?_, ?_, hR⟩
    · unfold p_House_about
      rw [X_has_f hX hn hx, bind1_s, if_pos (show (0 : Int32) = 0 from rfl)]
    · unfold p_Model_about
      rw [Y_cit_f hY hn hx, bind1_s, if_pos (show (0 : Int32) = 0 from rfl)]
