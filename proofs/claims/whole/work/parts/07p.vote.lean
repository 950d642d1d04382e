/-! A CHOICE or ELECTION, done; the STEP -/
def VX (a s : XS) : Prop := gG s = gG a ∧ gJ s = gJ a ∧ (∀ c, ¬ c = 12 → ¬ c = 13 → ¬ c = 16 → ¬ c = 17 → ¬ c = 18 → ¬ c = 48 → gM s c = gM a c) ∧ ∀ r, ¬ r = 0 → gM s 16 r = gM a 16 r
theorem X_open (s : XS) : ∃ s', p_Poll_open s = some s' ∧ gG s' = gG s ∧ gJ s' = gJ s ∧ (∀ c, ¬ c = 12 → ¬ c = 13 → gM s' c = gM s c) ∧ gM s' 12 1 = 1 ∧ gM s' 12 2 = 0 ∧ gM s' 12 3 = 0 ∧ gM s' 12 4 = 0 ∧ ∀ i, i < 40 → gM s' 13 i = -1 := by
  obtain ⟨s', h1, h2, h3, h4, h5⟩ := fill_gen 13 40 (by omega) (-1) (p_fill_pvotes_B5 (-1) 40) some (fun c i s => rfl) (sM (sM (sM (sM s 12 1 1) 12 2 0) 12 3 0) 12 4 0)
  refine ⟨s', ?_, h2, h3, fun c z1 z2 => (h4 c z2).trans ((gM_o z1).trans ((gM_o z1).trans ((gM_o z1).trans (gM_o z1)))), ?_, ?_, ?_, ?_, h5⟩
  · unfold p_Poll_open p_fill_pvotes
    rw [lq_e, lq_e, lq_e, lq_e, h1, bind1_s]
  · rw [h4 12 (by omega)]; rfl
  · rw [h4 12 (by omega)]; rfl
  · rw [h4 12 (by omega)]; rfl
  · rw [h4 12 (by omega)]; rfl
theorem votes_sim {a b : XS} {n : Nat} {ho pa pr ye : Nat → Nat} {ki : Nat → Nat → Bool} {np st : Nat} {kd sz vt lm : Nat → Nat} {dn : Nat} {BL : Nat → List Nat} (hc : CC n ho pa pr ye ki np) (hX : XC a n ho pa pr ye ki np) (hY : YC b n ho pa pr ye ki np) (hO : RO a b) (hp : PC st kd sz vt lm) (hP : RP a b st kd sz vt lm) (hS : RS a b n pr st kd dn BL) (hlt : dn < st) : ∃ s t D, p_Sess_fillByVotes (nI (sz dn)) a = some (nI (if D.length < sz dn then 0 else 1), s) ∧ p_Model_chooses b = some (nI (if D.length < sz dn then 0 else 1), t) ∧ D.length ≤ sz dn ∧ VX a s ∧ JY dn b t ∧ JC ho n dn s t D ∧ rowIs (gM s (48 + dn)) 0 (bodyOf pr n dn BL) ∧ gM s 16 dn = nI (bodyOf pr n dn BL).length ∧ (bodyOf pr n dn BL).length ≤ 40 ∧ ∀ x ∈ bodyOf pr n dn BL, x < n := by
  have h12 := hP.2.1
  have hn := hc.1
  have hpc := hp dn hlt
  obtain ⟨s, x1, hG, xr, x16, xl, xm⟩ := X_bodySize hc hX h12 hS
  have hyb := Y_body hp hS hlt
  generalize bodyOf pr n dn BL = L at x1 xr x16 xl xm hyb ⊢
  obtain ⟨s1, o1, o2, o3, o4, o5, o6, o7, o8, o9⟩ := X_open s
  obtain ⟨s2, f1, f2, f3, f4, f5⟩ := fill_gen 18 12 (by omega) 0 (p_fill_ofHouse_B5 0 12) some (fun c i s => rfl) s1
  have hso : ∀ c, ¬ c = 12 → ¬ c = 13 → ¬ c = 18 → gM s2 c = gM s c := fun c z1 z2 z3 => (f4 c z3).trans (o4 c z1 z2)
  have hsoA : ∀ c, ¬ c = 12 → ¬ c = 13 → ¬ c = 18 → ¬ c = 48 → ¬ c = 16 → gM s2 c = gM a c := fun c z1 z2 z3 z4 z5 => (hso c z1 z2 z3).trans (hG.2.2.1 c z4 z5)
  obtain ⟨t1, y1, y2, y3, y4, y5⟩ := fill_gen 19 40 (by omega) (-1) (p_Model_chooses_B25) (fun s => lo2 (p_Model_chooses_B46) fuelN (0 : Int32) s) (fun c i s => rfl) (sM (sM (sM (sM b 0 33 (gM b 0 18)) 0 34 0) 0 35 0) 0 36 0)
  have t0 : ∀ j, ¬ j = 33 → ¬ j = 34 → ¬ j = 35 → ¬ j = 36 → gM t1 0 j = gM b 0 j := fun j z1 z2 z3 z4 => by
    rw [y4 0 (by omega), gM_sM, if_pos rfl, if_neg z4, gM_sM, if_pos rfl, if_neg z3, gM_sM, if_pos rfl, if_neg z2, gM_sM, if_pos rfl, if_neg z1]
  have to : ∀ c, ¬ c = 0 → ¬ c = 19 → gM t1 c = gM b c := fun c z1 z2 => (y4 c z2).trans ((gM_o z1).trans ((gM_o z1).trans ((gM_o z1).trans (gM_o z1))))
  have q := hP.2.2.2.2 dn hlt
  have hXs : XC s2 n ho pa pr ye ki np := hX.fr (fun c h1 h2 => hsoA c (by omega) (by omega) (by omega) (by omega) (by omega)) (by rw [f3, o3, hG.2.1])
  have hYt : YC t1 n ho pa pr ye ki np := hY.fr (t0 0 (by omega) (by omega) (by omega) (by omega)) (t0 5 (by omega) (by omega) (by omega) (by omega)) (fun c h1 h2 => to c (by omega) (by omega))
  obtain ⟨s', t', D', c1, c2, c3, c4, c5, c6⟩ := choose_loop (dn := dn) (N := sz dn) (V := vt dn) (H := lm dn) (L := L) hXs hYt hc (by omega) (by rw [hsoA 14 (by omega) (by omega) (by omega) (by omega) (by omega)]; exact hS.2.1) (by rw [t0 18 (by omega) (by omega) (by omega) (by omega)]; exact hS.2.2.1) hpc.2.2.1 hpc.2.2.2.1 hpc.2.2.2.2.1 (by rw [to 8 (by omega) (by omega)]; exact q.2.2.2.1) (by rw [to 9 (by omega) (by omega)]; exact q.2.2.2.2.2.1) (by rw [to 10 (by omega) (by omega)]; exact q.2.2.2.2.2.2.2) xl xm (by rw [hso (48 + dn) (by omega) (by omega) (by omega)]; exact xr) (by rw [to 15 (by omega) (by omega)]; exact hyb.1) (by rw [to 16 (by omega) (by omega)]; exact hyb.2) n 0 fuelN fuelN s2 t1 [] (by omega) (by unfold fuelN; omega) (by unfold fuelN; omega) (Nat.zero_le _) ⟨rfl, rfl, fun _ _ _ _ _ => rfl⟩ ⟨rfl, fun _ _ _ _ => rfl, fun _ _ _ _ _ => rfl, fun _ _ => rfl⟩
    ⟨by rw [f4 12 (by omega)]; exact o5, by rw [y4 0 (by omega)]; exact hS.2.2.1, by rw [f4 12 (by omega), o6, y4 0 (by omega)]; rfl, by rw [f4 12 (by omega), o7, y4 0 (by omega)]; rfl, by rw [f4 12 (by omega), o8]; rfl, by rw [y4 0 (by omega)]; rfl, fun i hi => by rw [f4 13 (by omega), o9 i hi, y5 i hi], fun j hj => absurd hj (Nat.not_lt_zero j), fun j hj => absurd hj (Nat.not_lt_zero j), fun h hh => by rw [f5 h hh]; rfl, fun x hx => absurd hx (List.not_mem_nil)⟩
  refine ⟨s', t', D', ?_, ?_, c1, ⟨?_, ?_, fun c z1 z2 z3 z4 z5 z6 => ?_, fun r hr => ?_⟩, ⟨?_, fun c z1 z2 z3 => ?_, fun j z1 z2 z3 z4 => ?_, fun j hj => ?_⟩, c4, ?_, ?_, xl, xm⟩
  · unfold p_Sess_fillByVotes p_fill_ofHouse
    rw [hS.2.1, X_votesOf hP.px hlt, bind1_s, X_limitOf hP.px hlt, bind1_s, x1, bind2_s, o1, bind1_s, f1, bind1_s]
    exact c5
  · unfold p_Model_chooses
    rw [lq_e, lq_e, lq_e, lq_e, y1]
    exact c6
  · rw [c2.1, f2, o2, hG.1]
  · rw [c2.2.1, f3, o3, hG.2.1]
  · exact (c2.2.2 c z1 z2 z4 z5).trans (hsoA c z1 z2 z5 z6 z3)
  · rw [c2.2.2 16 (by omega) (by omega) (by omega) (by omega), hso 16 (by omega) (by omega) (by omega)]
    exact hG.2.2.2 r hr
  · rw [c3.1, y3]; rfl
  · exact (c3.2.1 c z1 z2 z3).trans (to c z1 z3)
  · exact (c3.2.2.1 j z1 z2 z3 z4).trans (t0 j z1 z2 z3 z4)
  · rw [c3.2.2.2 j hj, to 16 (by omega) (by omega)]
  · rw [c2.2.2 (48 + dn) (by omega) (by omega) (by omega) (by omega), hso (48 + dn) (by omega) (by omega) (by omega)]; exact xr
  · rw [c2.2.2 16 (by omega) (by omega) (by omega) (by omega), hso 16 (by omega) (by omega) (by omega)]; exact x16
theorem RB_of {ho : Nat → Nat} {n dn : Nat} {s t a' b' : XS} {D : List Nat} (h : JC ho n dn s t D) (hd : dn < 13) (e12 : gM a' 12 = gM s 12) (e13 : gM a' 13 = gM s 13) (f33 : gM b' 0 33 = gM t 0 33) (f34 : gM b' 0 34 = gM t 0 34) (f35 : gM b' 0 35 = gM t 0 35) (f36 : gM b' 0 36 = gM t 0 36) (f19 : gM b' 19 = gM t 19) : RB a' b' := by
  refine Or.inr ⟨by rw [e12]; exact h.1, by rw [f33, h.2.1]; exact fun q => nI_pos (n := dn) (by omega) (by rw [q]; decide), by rw [e12, f34]; exact h.2.2.1, by rw [e12, f35]; exact h.2.2.2.1, by rw [e12, f36, h.2.2.2.2.1]; exact h.2.2.2.2.2.1.symm, fun i hi => by rw [e13, f19]; exact h.2.2.2.2.2.2.1 i hi⟩
theorem step_vote {a b : XS} {n : Nat} {ho pa pr ye : Nat → Nat} {ki : Nat → Nat → Bool} {np st : Nat} {kd sz vt lm : Nat → Nat} {dn : Nat} {BL : Nat → List Nat} (hc : CC n ho pa pr ye ki np) (hX : XC a n ho pa pr ye ki np) (hY : YC b n ho pa pr ye ki np) (hT : RT a b) (hL : RL_ a b) (hO : RO a b) (hp : PC st kd sz vt lm) (hP : RP a b st kd sz vt lm) (hS : RS a b n pr st kd dn BL) (hlt : dn < st) (hk : ¬ kd dn = 0) : ∃ r a' b', (if kd dn = 1 then p_Sess_choose a else p_Sess_elect a) = some (r, a') ∧ p_Model_step b = some (r, b') ∧ Rel a' b' := by
  have h12 := hP.2.1
  have hn := hc.1
  have hpc := hp dn hlt
  obtain ⟨s, t, D, v1, v2, hD, hVX, hJY, hJ, xr, x16, xl, xm⟩ := votes_sim hc hX hY hO hp hP hS hlt
  have q := hP.2.2.2.2 dn hlt
  have b7 : ¬ gM b 7 dn = 0 := by rw [q.2.1]; exact nI_ne0 (by omega) (by omega)
  have n9 : ¬ gM b 0 9 = 0 := by rw [hP.2.2.2.1]; exact nI_ne0 (by omega) (by omega)
  have n18 : ¬ gM b 0 18 = gM b 0 9 := by
    rw [hP.2.2.2.1, hS.2.2.1]
    exact fun q => by have := (nI_eq (by omega) (by omega)).mp q; omega
  have g12 : gIn (nI dn) 12 = true := gIn_t (by omega) (by omega)
  have g13 : gIn (nI dn) 13 = true := gIn_t (by omega) (by omega)
  have g13' : gIn (nI (dn + 1)) 13 = true := gIn_t (by omega) (by omega)
  have vo : ∀ c, ¬ c = 12 → ¬ c = 13 → ¬ c = 16 → ¬ c = 17 → ¬ c = 18 → ¬ c = 48 → gM s c = gM a c := hVX.2.2.1
  have s14 : gM s 14 8 = nI dn := by rw [vo 14 (by omega) (by omega) (by omega) (by omega) (by omega) (by omega)]; exact hS.2.1
  have t0 : ∀ j, ¬ j = 33 → ¬ j = 34 → ¬ j = 35 → ¬ j = 36 → gM t 0 j = gM b 0 j := hJY.2.2.1
  have to : ∀ c, ¬ c = 0 → ¬ c = 16 → ¬ c = 19 → gM t c = gM b c := hJY.2.1
  have t18 : gM t 0 18 = nI dn := by rw [t0 18 (by omega) (by omega) (by omega) (by omega)]; exact hS.2.2.1
  have eS : p_Model_step b = (if nI (if D.length < sz dn then 0 else 1) = 0 then some ((2 : Int32), t) else if gIn ((gM t 0 18) + (1 : Int32)) 13 = true then lq (sM t 15 (ix ((gM t 0 18) + (1 : Int32))) (gM t 0 36)) (fun s10 => if gIn (gM s10 0 18) 12 = true then (if (gM s10 7 (ix (gM s10 0 18))) = (2 : Int32) then if gIn ((40 : Int32) * ((gM s10 0 18) + (1 : Int32))) 520 = true then lq (sM s10 0 21 (gM s10 16 (ix ((40 : Int32) * ((gM s10 0 18) + (1 : Int32)))))) (fun s15 => lq (sM s15 0 18 ((gM s15 0 18) + (1 : Int32))) (fun s16 => some ((0 : Int32), s16))) else none else lq (sM s10 0 18 ((gM s10 0 18) + (1 : Int32))) (fun s13 => some ((0 : Int32), s13))) else none) else none) := by
    unfold p_Model_step
    rw [if_neg n9, if_neg n18, hS.2.2.1, if_pos g12, ix_nI (by omega), if_neg b7, v2, bind2_s]
  have hXs : XC s n ho pa pr ye ki np := hX.fr (fun c h1 h2 => vo c (by omega) (by omega) (by omega) (by omega) (by omega) (by omega)) (by rw [hVX.2.1])
  have hYt : YC t n ho pa pr ye ki np := hY.fr (t0 0 (by omega) (by omega) (by omega) (by omega)) (t0 5 (by omega) (by omega) (by omega) (by omega)) (fun c h1 h2 => to c (by omega) (by omega) (by omega))
  have hTs : RT s t := hT.fr (vo 7 (by omega) (by omega) (by omega) (by omega) (by omega) (by omega)) (vo 8 (by omega) (by omega) (by omega) (by omega) (by omega) (by omega)) (t0 8 (by omega) (by omega) (by omega) (by omega)) (to 6 (by omega) (by omega) (by omega))
  have hLs : RL_ s t := hL.fr (vo 10 (by omega) (by omega) (by omega) (by omega) (by omega) (by omega)) (vo 11 (by omega) (by omega) (by omega) (by omega) (by omega) (by omega)) (t0 23 (by omega) (by omega) (by omega) (by omega)) (t0 24 (by omega) (by omega) (by omega) (by omega)) (to 17 (by omega) (by omega) (by omega))
  have hOs : RO s t := hO.fr hVX.1 (fun _ _ _ => by rw [hVX.2.1]) (by rw [vo 29 (by omega) (by omega) (by omega) (by omega) (by omega) (by omega)]) (t0 46 (by omega) (by omega) (by omega) (by omega)) (by rw [hJY.1])
  have hPs : RP s t st kd sz vt lm := hP.fr hO.2.1 hVX.1 (fun c h1 h2 => vo c (by omega) (by omega) (by omega) (by omega) (by omega) (by omega)) (t0 9 (by omega) (by omega) (by omega) (by omega)) (to 7 (by omega) (by omega) (by omega)) (to 8 (by omega) (by omega) (by omega)) (to 9 (by omega) (by omega) (by omega)) (to 10 (by omega) (by omega) (by omega))
  have hSs : RS s t n pr st kd dn BL := hS.fr2 hn (by rw [vo 14 (by omega) (by omega) (by omega) (by omega) (by omega) (by omega)]) (by rw [vo 14 (by omega) (by omega) (by omega) (by omega) (by omega) (by omega)]) (t0 18 (by omega) (by omega) (by omega) (by omega)) (t0 21 (by omega) (by omega) (by omega) (by omega)) (fun r h1 h2 => hVX.2.2.2 r (by omega)) (fun r h1 h2 => vo (48 + r) (by omega) (by omega) (by omega) (by omega) (by omega) (by omega)) (fun r h => by rw [to 15 (by omega) (by omega) (by omega)]) hJY.2.2.2
  by_cases hF : D.length < sz dn
  · rw [if_pos hF] at v1 eS
    refine ⟨2, s, t, ?_, by rw [eS, if_pos (show nI 0 = 0 from rfl)], n, ho, pa, pr, ye, ki, np, st, kd, sz, vt, lm, dn, BL, hc, hXs, hYt, hTs, hLs, RB_of hJ (by omega) rfl rfl rfl rfl rfl rfl rfl, hOs, hp, hPs, hSs⟩
    by_cases k1 : kd dn = 1
    · rw [if_pos k1]
      unfold p_Sess_choose
      rw [hS.2.1, X_sizeOf hP.px hlt, bind1_s, v1, bind2_s, if_pos (show nI 0 = 0 from rfl)]
    · rw [if_neg k1]
      have e1 : sz dn = 1 := (hpc.2.2.2.2.2.2.1 (by omega)).1
      rw [e1] at v1
      unfold p_Sess_elect
      rw [show (1 : Int32) = nI 1 from rfl, v1, bind2_s, if_pos (show nI 0 = 0 from rfl)]
  · rw [if_neg hF] at v1 eS
    have hDl : D.length = sz dn := by omega
    have s14' : gM s 14 8 + (1 : Int32) = nI (dn + 1) := by rw [s14, nI_1]
    have j36 : gM t 0 36 = nI D.length := hJ.2.2.2.2.2.1
    have u18 : gM (sM t 15 (dn + 1) (nI D.length)) 0 18 = nI dn := t18
    have u7 : gM (sM t 15 (dn + 1) (nI D.length)) 7 dn = nI (kd dn) := by show gM t 7 dn = _; rw [to 7 (by omega) (by omega) (by omega)]; exact q.2.1
    rw [if_neg (show ¬ nI 1 = 0 by decide), t18, nI_1, if_pos g13', ix_nI (by omega), j36, lq_e, u18, if_pos g12, ix_nI (by omega), u7] at eS
    have to2 : ∀ (x : Int32) c, ¬ c = 0 → ¬ c = 15 → gM (sM (sM t 15 (dn + 1) (nI D.length)) 0 18 x) c = gM t c := fun x c z1 z2 => (gM_o z1).trans (gM_o z2)
    by_cases k1 : kd dn = 1
    · rw [if_neg (show ¬ nI (kd dn) = (2 : Int32) from fun z => by have := (nI_eq (b := 2) (by omega) (by omega)).mp z; omega), nI_1, lq_e] at eS
      have eSt : p_Sess_stand (nI (sz dn)) (sMR s (49 + dn) (va_cpy (gM s 17) (gM s (49 + dn)) 0 0 (sz dn))) = some (sM (sM (sMR s (49 + dn) (va_cpy (gM s 17) (gM s (49 + dn)) 0 0 (sz dn))) 14 8 (nI (dn + 1))) 16 (dn + 1) (nI (sz dn))) := by
        have w14 : gM (sMR s (49 + dn) (va_cpy (gM s 17) (gM s (49 + dn)) 0 0 (sz dn))) 14 8 = nI dn := by rw [gM_oR (by omega)]; exact s14
        unfold p_Sess_stand
        rw [w14, if_neg (show ¬ (12 : Int32) ≤ nI dn from nI_ge (b := 12) (by omega) (by omega)), lq_e, nI_1]
        have e2 : gM (sM (sMR s (49 + dn) (va_cpy (gM s 17) (gM s (49 + dn)) 0 0 (sz dn))) 14 8 (nI (dn + 1))) 14 8 = nI (dn + 1) := rfl
        rw [e2, if_pos g13', ix_nI (by omega)]; rfl
      have wr : rowIs (va_cpy (gM s 17) (gM s (49 + dn)) 0 0 (sz dn)) 0 D := by
        rw [← hDl]; exact rowIs_cpy hJ.2.2.2.2.2.2.2.1
      have eXc : p_Sess_choose a = some (0, sM (sM (sMR s (49 + dn) (va_cpy (gM s 17) (gM s (49 + dn)) 0 0 (sz dn))) 14 8 (nI (dn + 1))) 16 (dn + 1) (nI (sz dn))) := by
        unfold p_Sess_choose
        rw [hS.2.1, X_sizeOf hP.px hlt, bind1_s, v1, bind2_s, if_neg (show ¬ nI 1 = 0 by decide), s14', if_pos g13', if_pos (gcpy0 hpc.2.2.1 (Nat.le_refl 40)), ix_nI (by omega), ix_nI (by omega), ix_0, show 48 + (dn + 1) = 49 + dn by omega, lq_e, eSt, bind1_s]
      generalize va_cpy (gM s 17) (gM s (49 + dn)) 0 0 (sz dn) = g at eSt wr eXc
      have wo : ∀ c, ¬ c = 14 → ¬ c = 16 → ¬ c = 49 + dn → gM (sM (sM (sMR s (49 + dn) g) 14 8 (nI (dn + 1))) 16 (dn + 1) (nI (sz dn))) c = gM s c := fun c z1 z2 z3 => (gM_o z2).trans ((gM_o z1).trans (gM_oR z3))
      refine ⟨0, _, _, ?_, eS, n, ho, pa, pr, ye, ki, np, st, kd, sz, vt, lm, dn + 1, _, hc, hXs.fr (fun c h1 h2 => wo c (by omega) (by omega) (by omega)) rfl, hYt.fr rfl rfl (fun c h1 h2 => to2 _ c (by omega) (by omega)), hTs.fr (wo 7 (by omega) (by omega) (by omega)) (wo 8 (by omega) (by omega) (by omega)) rfl (to2 _ 6 (by omega) (by omega)), hLs.fr (wo 10 (by omega) (by omega) (by omega)) (wo 11 (by omega) (by omega) (by omega)) rfl rfl (to2 _ 17 (by omega) (by omega)), RB_of hJ (by omega) (wo 12 (by omega) (by omega) (by omega)) (wo 13 (by omega) (by omega) (by omega)) rfl rfl rfl rfl (to2 _ 19 (by omega) (by omega)), hOs.fr rfl (fun _ _ _ => rfl) (by rw [wo 29 (by omega) (by omega) (by omega)]) rfl rfl, hp, hPs.fr hOs.2.1 rfl (fun c h1 h2 => wo c (by omega) (by omega) (by omega)) rfl (to2 _ 7 (by omega) (by omega)) (to2 _ 8 (by omega) (by omega)) (to2 _ 9 (by omega) (by omega)) (to2 _ 10 (by omega) (by omega)), RS_next hSs hlt D (by omega) hJ.2.2.2.2.2.2.2.2.2.2 rfl rfl ?_ ?_ ?_ ?_ ?_ ?_ ?_ (fun q => absurd q (by omega)) (fun _ => ⟨?_, ?_⟩)⟩
      · rw [if_pos k1]
        exact eXc
      · show gM (sMR s (49 + dn) g) 14 9 = gM t 0 21
        rw [gM_oR (by omega)]; exact hSs.2.2.2.1
      · rw [gM_sM, if_pos rfl, if_pos rfl, hDl]
      · intro j hj
        rw [gM_o (by omega), gM_o (by omega), gM_sMR, if_pos rfl]
        exact wr j hj
      · intro r h1 h2
        rw [gM_sM, if_pos rfl, if_neg (by omega), gM_o (by omega), gM_oR (by omega)]
      · intro r h1 h2
        exact wo (48 + r) (by omega) (by omega) (by omega)
      · intro r h2
        rw [gM_o (by omega), gM_sM, if_pos rfl, if_neg (by omega)]
      · intro j hj
        rw [to2 _ 16 (by omega) (by omega)]
      · rw [gM_o (by omega), gM_sM, if_pos rfl, if_pos rfl]
      · rw [to2 _ 16 (by omega) (by omega)]; exact hJ.2.2.2.2.2.2.2.2.1
    · have k2 : kd dn = 2 := by omega
      have e1 : sz dn = 1 := (hpc.2.2.2.2.2.2.1 k2).1
      have d0 : 0 < dn := Nat.pos_of_ne_zero (fun z => by have := hpc.2.2.2.2.2.2.2.2 z; omega)
      have eb : bodyOf pr n dn BL = BL dn := if_neg (by omega)
      rw [eb] at xr x16 xl xm
      have e40 : (40 : Int32) * nI (dn + 1) = nI (40 * dn + 40) := by rw [show (40 : Int32) = nI 40 from rfl, pk_mul]; rfl
      have uh : gM (sM t 15 (dn + 1) (nI D.length)) 16 (40 * dn + 40) = nI (D.getD 0 0) := by
        show gM t 16 (40 * dn + 40) = _
        exact hJ.2.2.2.2.2.2.2.2.1 0 (by omega)
      rw [k2, if_pos (show nI 2 = (2 : Int32) from rfl), nI_1, e40, if_pos (gIn_t (show 40 * dn + 40 < 520 by omega) (by omega)), ix_nI (by omega), uh, lq_e] at eS
      have u18' : gM (sM (sM t 15 (dn + 1) (nI D.length)) 0 21 (nI (D.getD 0 0))) 0 18 = nI dn := t18
      rw [u18', nI_1, lq_e] at eS
      have eSt : p_Sess_stand (nI (BL dn).length) (sM (sMR s (49 + dn) (va_cpy (gM s (48 + dn)) (gM s (49 + dn)) 0 0 (BL dn).length)) 14 9 (nI (D.getD 0 0))) = some (sM (sM (sM (sMR s (49 + dn) (va_cpy (gM s (48 + dn)) (gM s (49 + dn)) 0 0 (BL dn).length)) 14 9 (nI (D.getD 0 0))) 14 8 (nI (dn + 1))) 16 (dn + 1) (nI (BL dn).length)) := by
        have w14 : gM (sM (sMR s (49 + dn) (va_cpy (gM s (48 + dn)) (gM s (49 + dn)) 0 0 (BL dn).length)) 14 9 (nI (D.getD 0 0))) 14 8 = nI dn := by
          show gM (sMR s (49 + dn) (va_cpy (gM s (48 + dn)) (gM s (49 + dn)) 0 0 (BL dn).length)) 14 8 = nI dn
          rw [gM_oR (by omega)]; exact s14
        unfold p_Sess_stand
        rw [w14, if_neg (show ¬ (12 : Int32) ≤ nI dn from nI_ge (b := 12) (by omega) (by omega)), lq_e, nI_1]
        have e2 : gM (sM (sM (sMR s (49 + dn) (va_cpy (gM s (48 + dn)) (gM s (49 + dn)) 0 0 (BL dn).length)) 14 9 (nI (D.getD 0 0))) 14 8 (nI (dn + 1))) 14 8 = nI (dn + 1) := rfl
        rw [e2, if_pos g13', ix_nI (by omega)]; rfl
      have wr : rowIs (va_cpy (gM s (48 + dn)) (gM s (49 + dn)) 0 0 (BL dn).length) 0 (BL dn) := rowIs_cpy xr
      have eXc : p_Sess_elect a = some (0, sM (sM (sM (sMR s (49 + dn) (va_cpy (gM s (48 + dn)) (gM s (49 + dn)) 0 0 (BL dn).length)) 14 9 (nI (D.getD 0 0))) 14 8 (nI (dn + 1))) 16 (dn + 1) (nI (BL dn).length)) := by
        have eB : p_Sess_bodySize s = some (nI (BL dn).length, s) := by
          unfold p_Sess_bodySize
          rw [s14, if_neg (show ¬ nI dn = 0 from nI_ne0 d0 (by omega)), if_pos g13, ix_nI (by omega), x16]
        rw [e1] at v1
        have e17 : gM (sMR s (49 + dn) (va_cpy (gM s (48 + dn)) (gM s (49 + dn)) 0 0 (BL dn).length)) 17 0 = nI (D.getD 0 0) := by
          rw [gM_oR (by omega)]; exact hJ.2.2.2.2.2.2.2.1 0 (by omega)
        have v1 : p_Sess_fillByVotes (1 : Int32) a = some (nI 1, s) := v1
        unfold p_Sess_elect
        rw [v1, bind2_s, if_neg (show ¬ nI 1 = 0 by decide), eB, bind2_s, s14', if_pos g13', s14, if_pos g13, if_pos (gcpy0 xl (Nat.le_refl 40)), ix_nI (by omega), ix_nI (by omega), ix_nI (by omega), ix_0, show 48 + (dn + 1) = 49 + dn by omega, lq_e, if_pos (show gIn (0 : Int32) 40 = true by decide), e17, lq_e, eSt, bind1_s]
      generalize va_cpy (gM s (48 + dn)) (gM s (49 + dn)) 0 0 (BL dn).length = g at eSt wr eXc
      have wo : ∀ c, ¬ c = 14 → ¬ c = 16 → ¬ c = 49 + dn → gM (sM (sM (sM (sMR s (49 + dn) g) 14 9 (nI (D.getD 0 0))) 14 8 (nI (dn + 1))) 16 (dn + 1) (nI (BL dn).length)) c = gM s c := fun c z1 z2 z3 => (gM_o z2).trans ((gM_o z1).trans ((gM_o z1).trans (gM_oR z3)))
      have to3 : ∀ c, ¬ c = 0 → ¬ c = 15 → gM (sM (sM (sM t 15 (dn + 1) (nI D.length)) 0 21 (nI (D.getD 0 0))) 0 18 (nI (dn + 1))) c = gM t c := fun c z1 z2 => (gM_o z1).trans ((gM_o z1).trans (gM_o z2))
      refine ⟨0, _, _, ?_, eS, n, ho, pa, pr, ye, ki, np, st, kd, sz, vt, lm, dn + 1, _, hc, hXs.fr (fun c h1 h2 => wo c (by omega) (by omega) (by omega)) rfl, hYt.fr rfl rfl (fun c h1 h2 => to3 c (by omega) (by omega)), hTs.fr (wo 7 (by omega) (by omega) (by omega)) (wo 8 (by omega) (by omega) (by omega)) rfl (to3 6 (by omega) (by omega)), hLs.fr (wo 10 (by omega) (by omega) (by omega)) (wo 11 (by omega) (by omega) (by omega)) rfl rfl (to3 17 (by omega) (by omega)), RB_of hJ (by omega) (wo 12 (by omega) (by omega) (by omega)) (wo 13 (by omega) (by omega) (by omega)) rfl rfl rfl rfl (to3 19 (by omega) (by omega)), hOs.fr rfl (fun _ _ _ => rfl) (by rw [wo 29 (by omega) (by omega) (by omega)]) rfl rfl, hp, hPs.fr hOs.2.1 rfl (fun c h1 h2 => wo c (by omega) (by omega) (by omega)) rfl (to3 7 (by omega) (by omega)) (to3 8 (by omega) (by omega)) (to3 9 (by omega) (by omega)) (to3 10 (by omega) (by omega)), RS_next hSs hlt (BL dn) xl xm rfl rfl rfl ?_ ?_ ?_ ?_ ?_ ?_ (fun _ => ⟨d0, rfl⟩) (fun z => absurd k2 z)⟩
      · rw [if_neg k1]
        exact eXc
      · rw [gM_sM, if_pos rfl, if_pos rfl]
      · intro j hj
        rw [gM_o (by omega), gM_o (by omega), gM_o (by omega), gM_sMR, if_pos rfl]
        exact wr j hj
      · intro r h1 h2
        rw [gM_sM, if_pos rfl, if_neg (by omega), gM_o (by omega), gM_o (by omega), gM_oR (by omega)]
      · intro r h1 h2
        exact wo (48 + r) (by omega) (by omega) (by omega)
      · intro r h2
        rw [gM_o (by omega), gM_o (by omega), gM_sM, if_pos rfl, if_neg (by omega)]
      · intro j hj
        rw [to3 16 (by omega) (by omega)]
theorem S_step : sim_step Rel := by
  intro a b hR
  obtain ⟨n, ho, pa, pr, ye, ki, np, st, kd, sz, vt, lm, dn, BL, hc, hX, hY, hT, hL, hB, hO, hp, hP, hS⟩ := id hR
  have h12 := hP.2.1
  have h13 := hS.1
  by_cases hlt : dn < st
  · have hpc := hp dn hlt
    have e0 : p_House_step a = (if nI (kd dn + 1) = (1 : Int32) then bind2 (bind2 (p_Sess_draw (nI (sz dn)) a) (fun r17 s18 => some (r17, s18))) (fun r2 s3 => some (r2, s3)) else (if nI (kd dn + 1) = (2 : Int32) then bind2 (bind2 (p_Sess_choose a) (fun r21 s22 => some (r21, s22))) (fun r2 s3 => some (r2, s3)) else bind2 (bind2 (p_Sess_elect a) (fun r24 s25 => some (r24, s25))) (fun r2 s3 => some (r2, s3)))) := by
      unfold p_House_step p_Sess_doNext p_Plan_length
      rw [bind1_s, hP.2.2.1, hS.2.1, if_neg (nI_ge hlt (by omega)), if_pos (show nI dn < (12 : Int32) from nI_lt (b := 12) (by omega) (by omega)), X_kindOf hP.px hlt, bind1_s, X_sizeOf hP.px hlt, bind1_s]
      repeat' split
      all_goals rfl
    by_cases k0 : kd dn = 0
    · obtain ⟨r, a', b', h1, h2, h3⟩ := step_draw hc hX hY hT hL hB hO hp hP hS hlt k0
      exact ⟨r, a', b', by rw [e0, k0, if_pos (show nI (0 + 1) = (1 : Int32) from rfl), h1]; rfl, h2, h3⟩
    · obtain ⟨r, a', b', h1, h2, h3⟩ := step_vote hc hX hY hT hL hO hp hP hS hlt k0
      refine ⟨r, a', b', ?_, h2, h3⟩
      rw [e0, if_neg (show ¬ nI (kd dn + 1) = (1 : Int32) from fun z => by have := (nI_eq (b := 1) (by omega) (by omega)).mp z; omega)]
      by_cases k1 : kd dn = 1
      · rw [if_pos k1] at h1
        rw [k1, if_pos (show nI (1 + 1) = (2 : Int32) from rfl), h1]; rfl
      · rw [if_neg k1] at h1
        rw [if_neg (show ¬ nI (kd dn + 1) = (2 : Int32) from fun z => by have := (nI_eq (b := 2) (by omega) (by omega)).mp z; omega), h1]; rfl
  · have e : dn = st := by omega
    refine ⟨3, a, b, ?_, ?_, hR⟩
    · unfold p_House_step p_Sess_doNext p_Plan_length
      rw [bind1_s, hP.2.2.1, hS.2.1, if_pos (nI_le (by omega) (by omega))]; rfl
    · unfold p_Model_step
      rw [hP.2.2.2.1, hS.2.2.1]
      by_cases z : nI st = 0
      · rw [if_pos z]
      · rw [if_neg z, if_pos (by rw [e])]
