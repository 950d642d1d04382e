/-! THE COUNT, the class's side: all steps; the answer -/
def HY (a s : XS) : Prop := (∀ c j, ¬ (c = 29 ∧ (j = 13 ∨ j = 14)) → gG s c j = gG a c j) ∧ gG s 29 13 < 2 ∧ gG s 29 14 < 2 ∧ ¬ gG s 29 13 = gG s 29 14 ∧ (∀ c, ¬ c = 16 → ¬ (29 ≤ c ∧ c ≤ 48) → gM s c = gM a c) ∧ (∀ r, ¬ r = 0 → gM s 16 r = gM a 16 r) ∧ gM s 29 15 = gM a 29 15 ∧ ∀ c, ¬ c = 31 → ¬ c = 38 + gG a 29 12 → ¬ (40 ≤ c ∧ c ≤ 47) → gJ s c = gJ a c
theorem HX.y {a s : XS} (h : HX a s) (h13 : gG a 29 13 < 2) (h14 : gG a 29 14 < 2) (hne : ¬ gG a 29 13 = gG a 29 14) : HY a s := ⟨fun c j _ => by rw [h.1], by rw [h.1]; exact h13, by rw [h.1]; exact h14, by rw [h.1]; exact hne, h.2.1, h.2.2.1, h.2.2.2.1, h.2.2.2.2⟩
theorem HY.r {a s s' : XS} {kb : Nat} (h : HY a s) (hb : kb < 2) (hF : FR kb (gG a 29 12) s s') : HY a s' := ⟨fun c j z => by rw [hF.1]; exact h.1 c j z, by rw [hF.1]; exact h.2.1, by rw [hF.1]; exact h.2.2.1, by rw [hF.1]; exact h.2.2.2.1, fun c z1 z2 => (hF.2.1 c (by omega) (by omega)).trans (h.2.2.2.2.1 c z1 z2), fun r hr => by rw [hF.2.1 16 (by omega) (by omega)]; exact h.2.2.2.2.2.1 r hr, by rw [hF.2.1 29 (by omega) (by omega)]; exact h.2.2.2.2.2.2.1, fun c z1 z2 z3 => (hF.2.2 c z2 (by omega)).trans (h.2.2.2.2.2.2.2 c z1 z2 z3)⟩
section STEPS
variable {a b : XS} {n : Nat} {ho pa pr ye : Nat → Nat} {ki : Nat → Nat → Bool} {np st : Nat} {kd sz vt lm : Nat → Nat} {dn : Nat} {BL : Nat → List Nat}
theorem X_steps {k Z0 all : Nat} (hk : k < 2) (hr : gG a 29 12 < 2) (hp : PC st kd sz vt lm) (hst : st ≤ 12) (hn : n ≤ 40) (hpa : ∀ x, x < n → pa x < 4) (hy : ∀ x, x < 16 → ye x < 2) (hZ0 : Z0 ≤ 40) : ∀ (m i f : Nat) (R : TT) (M : Nat) (E : Nat → Nat) (ka kb : Nat) (s : XS), i + m = st → dn ≤ i → m < f → ka < 2 → kb < 2 → ¬ ka = kb → HY a s → OX k st kd sz vt lm n pa pr ye ka kb (gG a 29 12) s → VT (Zs dn Z0 sz i) R → TXk ka R s → SX (gG a 29 12) M E (lp (fun i => own (kd i) (sz i) (Zs dn Z0 sz i)) m i) all s → (∀ j, i ≤ j → j < st → gJ s 31 j = lN (lp (fun i => own (kd i) (sz i) (Zs dn Z0 sz i)) (st - (j + 1)) (j + 1))) → (asteps n pa pr ye kd sz vt (Zs dn Z0 sz) m i R M E = none ∧ ∃ s', HY a s' ∧ lo3 (p_Odds_reckon_B65 k) f (nI (Zs dn Z0 sz i)) (nI i) s = some (-2, s')) ∨ ∃ M' E' s', asteps n pa pr ye kd sz vt (Zs dn Z0 sz) m i R M E = some (M', E') ∧ HY a s' ∧ SX (gG a 29 12) M' E' 1 all s' ∧ lo3 (p_Odds_reckon_B65 k) f (nI (Zs dn Z0 sz i)) (nI i) s = some (0, sM (sG (sG s' 29 11 (gG s' 29 12)) 29 12 (gG s' 29 11)) 29 15 1) := by
  intro m
  induction m with
  | zero =>
    intro i f R M E ka kb s hi hd hf ha hb hab hH hO hV hT hS hl
    obtain ⟨f, rfl⟩ : ∃ g, f = g + 1 := ⟨f - 1, by omega⟩
    refine Or.inr ⟨M, E, s, rfl, hH, hS, ?_⟩
    show p_Odds_reckon_B65 _ _ _ (nI i) s = _
    unfold p_Odds_reckon_B65 p_Plan_length
    rw [bind1_s, hO.2.1.2.1, if_pos (nI_le (by omega) (by omega)), lq_e, lq_e, lq_e]
  | succ m ih =>
    intro i f R M E ka kb s hi hd hf ha hb hab hH hO hV hT hS hl
    obtain ⟨f, rfl⟩ : ∃ g, f = g + 1 := ⟨f - 1, by omega⟩
    have hist : i < st := by omega
    have hZ := Zs_b (dn := dn) hp hZ0 hd (show i ≤ st by omega)
    have eZ : Zs dn Z0 sz (i + 1) = sz i := if_neg (by omega)
    have hS2 : SX (gG a 29 12) (M * own (kd i) (sz i) (Zs dn Z0 sz i)) E (lp (fun i => own (kd i) (sz i) (Zs dn Z0 sz i)) m (i + 1)) all s := by
      refine ⟨?_, hS.2.1, hS.2.2⟩
      rw [hS.1]
      show lN (M * (own (kd i) (sz i) (Zs dn Z0 sz i) * lp (fun i => own (kd i) (sz i) (Zs dn Z0 sz i)) m (i + 1))) = _
      rw [Nat.mul_assoc]
    have h31 := hl i (Nat.le_refl i) hist
    rw [show st - (i + 1) = m by omega] at h31
    obtain ⟨s0, hps⟩ := X_passStep hk ha hb hr hab hp hist hn hpa hy hO h31 hZ hV hT hS2
    have hst2 := ih (i + 1) f
    show (_ ∧ ∃ s', _ ∧ p_Odds_reckon_B65 k (lo3 (p_Odds_reckon_B65 k) f) (nI (Zs dn Z0 sz i)) (nI i) s = _) ∨ ∃ M' E' s', _ ∧ _ ∧ _ ∧ p_Odds_reckon_B65 k (lo3 (p_Odds_reckon_B65 k) f) (nI (Zs dn Z0 sz i)) (nI i) s = _
    generalize lo3 (p_Odds_reckon_B65 k) f = K at hst2 ⊢
    unfold p_Odds_reckon_B65 p_Plan_length asteps
    rw [bind1_s, hO.2.1.2.1, if_neg (nI_ge hist (by omega))]
    rcases hps with ⟨z1, z2, z3⟩ | ⟨A, s1, z1, z2, z3, z4, z5⟩
    · rw [z1, z3, bind2_s, if_pos rfl]
      exact Or.inl ⟨rfl, s0, hH.r hb z2, rfl⟩
    · have hO1 := hO.r hk hb hr z2
      have hH1 := hH.r hb z2
      have hO2 : OX k st kd sz vt lm n pa pr ye kb ka (gG a 29 12) (sG (sG s1 29 13 kb) 29 14 ka) := ⟨hO1.1, hO1.2.1, hO1.2.2.1, hO1.2.2.2.1, hO1.2.2.2.2.1, hO1.2.2.2.2.2.1, rfl, rfl, hO1.2.2.2.2.2.2.2.2⟩
      have hH2 : HY a (sG (sG s1 29 13 kb) 29 14 ka) := ⟨fun c j z => by
          have w1 : gG (sG (sG s1 29 13 kb) 29 14 ka) c j = gG s1 c j := by
            rw [gG_sG]
            by_cases e1 : c = 29
            · rw [if_pos e1, if_neg (fun q => z ⟨e1, Or.inr q⟩), gG_sG, if_pos e1, if_neg (fun q => z ⟨e1, Or.inl q⟩)]
            · rw [if_neg e1, gG_sG, if_neg e1]
          rw [w1]; exact hH1.1 c j z, hb, ha, fun q => hab q.symm, hH1.2.2.2.2.1, hH1.2.2.2.2.2.1, hH1.2.2.2.2.2.2.1, hH1.2.2.2.2.2.2.2⟩
      have hVT := (arows_s (n := n) (pa := pa) (pr := pr) (ye := ye) (N := sz i) hZ hpa hV R.1 0 _ A (by omega) ⟨Nat.zero_le _, fun x hx => absurd hx (Nat.not_lt_zero x), fun x y hx => absurd hx (Nat.not_lt_zero x)⟩ z1).1
      have hPX2 : PX (sG (sG s1 29 13 kb) 29 14 ka) k st kd sz vt lm := hO1.2.1
      rw [z1, z3, bind2_s, if_neg one_ne, X_sizeOf hPX2 hist, bind1_s, nI_1]
      have h := hst2 A.1 A.2.1 A.2.2 kb ka (sG (sG s1 29 13 kb) 29 14 ka) (by omega) (by omega) (by omega) hb ha (fun q => hab q.symm) hH2 hO2 (by rw [eZ]; exact hVT) z4 z5 (fun j h1 h2 => by
        show gJ s1 31 j = _
        rw [z2.2.2 31 (by omega) (by omega)]; exact hl j (by omega) h2)
      rw [eZ] at h
      exact h
/-- the class's count -/
theorem X_reckon (hlt : dn < st) (hc : CC n ho pa pr ye ki np) (hX : XC a n ho pa pr ye ki np) (hO : RO a b) (hp : PC st kd sz vt lm) (hP : RP a b st kd sz vt lm) (hS : RS a b n pr st kd dn BL) :
    let Z := Zs dn (bodyOf pr n dn BL).length sz
    let ow := fun i => own (kd i) (sz i) (Z i)
    (gd ow (st - dn) dn 1 = false ∧ ∃ s', HY a s' ∧ p_House_chances a = some (-2, s')) ∨ (gd ow (st - dn) dn 1 = true ∧ ((asteps n pa pr ye kd sz vt Z (st - dn) dn (R0of pa (bodyOf pr n dn BL)) 0 (fun _ => 0) = none ∧ ∃ s', HY a s' ∧ p_House_chances a = some (-2, s')) ∨ ∃ M' E' s', asteps n pa pr ye kd sz vt Z (st - dn) dn (R0of pa (bodyOf pr n dn BL)) 0 (fun _ => 0) = some (M', E') ∧ HY a s' ∧ SX (gG a 29 12) M' E' 1 (lp ow (st - dn) dn) s' ∧ p_House_chances a = some (0, sM (sG (sG s' 29 11 (gG s' 29 12)) 29 12 (gG s' 29 11)) 29 15 1))) := by
  intro Z ow
  have h12 := hP.2.1
  have hn := hc.1
  have hk : gG a 14 7 < 2 := hO.2.1 14 7
  have hr : gG a 29 12 < 2 := hO.2.1 29 12
  have ha : gG a 29 13 < 2 := hO.2.1 29 13
  have hb : gG a 29 14 < 2 := hO.2.1 29 14
  have hab : ¬ gG a 29 13 = gG a 29 14 := hO.2.2.2.1
  have hpa : ∀ x, x < n → pa x < 4 := fun x hx => (hc.2.2.1 x hx).2.1
  obtain ⟨s1, f1, f2, f3, f4, f5⟩ := fill_genJ (38 + gG a 29 12) 42 (by omega) 0 (p_fill_rs_B6 (gG a 29 12) 0 42) some (fun c i s => rfl) a
  have hH1 : HX a s1 := ⟨f2, fun c _ _ => by rw [f3], fun r _ => by rw [f3], by rw [f3], fun c _ z2 _ => f4 c z2⟩
  obtain ⟨s2, x1, hG, hH2, xr, x14, xl, xm⟩ := hH1.bs hr hc hX h12 hS
  have h30 : gJ a 30 = sets0 := hO.1
  have hPX2 := hH2.px hk hP
  have h30s : gJ s2 30 = sets0 := by rw [hH2.2.2.2.2 30 (by omega) (by omega) (by omega)]; exact h30
  have eall := X_all (dn := dn) hp hPX2 h30s xl h12 (st - dn) dn fuelN 1 (by omega) (Nat.le_refl _) (by unfold fuelN; omega) (Nat.le_refl 1) (by omega)
  have eZ0 : Zs dn (bodyOf pr n dn BL).length sz dn = (bodyOf pr n dn BL).length := if_pos rfl
  rw [eZ0] at eall
  have ec : p_Odds_countAllWays (gG a 14 7) (nI dn) s1 = lo3 (p_Odds_countAllWays_B14 (gG a 14 7) (nI dn) s2) fuelN (lN 1) (nI (bodyOf pr n dn BL).length) (nI dn) := by
    unfold p_Odds_countAllWays
    rw [x1, bind2_s]; rfl
  have eR : p_House_chances a = bind2 (p_Odds_countAllWays (gG a 14 7) (nI dn) s1) (fun r33 s34 => (if r33 = 0 then some ((-2 : Int32), s34) else bind1 (p_Odds_lookAtCity s34) (fun s38 => bind1 (p_Odds_startFromBody s38) (fun s41 => bind2 (p_Sess_bodySize s41) (fun r43 s44 => lo3 (p_Odds_reckon_B65 (gG a 14 7)) fuelN r43 (nI dn) s44))))) := by
    unfold p_House_chances p_Odds_reckon p_Sess_plan p_Sess_stepsDone p_Plan_length p_fill_rs
    rw [bind1_s, if_pos (decide_eq_true hk), bind1_s, bind1_s, hS.2.1, hP.2.2.1, if_pos (nI_lt hlt (by omega)), f1, bind1_s, bind2_id]
  rw [eR, ec, eall]
  cases eg : gd (fun i => own (kd i) (sz i) (Zs dn (bodyOf pr n dn BL).length sz i)) (st - dn) dn 1 with
  | false =>
    rw [if_neg (by decide), bind2_s, if_pos rfl]
    exact Or.inl ⟨rfl, s2, hH2.y ha hb hab, rfl⟩
  | true =>
    rw [if_pos rfl, hH2.1, Nat.one_mul]
    have hH3 : HX a (sJ s2 (38 + gG a 29 12) 41 (lN (lp (fun i => own (kd i) (sz i) (Zs dn (bodyOf pr n dn BL).length sz i)) (st - dn) dn))) := ⟨hH2.1, hH2.2.1, hH2.2.2.1, hH2.2.2.2.1, fun c z1 z2 z3 => (gJ_o z2).trans (hH2.2.2.2.2 c z1 z2 z3)⟩
    obtain ⟨s3, l1, l2, l3, l4⟩ := X_later (Z0 := (bodyOf pr n dn BL).length) hk hr hc hX hp hP hS h30 rfl (st - 1 - dn) (st - 1) fuelN _ (by omega) (by omega) (by unfold fuelN; omega) hH3 (fun j h1 h2 => absurd h2 (by omega))
    rw [show st - (st - 1 + 1) = 0 by omega] at l1
    have l1 : lo3 (p_Odds_countAllWays_B96 (gG a 14 7) (nI dn)) fuelN (1 : Int64) (nI (st - 1)) (sJ s2 (38 + gG a 29 12) 41 (lN (lp (fun i => own (kd i) (sz i) (Zs dn (bodyOf pr n dn BL).length sz i)) (st - dn) dn))) = some (1, s3) := l1
    rw [show nI st - (1 : Int32) = nI (st - 1) from pk_sub (b := 1) (by omega), l1, bind2_s, if_neg one_ne]
    obtain ⟨s4, c1, c2, c3, c4, c5, c6, c7, c8, c9⟩ := X_look hc (l2.xc hr hX)
    have hH4 : HX a s4 := ⟨c2.trans l2.1, fun c z1 z2 => (c4 c (by omega) (by omega) (by omega) (by omega)).trans (l2.2.1 c z1 z2), fun r hr => by rw [c4 16 (by omega) (by omega) (by omega) (by omega)]; exact l2.2.2.1 r hr, by rw [c5 15 (by omega)]; exact l2.2.2.2.1, fun c z1 z2 z3 => by rw [c3]; exact l2.2.2.2.2 c z1 z2 z3⟩
    obtain ⟨s5, q1, q2, q3, q4, q5⟩ := X_start hr ha hc hX h12 hS hH4
    obtain ⟨s6, y1, yG, yH, yr, y14, yl, ym⟩ := q2.bs hr hc hX h12 hS
    rw [c1, bind1_s, q1, bind1_s, y1, bind2_s]
    have M6 : ∀ c, ¬ (40 ≤ c ∧ c ≤ 48) → ¬ c = 33 → ¬ c = 16 → gM s6 c = gM s4 c := fun c z1 z2 z3 => (yG.2.2.1 c (by omega) z3).trans (q4 c z1 z2 z3)
    have J6 : ∀ c, ¬ (40 ≤ c ∧ c ≤ 47) → gJ s6 c = gJ s3 c := fun c z1 => by rw [yG.2.1, q5 c z1, c3]
    have hO6 : OX (gG a 14 7) st kd sz vt lm n pa pr ye (gG a 29 13) (gG a 29 14) (gG a 29 12) s6 := ⟨by rw [yH.2.2.2.2 30 (by omega) (by omega) (by omega)]; exact h30, yH.px hk hP, by rw [M6 37 (by omega) (by omega) (by omega)]; exact c6, by rw [M6 29 (by omega) (by omega) (by omega)]; exact c7, by rw [M6 35 (by omega) (by omega) (by omega)]; exact c8, by rw [M6 36 (by omega) (by omega) (by omega)]; exact c9, by rw [yH.1], by rw [yH.1], by rw [yH.1]⟩
    have hT6 : TXk (gG a 29 13) (R0of pa (bodyOf pr n dn BL)) s6 := q3.m (fun c z1 z2 => yG.2.2.1 c (by omega) (by omega)) (fun c _ _ => by rw [yG.2.1]) ha
    have e3 : ∀ c, c < 42 → gJ s3 (38 + gG a 29 12) c = if c = 41 then lN (lp (fun i => own (kd i) (sz i) (Zs dn (bodyOf pr n dn BL).length sz i)) (st - dn) dn) else 0 := fun c hc42 => by
      rw [l3 (38 + gG a 29 12) (by omega), gJ_sJ, if_pos rfl]
      by_cases e41 : c = 41
      · rw [if_pos e41, if_pos e41]
      · rw [if_neg e41, if_neg e41, hG.2.1]; exact f5 c hc42
    have hS6 : SX (gG a 29 12) 0 (fun _ => 0) (lp (fun i => own (kd i) (sz i) (Zs dn (bodyOf pr n dn BL).length sz i)) (st - dn) dn) (lp (fun i => own (kd i) (sz i) (Zs dn (bodyOf pr n dn BL).length sz i)) (st - dn) dn) s6 := by
      refine ⟨?_, fun c hc40 => ?_, ?_⟩
      · rw [J6 _ (by omega), e3 40 (by omega), if_neg (by omega), Nat.zero_mul]; rfl
      · rw [J6 _ (by omega), e3 c (by omega), if_neg (by omega)]; rfl
      · rw [J6 _ (by omega), e3 41 (by omega), if_pos rfl]
    have h := X_steps (a := a) (dn := dn) (Z0 := (bodyOf pr n dn BL).length) hk hr hp h12 hn hpa hc.2.2.2.1 xl (st - dn) dn fuelN (R0of pa (bodyOf pr n dn BL)) 0 (fun _ => 0) (gG a 29 13) (gG a 29 14) s6 (by omega) (Nat.le_refl _) (by unfold fuelN; omega) ha hb hab (yH.y ha hb hab) hO6 (by rw [eZ0]; exact R0_v (fun x hx => hpa x (xm x hx))) hT6 hS6 (fun j h1 h2 => by rw [J6 31 (by omega)]; exact l4 j h1 h2)
    rw [eZ0] at h
    exact Or.inr ⟨rfl, h⟩
end STEPS
