/-! THE PLAN's reads; fills; a STEP -/
def PX (s : XS) (k st : Nat) (kd sz vt lm : Nat → Nat) : Prop := st ≤ 12 ∧ gM s (19 + 5 * k) 4 = nI st ∧ ∀ i, i < st → gM s (20 + 5 * k) i = nI (kd i + 1) ∧ gM s (21 + 5 * k) i = nI (sz i) ∧ gM s (22 + 5 * k) i = nI (vt i) ∧ gM s (23 + 5 * k) i = nI (lm i)
theorem RP.px {a b : XS} {st : Nat} {kd sz vt lm : Nat → Nat} (h : RP a b st kd sz vt lm) : PX a (gG a 14 7) st kd sz vt lm :=
  ⟨h.2.1, h.2.2.1, fun i hi => ⟨(h.2.2.2.2 i hi).1, (h.2.2.2.2 i hi).2.2.1, (h.2.2.2.2 i hi).2.2.2.2.1, (h.2.2.2.2 i hi).2.2.2.2.2.2.1⟩⟩
theorem PX.fr {a s : XS} {k st : Nat} {kd sz vt lm : Nat → Nat} (h : PX a k st kd sz vt lm) (hk : k < 2) (hM : ∀ c, 19 ≤ c → c < 29 → gM s c = gM a c) : PX s k st kd sz vt lm := by
  refine ⟨h.1, by rw [hM _ (by omega) (by omega)]; exact h.2.1, fun i hi => ?_⟩
  rw [hM _ (by omega) (by omega), hM _ (by omega) (by omega), hM _ (by omega) (by omega), hM _ (by omega) (by omega)]
  exact h.2.2 i hi
theorem X_kindOf {s : XS} {k st : Nat} {kd sz vt lm : Nat → Nat} (h : PX s k st kd sz vt lm) {i : Nat} (hi : i < st) : p_Plan_kindOf k (nI i) s = some (nI (kd i + 1)) := by
  have h12 := h.1
  unfold p_Plan_kindOf p_Plan_has
  rw [if_neg (nI_pos (by omega)), h.2.1, if_neg (nI_ge hi (by omega)), bind1_s, if_neg one_ne, if_pos (gIn_t (show i < 12 by omega) (by omega)), ix_nI (by omega), (h.2.2 i hi).1]
theorem X_sizeOf {s : XS} {k st : Nat} {kd sz vt lm : Nat → Nat} (h : PX s k st kd sz vt lm) {i : Nat} (hi : i < st) : p_Plan_sizeOf k (nI i) s = some (nI (sz i)) := by
  have h12 := h.1
  unfold p_Plan_sizeOf p_Plan_has
  rw [if_neg (nI_pos (by omega)), h.2.1, if_neg (nI_ge hi (by omega)), bind1_s, if_neg one_ne, if_pos (gIn_t (show i < 12 by omega) (by omega)), ix_nI (by omega), (h.2.2 i hi).2.1]
theorem X_votesOf {s : XS} {k st : Nat} {kd sz vt lm : Nat → Nat} (h : PX s k st kd sz vt lm) {i : Nat} (hi : i < st) : p_Plan_votesOf k (nI i) s = some (nI (vt i)) := by
  have h12 := h.1
  unfold p_Plan_votesOf p_Plan_has
  rw [if_neg (nI_pos (by omega)), h.2.1, if_neg (nI_ge hi (by omega)), bind1_s, if_neg one_ne, if_pos (gIn_t (show i < 12 by omega) (by omega)), ix_nI (by omega), (h.2.2 i hi).2.2.1]
theorem X_limitOf {s : XS} {k st : Nat} {kd sz vt lm : Nat → Nat} (h : PX s k st kd sz vt lm) {i : Nat} (hi : i < st) : p_Plan_limitOf k (nI i) s = some (nI (lm i)) := by
  have h12 := h.1
  unfold p_Plan_limitOf p_Plan_has
  rw [if_neg (nI_pos (by omega)), h.2.1, if_neg (nI_ge hi (by omega)), bind1_s, if_neg one_ne, if_pos (gIn_t (show i < 12 by omega) (by omega)), ix_nI (by omega), (h.2.2 i hi).2.2.2]
theorem gM_oR {s : XS} {c0 : Nat} {g : Nat → Int32} {c : Nat} (h : ¬ c = c0) : gM (sMR s c0 g) c = gM s c := by
  show upR s.2.1 c0 g c = _
  unfold upR
  rw [if_neg h]; rfl
theorem fill_gen {R : Type} (C N : Nat) (hN : N ≤ 2000) (x : Int32) (F : (Int32 → XS → Option R) → Int32 → XS → Option R) (E : XS → Option R) (hF : ∀ c i s, F c i s = (if nI N ≤ i then E s else if gIn i N = true then lq (sM s C (ix i) x) (fun s3 => c (i + (1 : Int32)) s3) else none)) (s0 : XS) : ∃ s', lo2 F fuelN 0 s0 = E s' ∧ gG s' = gG s0 ∧ gJ s' = gJ s0 ∧ (∀ c, ¬ c = C → gM s' c = gM s0 c) ∧ ∀ i, i < N → gM s' C i = x := by
  have key : ∀ (m i f : Nat) (s : XS), i + m = N → m < f → gG s = gG s0 → gJ s = gJ s0 → (∀ c, ¬ c = C → gM s c = gM s0 c) → (∀ j, j < i → gM s C j = x) → ∃ s', lo2 F f (nI i) s = E s' ∧ gG s' = gG s0 ∧ gJ s' = gJ s0 ∧ (∀ c, ¬ c = C → gM s' c = gM s0 c) ∧ ∀ i, i < N → gM s' C i = x := by
    intro m
    induction m with
    | zero =>
      intro i f s hi hf h1 h2 h3 h4
      obtain ⟨f, rfl⟩ : ∃ g, f = g + 1 := ⟨f - 1, by omega⟩
      refine ⟨s, ?_, h1, h2, h3, fun j hj => h4 j (by omega)⟩
      show F _ (nI i) s = _
      rw [hF, if_pos (nI_le (by omega) (by omega))]
    | succ m ih =>
      intro i f s hi hf h1 h2 h3 h4
      obtain ⟨f, rfl⟩ : ∃ g, f = g + 1 := ⟨f - 1, by omega⟩
      have ih := ih (i + 1) f (sM s C i x) (by omega) (by omega) h1 h2 (fun c hc => (gM_o hc).trans (h3 c hc)) (fun j hj => by
        rw [gM_sM, if_pos rfl]
        by_cases e : j = i
        · rw [if_pos e]
        · rw [if_neg e]; exact h4 j (by omega))
      show ∃ s', F (lo2 F f) (nI i) s = _ ∧ _
      rw [hF, if_neg (nI_ge (by omega) (by omega)), if_pos (gIn_t (by omega) (by omega)), ix_nI (by omega), lq_e, nI_1]
      exact ih
  exact key N 0 fuelN s0 (by omega) (by unfold fuelN; omega) rfl rfl (fun _ _ => rfl) (fun j hj => absurd hj (Nat.not_lt_zero j))
theorem RS_next {a b a' b' : XS} {n : Nat} {pr : Nat → Nat} {st : Nat} {kd : Nat → Nat} {dn : Nat} {BL : Nat → List Nat} (hS : RS a b n pr st kd dn BL) (hlt : dn < st) (D : List Nat) (hD : D.length ≤ 40) (hm : ∀ x ∈ D, x < n) (e8 : gM a' 14 8 = nI (dn + 1)) (f18 : gM b' 0 18 = nI (dn + 1)) (eh : gM a' 14 9 = gM b' 0 21) (eD1 : gM a' 16 (dn + 1) = nI D.length) (eD2 : rowIs (gM a' (49 + dn)) 0 D) (e16 : ∀ r, 1 ≤ r → r ≤ dn → gM a' 16 r = gM a 16 r) (e48 : ∀ r, 1 ≤ r → r ≤ dn → gM a' (48 + r) = gM a (48 + r)) (f15 : ∀ r, r ≤ dn → gM b' 15 r = gM b 15 r) (f16 : ∀ j, j < 40 * dn + 40 → gM b' 16 j = gM b 16 j) (hk2 : kd dn = 2 → 1 ≤ dn ∧ D = BL dn) (hk0 : ¬ kd dn = 2 → gM b' 15 (dn + 1) = nI D.length ∧ rowIs (gM b' 16) (40 * dn + 40) D) : RS a' b' n pr st kd (dn + 1) (fun r => if r = dn + 1 then D else BL r) := by
  refine ⟨by omega, e8, f18, eh, fun r h1 h2 => ?_, fun z => absurd z (by omega)⟩
  dsimp only
  by_cases e : r = dn + 1
  · subst e
    rw [if_pos rfl, show 48 + (dn + 1) = 49 + dn by omega, show dn + 1 - 1 = dn by omega]
    refine ⟨hD, hm, eD1, eD2, fun q => ?_, fun q => hk0 q⟩
    rw [if_neg (by omega)]
    exact (hk2 q).2
  · have hr := hS.2.2.2.2.1 r h1 (by omega)
    rw [if_neg e, if_neg (by omega), e16 r h1 (by omega), e48 r h1 (by omega), f15 r (by omega)]
    refine ⟨hr.1, hr.2.1, hr.2.2.1, hr.2.2.2.1, hr.2.2.2.2.1, fun q => ⟨(hr.2.2.2.2.2 q).1, fun j hj => ?_⟩⟩
    have := hr.1
    rw [f16 _ (by omega)]
    exact (hr.2.2.2.2.2 q).2 j hj
theorem RS.fr2 {a b a' b' : XS} {n : Nat} {pr : Nat → Nat} {st : Nat} {kd : Nat → Nat} {dn : Nat} {BL : Nat → List Nat} (hS : RS a b n pr st kd dn BL) (hn : n ≤ 40) (e8 : gM a' 14 8 = gM a 14 8) (e9 : gM a' 14 9 = gM a 14 9) (f18 : gM b' 0 18 = gM b 0 18) (f21 : gM b' 0 21 = gM b 0 21) (e16 : ∀ r, 1 ≤ r → r ≤ dn → gM a' 16 r = gM a 16 r) (e48 : ∀ r, 1 ≤ r → r ≤ dn → gM a' (48 + r) = gM a (48 + r)) (f15 : ∀ r, r ≤ dn → gM b' 15 r = gM b 15 r) (f16 : ∀ j, j < 40 * dn + 40 → gM b' 16 j = gM b 16 j) : RS a' b' n pr st kd dn BL := by
  obtain ⟨q1, q2, q3, q4, q5, q6⟩ := hS
  refine ⟨q1, by rw [e8]; exact q2, by rw [f18]; exact q3, by rw [e9, f21]; exact q4, fun r h1 h2 => ?_, fun z => ?_⟩
  · have hr := q5 r h1 h2
    rw [e16 r h1 h2, e48 r h1 h2, f15 r h2]
    refine ⟨hr.1, hr.2.1, hr.2.2.1, hr.2.2.2.1, hr.2.2.2.2.1, fun q => ⟨(hr.2.2.2.2.2 q).1, fun j hj => ?_⟩⟩
    have := hr.1
    rw [f16 _ (by omega)]
    exact (hr.2.2.2.2.2 q).2 j hj
  · have hl := sel_len pr n
    rw [f15 0 (by omega)]
    refine ⟨(q6 z).1, fun j hj => ?_⟩
    rw [f16 _ (by omega)]
    exact (q6 z).2 j hj
theorem Y_body {a b : XS} {n : Nat} {pr : Nat → Nat} {st : Nat} {kd sz vt lm : Nat → Nat} {dn : Nat} {BL : Nat → List Nat} (hp : PC st kd sz vt lm) (hS : RS a b n pr st kd dn BL) (hlt : dn < st) : gM b 15 dn = nI (bodyOf pr n dn BL).length ∧ rowIs (gM b 16) (40 * dn) (bodyOf pr n dn BL) := by
  rcases Nat.eq_zero_or_pos dn with e | e
  · subst e
    exact hS.2.2.2.2.2 rfl
  · have hr := hS.2.2.2.2.1 dn (by omega) (Nat.le_refl _)
    have eb : bodyOf pr n dn BL = BL dn := if_neg (by omega)
    rw [eb]
    refine hr.2.2.2.2.2 (fun q => ?_)
    have := (hp (dn - 1) (by omega)).2.2.2.2.2.1.mp q
    omega
theorem gcpy0 {L N : Nat} (h : L ≤ N) (hN : N ≤ 40) : gCpy (0 : Int32) (0 : Int32) (nI L) N N = true :=
  decide_eq_true ⟨by decide, by decide, nI_pos (by omega), by rw [ix_0, ix_nI (by omega)]; omega, by rw [ix_0, ix_nI (by omega)]; omega⟩
theorem rowIs_cpy {f g : Nat → Int32} {L : List Nat} (h : rowIs f 0 L) : rowIs (va_cpy f g 0 0 L.length) 0 L := fun j hj => by
  rw [pk_cpy_in (by omega) (by omega), show 0 + (0 + j - 0) = 0 + j by omega]
  exact h j hj
theorem step_draw {a b : XS} {n : Nat} {ho pa pr ye : Nat → Nat} {ki : Nat → Nat → Bool} {np st : Nat} {kd sz vt lm : Nat → Nat} {dn : Nat} {BL : Nat → List Nat} (hc : CC n ho pa pr ye ki np) (hX : XC a n ho pa pr ye ki np) (hY : YC b n ho pa pr ye ki np) (hT : RT a b) (hL : RL_ a b) (hB : RB a b) (hO : RO a b) (hp : PC st kd sz vt lm) (hP : RP a b st kd sz vt lm) (hS : RS a b n pr st kd dn BL) (hlt : dn < st) (hk : kd dn = 0) : ∃ r a' b', p_Sess_draw (nI (sz dn)) a = some (r, a') ∧ p_Model_step b = some (r, b') ∧ Rel a' b' := by
  have h12 := hP.2.1
  have hn := hc.1
  have hpc := hp dn hlt
  obtain ⟨s, x1, hG, xr, x16, xl, xm⟩ := X_bodySize hc hX h12 hS
  have hyb := Y_body hp hS hlt
  obtain ⟨X1, T1, L1, B1, O1, P1, S1⟩ := rel_gx hc hX hY hT hL hB hO hp hP hS hG
  generalize bodyOf pr n dn BL = L at x1 xr x16 xl xm hyb
  have b7 : gM b 7 dn = nI 0 := by rw [(hP.2.2.2.2 dn hlt).2.1, hk]
  have b8 : gM b 8 dn = nI (sz dn) := (hP.2.2.2.2 dn hlt).2.2.2.1
  have n9 : ¬ gM b 0 9 = 0 := by rw [hP.2.2.2.1]; exact nI_ne0 (by omega) (by omega)
  have n18 : ¬ gM b 0 18 = gM b 0 9 := by
    rw [hP.2.2.2.1, hS.2.2.1]
    exact fun q => by have := (nI_eq (by omega) (by omega)).mp q; omega
  have g12 : gIn (nI dn) 12 = true := gIn_t (by omega) (by omega)
  have g13 : gIn (nI dn) 13 = true := gIn_t (by omega) (by omega)
  have g13' : gIn (nI (dn + 1)) 13 = true := gIn_t (by omega) (by omega)
  have s14 : gM s 14 8 = nI dn := S1.2.1
  by_cases hN : L.length < sz dn
  · refine ⟨2, s, b, ?_, ?_, n, ho, pa, pr, ye, ki, np, st, kd, sz, vt, lm, dn, BL, hc, X1, hY, T1, L1, B1, O1, hp, P1, S1⟩
    · unfold p_Sess_draw
      rw [x1, bind2_s, if_neg (nI_ge hN (by omega))]
    · unfold p_Model_step
      rw [if_neg n9, if_neg n18, hS.2.2.1, if_pos g12, ix_nI (by omega), b7, if_pos (show nI 0 = 0 from rfl), if_pos g13, if_pos g12, b8, hyb.1, if_neg (nI_ge hN (by omega))]
  · obtain ⟨w, f, v, hw, hf, l1, l2, l3, l4, l5⟩ := id L1
    have hLX : LX s w f v := ⟨hw, hf, l1, l2, fun i hi => ⟨(l5 i hi).1, (l5 i hi).2.1⟩⟩
    have hLY : LY b w v := ⟨hw, l3, fun i hi => ⟨(l5 i hi).1, (l5 i hi).2.2⟩⟩
    obtain ⟨t1, y1, hFY, yr⟩ := Y_copy (b := b) (dn := dn) (N := sz dn) (S := L.length) (by omega) xl rfl hyb.2
    obtain ⟨s', hFX, hx⟩ := X_drawloop (a := s) (N := sz dn) (S := L.length) hLX s14 (by omega) (by omega) xl (sz dn) 0 0 fuelN (sMR s 17 (va_cpy (gM s (48 + dn)) (gM s 17) 0 0 L.length)) L [] (by omega) (by unfold fuelN; omega) rfl (by omega) (by omega) (by
      have := rowIs_cpy (g := gM s 17) xr
      intro j hj
      rw [gM_sMR, if_pos rfl]; exact this j hj) (fun j hj => absurd hj (Nat.not_lt_zero j)) ⟨rfl, rfl, fun c h1 h2 => gM_oR h1⟩
    obtain ⟨t', hFY2, hy⟩ := Y_drawloop (b := b) (N := sz dn) (S := L.length) hLY (by omega) (by omega) xl (sz dn) 0 0 fuelN t1 L [] (by omega) (by unfold fuelN; omega) rfl (by omega) (by omega) yr (fun j hj => absurd hj (Nat.not_lt_zero j)) hFY
    have eX : p_Sess_draw (nI (sz dn)) a = lo3 (p_Sess_draw_B36 (nI (sz dn)) (nI L.length)) fuelN (nI 0) (nI 0) (sMR s 17 (va_cpy (gM s (48 + dn)) (gM s 17) 0 0 L.length)) := by
      unfold p_Sess_draw
      rw [x1, bind2_s, if_pos (nI_le (by omega) (by omega)), s14, if_pos g13, if_pos (gcpy0 xl (Nat.le_refl 40)), ix_nI (by omega), ix_nI (by omega), ix_0, lq_e]; rfl
    have eY : p_Model_draws b = lo3 (p_Model_draws_B65 (nI (sz dn)) (nI (40 * dn)) (nI L.length)) fuelN (nI 0) (nI 0) t1 := by
      unfold p_Model_draws
      rw [hS.2.2.1, if_pos g12, if_pos g13, ix_nI (by omega), b8, hyb.1, show (40 : Int32) * nI dn = nI (40 * dn) from by rw [show (40 : Int32) = nI 40 from rfl, pk_mul]]
      exact y1
    have eS : p_Model_step b = bind2 (p_Model_draws b) (fun r21 s22 => (if r21 = (1 : Int32) then some ((1 : Int32), s22) else lq (sM s22 0 18 ((gM s22 0 18) + (1 : Int32))) (fun s24 => some ((0 : Int32), s24)))) := by
      unfold p_Model_step
      rw [if_neg n9, if_neg n18, hS.2.2.1, if_pos g12, ix_nI (by omega), b7, if_pos (show nI 0 = 0 from rfl), if_pos g13, if_pos g12, b8, hyb.1, if_pos (nI_le (by omega) (by omega))]
    have t0 : gM t' 0 = gM b 0 := hFY2.2.1 0 (by omega) (by omega)
    rcases hx with ⟨d1, hx⟩ | ⟨k', D', d1, hrx, hx⟩
    · rcases hy with ⟨d2, hy⟩ | ⟨k2, D2, d2, hry, hy⟩
      · refine ⟨1, s', t', by rw [eX, hx], by rw [eS, eY, hy, bind2_s, if_pos rfl], n, ho, pa, pr, ye, ki, np, st, kd, sz, vt, lm, dn, BL, hc, X1.fr (fun c h1 h2 => hFX.2.2 c (by omega) (by omega)) (by rw [hFX.2.1]), hY.fr (by rw [t0]) (by rw [t0]) (fun c h1 h2 => hFY2.2.1 c (by omega) (by omega)), T1.fr (hFX.2.2 7 (by omega) (by omega)) (hFX.2.2 8 (by omega) (by omega)) (by rw [t0]) (hFY2.2.1 6 (by omega) (by omega)), L1.fr (hFX.2.2 10 (by omega) (by omega)) (hFX.2.2 11 (by omega) (by omega)) (by rw [t0]) (by rw [t0]) (hFY2.2.1 17 (by omega) (by omega)), B1.fr (hFX.2.2 12 (by omega) (by omega)) (hFX.2.2 13 (by omega) (by omega)) (by rw [t0]) (by rw [t0]) (by rw [t0]) (by rw [t0]) (hFY2.2.1 19 (by omega) (by omega)), O1.fr hFX.1 (fun _ _ _ => by rw [hFX.2.1]) (by rw [hFX.2.2 29 (by omega) (by omega)]) (by rw [t0]) (by rw [hFY2.1]), hp, P1.fr O1.2.1 hFX.1 (fun c h1 h2 => hFX.2.2 c (by omega) (by omega)) (by rw [t0]) (hFY2.2.1 7 (by omega) (by omega)) (hFY2.2.1 8 (by omega) (by omega)) (hFY2.2.1 9 (by omega) (by omega)) (hFY2.2.1 10 (by omega) (by omega)), S1.fr2 hn (by rw [hFX.2.2 14 (by omega) (by omega)]) (by rw [hFX.2.2 14 (by omega) (by omega)]) (by rw [t0]) (by rw [t0]) (fun r _ _ => by rw [hFX.2.2 16 (by omega) (by omega)]) (fun r _ _ => hFX.2.2 (48 + r) (by omega) (by omega)) (fun r _ => by rw [hFY2.2.1 15 (by omega) (by omega)]) hFY2.2.2⟩
      · rw [d1] at d2; cases d2
    · rcases hy with ⟨d2, hy⟩ | ⟨k2, D2, d2, hry, hy⟩
      · rw [d1] at d2; cases d2
      · rw [d1] at d2
        obtain ⟨rfl, rfl⟩ : k' = k2 ∧ D' = D2 := by cases d2; exact ⟨rfl, rfl⟩
        obtain ⟨z1, z2, z3, z4⟩ := drw_b d1 (by omega) (by omega)
        have z3 : D'.length = sz dn := by rw [z3]; simp
        have s'10 : gM s' 10 = gM s 10 := hFX.2.2 10 (by omega) (by omega)
        have s'14 : gM s' 14 = gM s 14 := hFX.2.2 14 (by omega) (by omega)
        have t18 : gM t' 0 18 = nI dn := by rw [t0]; exact hS.2.2.1
        obtain ⟨t2, u1, u2, u3, u4⟩ := Y_use (w := w) (k := k') z2 hw (sM t' 15 (dn + 1) (nI (sz dn))) (by show gM t' 0 23 = _; rw [t0]; exact l3)
        have er : (nI f + nI k') - (nI f + nI k') / (500 : Int32) * (500 : Int32) = nI ((f + k') % 500) := by
          rw [nI_add]; exact pk_rem (d := 500) (by omega) (by omega) (by omega)
        have eU : p_Lot_use (nI k') s' = some (sM (sM (sM s' 10 1 (nI ((f + k') % 500))) 10 2 (nI (w - k'))) 10 3 (gM s' 10 3 + nI k')) := by
          unfold p_Lot_use
          rw [s'10, l1, l2, if_neg (nI_nle (by omega) (by omega)), if_neg (nI_nlt z2 (by omega)), er, lq_e]
          have e2 : gM (sM s' 10 1 (nI ((f + k') % 500))) 10 2 = nI w := by show gM s' 10 2 = _; rw [s'10]; exact l2
          rw [e2, nI_sub z2, lq_e, lq_e]
          have e3 : gM (sM (sM s' 10 1 (nI ((f + k') % 500))) 10 2 (nI (w - k'))) 10 3 = gM s 10 3 := by show gM s' 10 3 = _; rw [s'10]
          rw [e3]
        generalize hb : sM (sM (sM s' 10 1 (nI ((f + k') % 500))) 10 2 (nI (w - k'))) 10 3 (gM s' 10 3 + nI k') = s3 at eU
        have w1 : gM s3 10 1 = nI ((f + k') % 500) := by rw [← hb]; rfl
        have w2 : gM s3 10 2 = nI (w - k') := by rw [← hb]; rfl
        have w3 : gM s3 10 3 = gM s 10 3 + nI k' := by rw [← hb, ← s'10]; rfl
        have wo : ∀ c, ¬ c = 10 → ¬ c = 17 → ¬ c = 49 + dn → gM s3 c = gM s c := fun c h1 h2 h3 => by
          rw [← hb]; exact (gM_o h1).trans ((gM_o h1).trans ((gM_o h1).trans (hFX.2.2 c h2 h3)))
        have wG : gG s3 = gG s := by rw [← hb]; exact hFX.1
        have wJ : gJ s3 = gJ s := by rw [← hb]; exact hFX.2.1
        have wr : rowIs (gM s3 (49 + dn)) 0 D' := by rw [← hb, gM_o (by omega), gM_o (by omega), gM_o (by omega)]; exact hrx
        have s314 : gM s3 14 8 = nI dn := by rw [wo 14 (by omega) (by omega) (by omega)]; exact s14
        have eSt : p_Sess_stand (nI (sz dn)) s3 = some (sM (sM s3 14 8 (nI (dn + 1))) 16 (dn + 1) (nI (sz dn))) := by
          unfold p_Sess_stand
          rw [s314, if_neg (show ¬ (12 : Int32) ≤ nI dn from nI_ge (b := 12) (by omega) (by omega)), lq_e, nI_1]
          have e2 : gM (sM s3 14 8 (nI (dn + 1))) 14 8 = nI (dn + 1) := rfl
          rw [e2, if_pos g13', ix_nI (by omega)]; rfl
        have yo : ∀ c, ¬ c = 0 → ¬ c = 15 → ¬ c = 16 → ¬ c = 17 → ¬ c = 20 → gM t2 c = gM b c := fun c h0 h1 h2 h3 h4 => (u3 c h3).trans ((gM_o h1).trans (hFY2.2.1 c h4 h2))
        have y20 : gM t2 0 = gM b 0 := (u3 0 (by omega)).trans ((gM_o (by omega)).trans t0)
        have e24 : gM (sM t' 15 (dn + 1) (nI (sz dn))) 0 24 = gM b 0 24 := by show gM t' 0 24 = _; rw [t0]
        rw [e24] at u1
        generalize hbb : sM (sM t2 0 23 (nI (w - k'))) 0 24 (gM b 0 24 + nI k') = t3 at u1
        have v0 : ∀ j, ¬ j = 23 → ¬ j = 24 → gM t3 0 j = gM b 0 j := fun j h1 h2 => by
          rw [← hbb, gM_sM, if_pos rfl, if_neg h2, gM_sM, if_pos rfl, if_neg h1, y20]
        have v23 : gM t3 0 23 = nI (w - k') := by rw [← hbb]; rfl
        have v24 : gM t3 0 24 = gM b 0 24 + nI k' := by rw [← hbb]; rfl
        have vo : ∀ c, ¬ c = 0 → gM t3 c = gM t2 c := fun c h => by rw [← hbb]; exact (gM_o h).trans (gM_o h)
        have vJ : gJ t3 = gJ b := by rw [← hbb]; exact u2.trans hFY2.1
        have t318 : gM t3 0 18 = nI dn := by rw [v0 18 (by omega) (by omega)]; exact hS.2.2.1
        have vs : ∀ j, ¬ j = 18 → gM (sM t3 0 18 (nI (dn + 1))) 0 j = gM t3 0 j := fun j h => by rw [gM_sM, if_pos rfl, if_neg h]
        refine ⟨0, sM (sM s3 14 8 (nI (dn + 1))) 16 (dn + 1) (nI (sz dn)), sM t3 0 18 (nI (dn + 1)), ?_, ?_, n, ho, pa, pr, ye, ki, np, st, kd, sz, vt, lm, dn + 1, _, hc, X1.fr (fun c h1 h2 => (gM_o (by omega)).trans ((gM_o (by omega)).trans (wo c (by omega) (by omega) (by omega)))) (by show gJ s3 6 = _; rw [wJ]), hY.fr (by rw [vs 0 (by omega)]; exact v0 0 (by omega) (by omega)) (by rw [vs 5 (by omega)]; exact v0 5 (by omega) (by omega)) (fun c h1 h2 => (gM_o (by omega)).trans ((vo c (by omega)).trans (yo c (by omega) (by omega) (by omega) (by omega) (by omega)))), T1.fr ((gM_o (by omega)).trans ((gM_o (by omega)).trans (wo 7 (by omega) (by omega) (by omega)))) ((gM_o (by omega)).trans ((gM_o (by omega)).trans (wo 8 (by omega) (by omega) (by omega)))) (by rw [vs 8 (by omega)]; exact v0 8 (by omega) (by omega)) ((gM_o (by omega)).trans ((vo 6 (by omega)).trans (yo 6 (by omega) (by omega) (by omega) (by omega) (by omega)))), ?_, B1.fr ((gM_o (by omega)).trans ((gM_o (by omega)).trans (wo 12 (by omega) (by omega) (by omega)))) ((gM_o (by omega)).trans ((gM_o (by omega)).trans (wo 13 (by omega) (by omega) (by omega)))) (by rw [vs 33 (by omega)]; exact v0 33 (by omega) (by omega)) (by rw [vs 34 (by omega)]; exact v0 34 (by omega) (by omega)) (by rw [vs 35 (by omega)]; exact v0 35 (by omega) (by omega)) (by rw [vs 36 (by omega)]; exact v0 36 (by omega) (by omega)) ((gM_o (by omega)).trans ((vo 19 (by omega)).trans (yo 19 (by omega) (by omega) (by omega) (by omega) (by omega)))), O1.fr wG (fun c _ _ => by show gJ s3 c = _; rw [wJ]) (by rw [gM_o (by omega), gM_o (by omega), wo 29 (by omega) (by omega) (by omega)]) (by rw [vs 46 (by omega)]; exact v0 46 (by omega) (by omega)) (by show gJ t3 25 = _; rw [vJ]), hp, P1.fr O1.2.1 wG (fun c h1 h2 => (gM_o (by omega)).trans ((gM_o (by omega)).trans (wo c (by omega) (by omega) (by omega)))) (by rw [vs 9 (by omega)]; exact v0 9 (by omega) (by omega)) ((gM_o (by omega)).trans ((vo 7 (by omega)).trans (yo 7 (by omega) (by omega) (by omega) (by omega) (by omega)))) ((gM_o (by omega)).trans ((vo 8 (by omega)).trans (yo 8 (by omega) (by omega) (by omega) (by omega) (by omega)))) ((gM_o (by omega)).trans ((vo 9 (by omega)).trans (yo 9 (by omega) (by omega) (by omega) (by omega) (by omega)))) ((gM_o (by omega)).trans ((vo 10 (by omega)).trans (yo 10 (by omega) (by omega) (by omega) (by omega) (by omega)))), RS_next S1 hlt D' (by omega) (fun x hx => ?_) rfl rfl ?_ ?_ ?_ ?_ ?_ ?_ ?_ (fun q => absurd q (by omega)) (fun _ => ⟨?_, ?_⟩)⟩
        · rw [eX, hx, eU, bind1_s, eSt, bind1_s]
        · rw [eS, eY, hy, t18, nI_1, if_pos g13', ix_nI (by omega), lq_e, u1, bind2_s, if_neg (show ¬ (0 : Int32) = 1 by decide), t318, nI_1]; rfl
        · refine ⟨w - k', (f + k') % 500, fun i => v (i + k'), by omega, Nat.mod_lt _ (by omega), w1, w2, ?_, ?_, fun i hi => ?_⟩
          · rw [vs 23 (by omega)]; exact v23
          · rw [vs 24 (by omega), v24, ← l4]; exact w3
          · have hl5 := l5 (i + k') (by omega)
            refine ⟨hl5.1, ?_, ?_⟩
            · rw [gM_o (by omega), gM_o (by omega), wo 11 (by omega) (by omega) (by omega), show ((f + k') % 500 + i) % 500 = (f + (i + k')) % 500 by omega]
              exact hl5.2.1
            · rw [gM_o (by omega), vo 17 (by omega), u4 i (by omega)]
              show gM t' 17 (i + k') = _
              rw [hFY2.2.1 17 (by omega) (by omega)]
              exact hl5.2.2
        · rcases z4 x hx with q | q
          · cases q
          · exact xm x q
        · show gM s3 14 9 = gM (sM t3 0 18 (nI (dn + 1))) 0 21
          rw [vs 21 (by omega), v0 21 (by omega) (by omega), wo 14 (by omega) (by omega) (by omega)]
          exact S1.2.2.2.1
        · rw [z3]; rw [gM_sM, if_pos rfl, if_pos rfl]
        · rw [gM_o (by omega), gM_o (by omega)]; exact wr
        · intro r h1 h2
          rw [gM_sM, if_pos rfl, if_neg (by omega), gM_o (by omega), wo 16 (by omega) (by omega) (by omega)]
        · intro r h1 h2
          exact (gM_o (by omega)).trans ((gM_o (by omega)).trans (wo (48 + r) (by omega) (by omega) (by omega)))
        · intro r h2
          rw [gM_o (by omega), vo 15 (by omega), u3 15 (by omega), gM_sM, if_pos rfl, if_neg (by omega), hFY2.2.1 15 (by omega) (by omega)]
        · intro j hj
          rw [gM_o (by omega), vo 16 (by omega), u3 16 (by omega), gM_o (by omega)]
          exact hFY2.2.2 j hj
        · rw [gM_o (by omega), vo 15 (by omega), u3 15 (by omega), gM_sM, if_pos rfl, if_pos rfl, z3]
        · rw [gM_o (by omega), vo 16 (by omega), u3 16 (by omega), gM_o (by omega)]
          exact hry
