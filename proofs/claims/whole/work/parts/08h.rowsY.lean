/-! ALL BODIES THROUGH ONE STEP: the reference's side -/
def FZ (t t' : XS) : Prop := (∀ c, ¬ c = 0 → ¬ c = 21 → ¬ c = 23 → gM t' c = gM t c) ∧ (∀ j, ¬ j = 39 → ¬ j = 42 → ¬ j = 49 → gM t' 0 j = gM t 0 j) ∧ ∀ c, ¬ c = 0 → ¬ c = 22 → ¬ c = 24 → ¬ c = 26 → gJ t' c = gJ t c
def FW (t t' : XS) : Prop := (∀ c, ¬ c = 0 → ¬ c = 23 → gM t' c = gM t c) ∧ (∀ j, ¬ j = 42 → ¬ j = 49 → gM t' 0 j = gM t 0 j) ∧ ∀ c, ¬ c = 0 → ¬ c = 24 → ¬ c = 26 → gJ t' c = gJ t c
theorem FW.tr {a b c : XS} (h : FW a b) (h2 : FW b c) : FW a c := ⟨fun x z w => (h2.1 x z w).trans (h.1 x z w), fun j z w => (h2.2.1 j z w).trans (h.2.1 j z w), fun x z w u => (h2.2.2 x z w u).trans (h.2.2 x z w u)⟩
theorem FZ.tr {a b c : XS} (h : FZ a b) (h2 : FZ b c) : FZ a c := ⟨fun x z w u => (h2.1 x z w u).trans (h.1 x z w u), fun j z w u => (h2.2.1 j z w u).trans (h.2.1 j z w u), fun x z w u v => (h2.2.2 x z w u v).trans (h.2.2 x z w u v)⟩
theorem FW.z {a b : XS} (h : FW a b) : FZ a b := ⟨fun x z _ w => h.1 x z w, fun j _ z w => h.2.1 j z w, fun x z _ w u => h.2.2 x z w u⟩
theorem FY2.w {a b : XS} (h : FY2 a b) : FW a b := ⟨fun x z w => h.1 x z w, fun j z _ => h.2.1 j z, fun x _ z _ => h.2.2 x z⟩
theorem F49.w {a b : XS} (h : F49 a b) : FW a b := ⟨fun x z _ => h.2.1 x z, fun j _ z => h.2.2 j z, fun x _ _ _ => by rw [h.1]⟩
/-- the rows that stand -/
def RYr (R : TT) (t : XS) : Prop := gM t 0 39 = nI R.1 ∧ ∀ r, r < R.1 → gM t 21 r = nI (R.2.1 r) ∧ gJ t 22 r = lN (R.2.2 r)
def NY (A : AA) (t : XS) : Prop := gJ t 0 47 = lN A.2.1 ∧ ∀ c, c < 40 → gJ t 26 c = lN (A.2.2 c)
theorem Y_sizeOf {Z c : Nat} (hZ : Z ≤ 40) (hc : vc Z c) : p_Model_sizeOf (nI c) = some (nI Z) := by
  have hp := pt_vc hZ hc
  have hb := pt_b hZ hc
  have h := Y_parts (a := pt c 0) (b := pt c 1) (c := pt c 2) (d := pt c 3) (hb 0 (by omega)) (hb 1 (by omega)) (hb 2 (by omega)) (hb 3 (by omega))
  rw [← hp.1] at h
  unfold p_Model_sizeOf
  rw [h.1, bind1_s, h.2.1, bind1_s, h.2.2.1, bind1_s, h.2.2.2, bind1_s, nI_add, nI_add, nI_add, hp.2.1]
theorem Y_copyrows {T : TT} {x1 : Int64} {i : Nat} (hT6 : T.1 ≤ 600) (c126 : Int64 → Int32 → XS → Option (Int32 × XS)) {t0 : XS} (h39 : gM t0 0 39 = nI T.1) (h2 : ∀ r, r < T.1 → gM t0 23 r = nI (T.2.1 r) ∧ gJ t0 24 r = lN (T.2.2 r)) : ∃ t', lo2 (p_Model_chances_B433 x1 (nI i) c126) fuelN 0 t0 = c126 x1 (nI (i + 1)) t' ∧ RYr T t' ∧ (∀ c, ¬ c = 21 → gM t' c = gM t0 c) ∧ ∀ c, ¬ c = 22 → gJ t' c = gJ t0 c := by
  have key : ∀ (m r f : Nat) (t : XS), r + m = T.1 → m < f → (∀ c, ¬ c = 21 → gM t c = gM t0 c) → (∀ c, ¬ c = 22 → gJ t c = gJ t0 c) → (∀ j, j < r → gM t 21 j = nI (T.2.1 j) ∧ gJ t 22 j = lN (T.2.2 j)) → ∃ t', lo2 (p_Model_chances_B433 x1 (nI i) c126) f (nI r) t = c126 x1 (nI (i + 1)) t' ∧ RYr T t' ∧ (∀ c, ¬ c = 21 → gM t' c = gM t0 c) ∧ ∀ c, ¬ c = 22 → gJ t' c = gJ t0 c := by
    intro m
    induction m with
    | zero =>
      intro r f t hi hf z1 z2 z3
      obtain ⟨f, rfl⟩ : ∃ g, f = g + 1 := ⟨f - 1, by omega⟩
      refine ⟨t, ?_, ⟨by rw [z1 0 (by omega)]; exact h39, fun j hj => z3 j (by omega)⟩, z1, z2⟩
      show p_Model_chances_B433 _ _ _ _ (nI r) t = _
      unfold p_Model_chances_B433
      rw [z1 0 (by omega), h39, if_pos (nI_le (by omega) (by omega)), nI_1]
    | succ m ih =>
      intro r f t hi hf z1 z2 z3
      obtain ⟨f, rfl⟩ : ∃ g, f = g + 1 := ⟨f - 1, by omega⟩
      have e := h2 r (by omega)
      have g1 : gIn (nI r) 601 = true := gIn_t (by omega) (by omega)
      have g0 : gIn (nI r) 600 = true := gIn_t (by omega) (by omega)
      have ih := ih (r + 1) f (sJ (sM t 21 r (nI (T.2.1 r))) 22 r (lN (T.2.2 r))) (by omega) (by omega) (fun c hc => (gM_o (s := t) hc).trans (z1 c hc)) (fun c hc => (gJ_o hc).trans (z2 c hc)) (fun j hj => by
        show gM (sM t 21 r (nI (T.2.1 r))) 21 j = _ ∧ gJ (sJ (sM t 21 r (nI (T.2.1 r))) 22 r (lN (T.2.2 r))) 22 j = _
        rw [gM_sM, gJ_sJ, if_pos rfl, if_pos rfl]
        by_cases ej : j = r
        · rw [if_pos ej, if_pos ej, ej]; exact ⟨rfl, rfl⟩
        · rw [if_neg ej, if_neg ej]; exact z3 j (by omega))
      show ∃ t', p_Model_chances_B433 x1 (nI i) c126 (lo2 (p_Model_chances_B433 x1 (nI i) c126) f) (nI r) t = _ ∧ _
      generalize lo2 (p_Model_chances_B433 x1 (nI i) c126) f = K at ih ⊢
      unfold p_Model_chances_B433
      rw [z1 0 (by omega), h39, if_neg (nI_ge (by omega) (by omega)), if_pos g1, if_pos g0, ix_nI (by omega), z1 23 (by omega), e.1, lq_e, if_pos g1, if_pos g0]
      have e24 : gJ (sM t 21 r (nI (T.2.1 r))) 24 r = lN (T.2.2 r) := by
        show gJ t 24 r = _
        rw [z2 24 (by omega)]; exact e.2
      rw [e24, lq_e, nI_1]
      exact ih
  exact key T.1 0 fuelN t0 (by omega) (by unfold fuelN; omega) (fun _ _ => rfl) (fun _ _ => rfl) (fun j hj => absurd hj (Nat.not_lt_zero j))
theorem Y_rows {n : Nat} {ho pa pr ye : Nat → Nat} {ki : Nat → Nat → Bool} {np : Nat} {K N V Z i : Nat} {R : TT} {t0 : XS} {x1 : Int64} (c126 : Int64 → Int32 → XS → Option (Int32 × XS)) (hY : YC t0 n ho pa pr ye ki np) (hc : CC n ho pa pr ye ki np) (hi : i < 12) (hK : K ≤ 2) (h7 : gM t0 7 i = nI K) (h8 : gM t0 8 i = nI N) (h9 : gM t0 9 i = nI V) (hN1 : 1 ≤ N) (hN : N ≤ 40) (hV40 : V ≤ 40) (hZ : Z ≤ 40) (hR : VT Z R) (hRY : RYr R t0) (hB0 : ∀ r, r < R.1 → R.2.2 r ≤ 1000000000000000) (hB : K = 0 → N ≤ Z → ∀ r, r < R.1 → R.2.2 r * bin Z N ≤ 1000000000000000) : ∀ (m r f : Nat) (A : AA) (t : XS), r + m = R.1 → m < f → FW t0 t → VT N A.1 → TYn A.1 t → NY A t → (arows n pa pr ye K N V Z R m r A = none ∧ ∃ t', FZ t0 t' ∧ lo2 (p_Model_chances_B240 x1 (nI i) c126) f (nI r) t = some (-2, t')) ∨ ∃ A' t', arows n pa pr ye K N V Z R m r A = some A' ∧ FZ t0 t' ∧ lo2 (p_Model_chances_B240 x1 (nI i) c126) f (nI r) t = c126 x1 (nI (i + 1)) t' ∧ RYr A'.1 t' ∧ NY A' t' := by
  have hn := hc.1
  have h600 := hR.1
  have g12 : gIn (nI i) 12 = true := gIn_t hi (by omega)
  have hpa : ∀ x, x < n → pa x < 4 := fun x hx => (hc.2.2.1 x hx).2.1
  intro m
  induction m with
  | zero =>
    intro r f A t hr hf hF hV hT hNY
    obtain ⟨f, rfl⟩ : ∃ g, f = g + 1 := ⟨f - 1, by omega⟩
    obtain ⟨t', y1, y2, y3, y4⟩ := Y_copyrows (T := A.1) (x1 := x1) (i := i) hV.1 c126 (t0 := sM t 0 39 (nI A.1.1)) rfl (fun r hr => hT.2 r hr)
    refine Or.inr ⟨A, t', rfl, ⟨fun c z1 z2 z3 => ?_, fun j z1 z2 z3 => ?_, fun c z1 z2 z3 z4 => ?_⟩, ?_, y2, ?_⟩
    · rw [y3 c z2, gM_o z1]; exact hF.1 c z1 z3
    · rw [y3 0 (by omega), gM_sM, if_pos rfl, if_neg z1]; exact hF.2.1 j z2 z3
    · rw [y4 c z2]; exact hF.2.2 c z1 z3 z4
    · show p_Model_chances_B240 _ _ _ _ (nI r) t = _
      unfold p_Model_chances_B240
      rw [hF.2.1 39 (by omega) (by omega), hRY.1, if_pos (nI_le (by omega) (by omega)), hT.1, lq_e]
      exact y1
    · exact ⟨by rw [y4 0 (by omega)]; exact hNY.1, fun c hc => by rw [y4 26 (by omega)]; exact hNY.2 c hc⟩
  | succ m ih =>
    intro r f A t hr hf hF hV hT hNY
    obtain ⟨f, rfl⟩ : ∃ g, f = g + 1 := ⟨f - 1, by omega⟩
    have hst := ih (r + 1) f
    have g6 : gIn (nI r) 600 = true := gIn_t (by omega) (by omega)
    have hvc := hR.2.1 r (by omega)
    have hpt := pt_vc hZ hvc
    have hpb := pt_b hZ hvc
    have e39 : gM t 0 39 = nI R.1 := by rw [hF.2.1 39 (by omega) (by omega)]; exact hRY.1
    have e7 : gM t 7 i = nI K := by rw [hF.1 7 (by omega) (by omega)]; exact h7
    have e8 : gM t 8 i = nI N := by rw [hF.1 8 (by omega) (by omega)]; exact h8
    have e21 : gM t 21 r = nI (R.2.1 r) := by rw [hF.1 21 (by omega) (by omega)]; exact (hRY.2 r (by omega)).1
    have e22 : gJ t 22 r = lN (R.2.2 r) := by rw [hF.2.2 22 (by omega) (by omega) (by omega)]; exact (hRY.2 r (by omega)).2
    show (_ ∧ ∃ t', _ ∧ p_Model_chances_B240 x1 (nI i) c126 (lo2 (p_Model_chances_B240 x1 (nI i) c126) f) (nI r) t = _) ∨ ∃ A' t', _ ∧ _ ∧ p_Model_chances_B240 x1 (nI i) c126 (lo2 (p_Model_chances_B240 x1 (nI i) c126) f) (nI r) t = _ ∧ _
    generalize lo2 (p_Model_chances_B240 x1 (nI i) c126) f = Kc at hst ⊢
    -- a body that misses
    have hmiss : ∀ u, FW t0 u → TYn A.1 u → NY A u → gJ u 22 r = lN (R.2.2 r) → FW t0 (sJ u 0 47 (gJ u 0 47 + gJ u 22 r)) ∧ TYn A.1 (sJ u 0 47 (gJ u 0 47 + gJ u 22 r)) ∧ NY (A.1, A.2.1 + R.2.2 r, A.2.2) (sJ u 0 47 (gJ u 0 47 + gJ u 22 r)) := by
      intro u z1 z2 z3 z4
      refine ⟨⟨z1.1, z1.2.1, fun c w1 w2 w3 => (gJ_o w1).trans (z1.2.2 c w1 w2 w3)⟩, ⟨z2.1, fun j hj => ⟨(z2.2 j hj).1, ?_⟩⟩, ⟨?_, fun c hc => ?_⟩⟩
      · rw [gJ_o (by omega)]; exact (z2.2 j hj).2
      · rw [gJ_sJ, if_pos rfl, if_pos rfl, z3.1, z4, lN_add]
      · rw [gJ_o (by omega)]; exact z3.2 c hc
    unfold p_Model_chances_B240 arows arow
    rw [e39, if_neg (nI_ge (by omega) (by omega)), if_pos g12, ix_nI (by omega), e7]
    by_cases k0 : K = 0
    · rw [if_pos (show nI K = 0 by rw [k0]; rfl), if_pos g6, ix_nI (by omega), e21, Y_sizeOf hZ hvc, bind1_s, if_pos g12, e8, if_pos k0]
      by_cases z : Z < N
      · rw [if_neg (nI_ge z (by omega)), if_pos g6, lq_e, if_pos z, nI_1]
        obtain ⟨m1, m2, m3⟩ := hmiss t hF hT hNY e22
        exact hst (A.1, A.2.1 + R.2.2 r, A.2.2) _ (by omega) (by omega) m1 hV m2 m3
      · rw [if_pos (nI_le (by omega) (by omega)), if_pos g6, if_pos g6, if_pos g12, e22, if_neg z]
        have eb : pt (R.2.1 r) 0 + (pt (R.2.1 r) 1 + (pt (R.2.1 r) 2 + pt (R.2.1 r) 3)) = Z := by omega
        obtain ⟨t', d1, d2⟩ := Y_drawn (n := N) (w0 := R.2.2 r) (h := pt (R.2.1 r)) hN (by omega) (hB0 r (by omega)) (by rw [eb]; exact hB k0 (by omega) r (by omega)) hV hT
        rw [← hpt.1] at d2
        rcases d2 with ⟨z1, z2⟩ | ⟨T', z1, z2, z3⟩
        · rw [z1, z2, bind2_s, if_pos rfl]
          exact Or.inl ⟨rfl, t', (hF.tr d1.w).z, rfl⟩
        · rw [z1, z2, bind2_s, if_neg one_ne, nI_1]
          exact hst (T', A.2.1, A.2.2) t' (by omega) (by omega) (hF.tr d1.w) (adraw_s hV z1).1 z3 ⟨by rw [d1.2.2 0 (by omega)]; exact hNY.1, fun c hc => by rw [d1.2.2 26 (by omega)]; exact hNY.2 c hc⟩
    · rw [if_neg (nI_ne0 (by omega) (by omega)), if_pos g6, ix_nI (by omega), e21, if_neg k0]
      have hYt : YC t n ho pa pr ye ki np := hY.fr (hF.2.1 0 (by omega) (by omega)) (hF.2.1 5 (by omega) (by omega)) (fun c h1 h2 => hF.1 c (by omega) (by omega))
      obtain ⟨t1, c1, c2, c3⟩ := Y_chosenBy (h := pt (R.2.1 r)) hYt hc hpb hi e8 (by rw [hF.1 9 (by omega) (by omega)]; exact h9) hN1 hN hV40
      have c1 : p_Model_chosenBy (nI (R.2.1 r)) (nI i) t = some (cC (cfi pr pa (enf ye V (R.2.1 r)) N n 0 (fun _ => 0) 0), t1) := by
        have : p_Model_chosenBy (nI (cd4 (pt (R.2.1 r) 0) (pt (R.2.1 r) 1) (pt (R.2.1 r) 2) (pt (R.2.1 r) 3))) (nI i) t = some (cC (cfi pr pa (enf ye V (R.2.1 r)) N n 0 (fun _ => 0) 0), t1) := c1
        rw [← hpt.1] at this
        exact this
      have c3 : ∀ g' c, cfi pr pa (enf ye V (R.2.1 r)) N n 0 (fun _ => 0) 0 = some (g', c) → gM t1 0 49 = nI c := c3
      have F1 := hF.tr c2.w
      have T1 : TYn A.1 t1 := ⟨by rw [c2.2.2 42 (by omega)]; exact hT.1, fun j hj => by rw [c2.2.1 23 (by omega), c2.1]; exact hT.2 j hj⟩
      have N1 : NY A t1 := ⟨by rw [c2.1]; exact hNY.1, fun c hc => by rw [c2.1]; exact hNY.2 c hc⟩
      have f22 : gJ t1 22 r = lN (R.2.2 r) := by rw [c2.1]; exact e22
      have f7 : gM t1 7 i = nI K := by rw [c2.2.1 7 (by omega)]; exact e7
      rw [c1, bind2_s]
      cases e1 : cfi pr pa (enf ye V (R.2.1 r)) N n 0 (fun _ => 0) 0 with
      | none =>
        rw [show cC none = (-1 : Int32) from rfl, if_pos rfl, if_pos g6, lq_e, nI_1]
        obtain ⟨m1, m2, m3⟩ := hmiss t1 F1 T1 N1 f22
        exact hst (A.1, A.2.1 + R.2.2 r, A.2.2) _ (by omega) (by omega) m1 hV m2 m3
      | some x =>
        have hs := cfi_sum n 0 _ 0 x.1 x.2 (fun y hy => hpa y (by omega)) rfl e1
        have hs4 : x.1 0 + x.1 1 + x.1 2 + x.1 3 = N := hs.1
        have hvx : vc N (cd4 (x.1 0) (x.1 1) (x.1 2) (x.1 3)) := ⟨x.1 0, x.1 1, x.1 2, x.1 3, hs4, rfl⟩
        have hcb := (ck_b hN hvx).2
        have f49 := c3 x.1 x.2 e1
        rw [show cC (some x) = nI (cd4 (x.1 0) (x.1 1) (x.1 2) (x.1 3)) from rfl, if_neg (show ¬ nI (cd4 (x.1 0) (x.1 1) (x.1 2) (x.1 3)) = (-1 : Int32) from fun z => nI_pos (n := cd4 (x.1 0) (x.1 1) (x.1 2) (x.1 3)) (by omega) (by rw [z]; decide)), if_pos g12, f7, f22]
        by_cases k2 : K = 2
        · have g40 : gIn (nI x.2) 40 = true := gIn_t (by omega) (by omega)
          rw [if_pos (show nI K = (2 : Int32) by rw [k2]; rfl), f49, if_pos g40, if_pos g6, if_pos g40, ix_nI (by omega), N1.2 x.2 (by omega), lN_add, lq_e, nI_1]
          dsimp only
          rw [if_pos k2]
          refine hst (A.1, A.2.1, fun i => if i = x.2 then A.2.2 i + R.2.2 r else A.2.2 i) _ (by omega) (by omega) ⟨F1.1, F1.2.1, fun c w1 w2 w3 => (gJ_o w3).trans (F1.2.2 c w1 w2 w3)⟩ hV ⟨T1.1, fun j hj => ⟨(T1.2 j hj).1, by rw [gJ_o (by omega)]; exact (T1.2 j hj).2⟩⟩ ⟨by rw [gJ_o (by omega)]; exact N1.1, fun c hc => ?_⟩
          show gJ (sJ t1 26 x.2 (lN (A.2.2 x.2 + R.2.2 r))) 26 c = lN (if c = x.2 then A.2.2 c + R.2.2 r else A.2.2 c)
          rw [gJ_sJ, if_pos rfl]
          by_cases ec : c = x.2
          · rw [if_pos ec, if_pos ec, ec]
          · rw [if_neg ec, if_neg ec]; exact N1.2 c hc
        · rw [if_neg (show ¬ nI K = (2 : Int32) from fun z => by have := (nI_eq (b := 2) (by omega) (by omega)).mp z; omega), if_pos g6]
          dsimp only
          rw [if_neg k2]
          rcases Y_comes hN hV T1 hvx (R.2.2 r) with ⟨z1, z2⟩ | ⟨T', t2, z1, z2, z3, z4⟩
          · rw [z1, z2, bind2_s, if_pos rfl]
            exact Or.inl ⟨rfl, t1, F1.z, rfl⟩
          · rw [z1, z2, bind2_s, if_neg one_ne, nI_1]
            exact hst (T', A.2.1, A.2.2) t2 (by omega) (by omega) (F1.tr z4.w) (tadd_v hV hvx z1).1 z3 ⟨by rw [z4.2.2 0 (by omega)]; exact N1.1, fun c hc => by rw [z4.2.2 26 (by omega)]; exact N1.2 c hc⟩
