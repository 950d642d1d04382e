/-! THE COUNT, the reference's side; CHANCES -/
def FC (t t' : XS) : Prop := (∀ c, ¬ c = 0 → ¬ c = 21 → ¬ c = 23 → gM t' c = gM t c) ∧ (∀ j, ¬ j = 39 → ¬ j = 42 → ¬ j = 49 → ¬ j = 46 → gM t' 0 j = gM t 0 j) ∧ ∀ c, ¬ c = 0 → ¬ c = 22 → ¬ c = 24 → ¬ c = 26 → ¬ c = 25 → gJ t' c = gJ t c
theorem Y_told {x1 : Int64} {M : Int64} {E : Nat → Nat} {t0 : XS} (h47 : gJ t0 0 47 = M) (h26 : ∀ c, c < 40 → gJ t0 26 c = lN (E c)) : ∃ t', lo2 (p_Model_chances_B489 x1) fuelN 0 t0 = some (0, t') ∧ gM t' = gM t0 ∧ (∀ c, ¬ c = 25 → gJ t' c = gJ t0 c) ∧ (∀ c, c < 40 → gJ t' 25 c = lN (E c)) ∧ gJ t' 25 40 = M ∧ gJ t' 25 41 = x1 := by
  have key : ∀ (m i f : Nat) (t : XS), i + m = 40 → m < f → gM t = gM t0 → (∀ c, ¬ c = 25 → gJ t c = gJ t0 c) → (∀ c, c < i → gJ t 25 c = lN (E c)) → ∃ t', lo2 (p_Model_chances_B489 x1) f (nI i) t = some (0, t') ∧ gM t' = gM t0 ∧ (∀ c, ¬ c = 25 → gJ t' c = gJ t0 c) ∧ (∀ c, c < 40 → gJ t' 25 c = lN (E c)) ∧ gJ t' 25 40 = M ∧ gJ t' 25 41 = x1 := by
    intro m
    induction m with
    | zero =>
      intro i f t hi hf h1 h2 h3
      obtain ⟨f, rfl⟩ : ∃ g, f = g + 1 := ⟨f - 1, by omega⟩
      refine ⟨sJ (sJ t 25 40 M) 25 41 x1, ?_, h1, fun c hc => (gJ_o hc).trans ((gJ_o hc).trans (h2 c hc)), fun c hc => ?_, ?_, ?_⟩
      · show p_Model_chances_B489 _ _ (nI i) t = _
        unfold p_Model_chances_B489
        rw [if_pos (show (40 : Int32) ≤ nI i from nI_le (a := 40) (by omega) (by omega)), if_pos (show gIn (40 : Int32) 42 = true by decide), lq_e, if_pos (show gIn (41 : Int32) 42 = true by decide), show ix (40 : Int32) = 40 by decide, show ix (41 : Int32) = 41 by decide, h2 0 (by omega), h47, lq_e]
      · rw [gJ_sJ, if_pos rfl, if_neg (by omega), gJ_sJ, if_pos rfl, if_neg (by omega)]; exact h3 c (by omega)
      · rw [gJ_sJ, if_pos rfl, if_neg (by omega), gJ_sJ, if_pos rfl, if_pos rfl]
      · rw [gJ_sJ, if_pos rfl, if_pos rfl]
    | succ m ih =>
      intro i f t hi hf h1 h2 h3
      obtain ⟨f, rfl⟩ : ∃ g, f = g + 1 := ⟨f - 1, by omega⟩
      have ih := ih (i + 1) f (sJ t 25 i (lN (E i))) (by omega) (by omega) h1 (fun c hc => (gJ_o hc).trans (h2 c hc)) (fun c hc => by
        rw [gJ_sJ, if_pos rfl]
        by_cases e : c = i
        · rw [if_pos e, e]
        · rw [if_neg e]; exact h3 c (by omega))
      show ∃ t', p_Model_chances_B489 x1 (lo2 (p_Model_chances_B489 x1) f) (nI i) t = _ ∧ _
      generalize lo2 (p_Model_chances_B489 x1) f = K at ih ⊢
      unfold p_Model_chances_B489
      rw [if_neg (show ¬ (40 : Int32) ≤ nI i from nI_ge (b := 40) (by omega) (by omega)), if_pos (gIn_t (show i < 40 by omega) (by omega)), if_pos (gIn_t (show i < 42 by omega) (by omega)), ix_nI (by omega), h2 26 (by omega), h26 i (by omega), lq_e, nI_1]
      exact ih
  exact key 40 0 fuelN t0 (by omega) (by unfold fuelN; omega) rfl (fun _ _ => rfl) (fun c hc => absurd hc (Nat.not_lt_zero c))
section CHANCES
variable {a b : XS} {n : Nat} {ho pa pr ye : Nat → Nat} {ki : Nat → Nat → Bool} {np st : Nat} {kd sz vt lm : Nat → Nat} {dn : Nat} {BL : Nat → List Nat}
theorem Y_steps {Z0 : Nat} (hc : CC n ho pa pr ye ki np) (hY : YC b n ho pa pr ye ki np) (hp : PC st kd sz vt lm) (hst : st ≤ 12) (hdn : dn ≤ st) (h18 : gM b 0 18 = nI dn) (h9 : gM b 0 9 = nI st) (hrow : ∀ i, i < st → gM b 7 i = nI (kd i) ∧ gM b 8 i = nI (sz i) ∧ gM b 9 i = nI (vt i)) (h15 : gM b 15 dn = nI Z0) (hZ0 : Z0 ≤ 40) : ∀ (m i f : Nat) (R : TT) (M : Nat) (E : Nat → Nat) (P : Nat) (t : XS), i + m = st → dn ≤ i → m < f → FZ b t → RYr R t → NY (R, M, E) t → VT (Zs dn Z0 sz i) R → 1 ≤ P → P ≤ 1000000000000000 → tsum R + M ≤ P → ((gd (fun i => own (kd i) (sz i) (Zs dn Z0 sz i)) m i P = false ∨ asteps n pa pr ye kd sz vt (Zs dn Z0 sz) m i R M E = none) ∧ ∃ t', FZ b t' ∧ lo3 (p_Model_chances_B126) f (lN P) (nI i) t = some (-2, t')) ∨ (gd (fun i => own (kd i) (sz i) (Zs dn Z0 sz i)) m i P = true ∧ ∃ M' E' t', asteps n pa pr ye kd sz vt (Zs dn Z0 sz) m i R M E = some (M', E') ∧ FC b t' ∧ lo3 (p_Model_chances_B126) f (lN P) (nI i) t = some (0, t') ∧ gM t' 0 46 = 1 ∧ (∀ c, c < 40 → gJ t' 25 c = lN (E' c)) ∧ gJ t' 25 40 = lN M' ∧ gJ t' 25 41 = lN (P * lp (fun i => own (kd i) (sz i) (Zs dn Z0 sz i)) m i)) := by
  have hpa : ∀ x, x < n → pa x < 4 := fun x hx => (hc.2.2.1 x hx).2.1
  intro m
  induction m with
  | zero =>
    intro i f R M E P t hi hd hf hF hR hN hV hP1 hP2 hsum
    obtain ⟨f, rfl⟩ : ∃ g, f = g + 1 := ⟨f - 1, by omega⟩
    obtain ⟨t', y1, y2, y3, y4, y5, y6⟩ := Y_told (x1 := lN P) (M := lN M) (E := E) (t0 := sM t 0 46 1) hN.1 hN.2
    refine Or.inr ⟨rfl, M, E, t', rfl, ⟨fun c z1 z2 z3 => ?_, fun j z1 z2 z3 z4 => ?_, fun c z1 z2 z3 z4 z5 => ?_⟩, ?_, ?_, y4, y5, ?_⟩
    · rw [y2, gM_o z1]; exact hF.1 c z1 z2 z3
    · rw [y2, gM_sM, if_pos rfl, if_neg z4]; exact hF.2.1 j z1 z2 z3
    · rw [y3 c z5]; exact hF.2.2 c z1 z2 z3 z4
    · show p_Model_chances_B126 _ _ (nI i) t = _
      unfold p_Model_chances_B126
      rw [hF.2.1 9 (by omega) (by omega) (by omega), h9, if_pos (nI_le (by omega) (by omega)), lq_e]
      exact y1
    · rw [y2]; rfl
    · rw [y6]
      show lN P = lN (P * 1)
      rw [Nat.mul_one]
  | succ m ih =>
    intro i f R M E P t hi hd hf hF hR hN hV hP1 hP2 hsum
    obtain ⟨f, rfl⟩ : ∃ g, f = g + 1 := ⟨f - 1, by omega⟩
    have hist : i < st := by omega
    have hpc := hp i hist
    have hZ := Zs_b (dn := dn) hp hZ0 hd (show i ≤ st by omega)
    have hob := own_b (K := kd i) (N := sz i) hZ
    have ho1 := own_1 (kd i) (sz i) (Zs dn Z0 sz i)
    have hrw := hrow i hist
    have eZ : Zs dn Z0 sz (i + 1) = sz i := if_neg (by omega)
    have hst2 := ih (i + 1) f
    have hFo : ∀ c, ¬ c = 0 → ¬ c = 21 → ¬ c = 23 → gM t c = gM b c := hF.1
    have t18 : gM t 0 18 = nI dn := by rw [hF.2.1 18 (by omega) (by omega) (by omega)]; exact h18
    have t9 : gM t 0 9 = nI st := by rw [hF.2.1 9 (by omega) (by omega) (by omega)]; exact h9
    have g12 : gIn (nI i) 12 = true := gIn_t (by omega) (by omega)
    show (_ ∧ ∃ t', _ ∧ p_Model_chances_B126 (lo3 (p_Model_chances_B126) f) (lN P) (nI i) t = _) ∨ (_ ∧ ∃ M' E' t', _ ∧ _ ∧ p_Model_chances_B126 (lo3 (p_Model_chances_B126) f) (lN P) (nI i) t = _ ∧ _)
    generalize lo3 (p_Model_chances_B126) f = K at hst2 ⊢
    have e162 : p_Model_chances_K162 K (lN P) (nI i) (nI (Zs dn Z0 sz i)) t = p_Model_chances_K199 K (lN P) (nI i) (lN (own (kd i) (sz i) (Zs dn Z0 sz i))) t := by
      unfold p_Model_chances_K162 own
      rw [if_pos g12, ix_nI (by omega), hFo 7 (by omega) (by omega) (by omega), hFo 8 (by omega) (by omega) (by omega), hrw.1, hrw.2.1, if_pos g12, Y_sets hZ (by omega), bind1_s, if_pos g12]
      by_cases k0 : kd i = 0
      · rw [if_pos (show nI (kd i) = 0 by rw [k0]; rfl)]
        by_cases z : sz i ≤ Zs dn Z0 sz i
        · rw [if_pos (nI_le z (by omega)), if_pos ⟨k0, z⟩]
        · rw [if_neg (nI_ge (by omega) (by omega)), if_neg (fun q => z q.2)]; rfl
      · rw [if_neg (nI_ne0 (by omega) (by omega)), if_neg (fun q => k0 q.1)]; rfl
    have e126 : p_Model_chances_B126 K (lN P) (nI i) t = p_Model_chances_K199 K (lN P) (nI i) (lN (own (kd i) (sz i) (Zs dn Z0 sz i))) t := by
      rw [← e162]
      unfold p_Model_chances_B126
      rw [t9, if_neg (nI_ge hist (by omega)), t18]
      by_cases ed : i = dn
      · have eZd : Zs dn Z0 sz i = Z0 := if_pos ed
        rw [if_pos (by rw [ed]), if_pos (gIn_t (show dn < 13 by omega) (by omega)), ix_nI (by omega), hFo 15 (by omega) (by omega) (by omega), h15, eZd]
      · have eZd : Zs dn Z0 sz i = sz (i - 1) := if_neg ed
        rw [if_neg (fun z => ed ((nI_eq (by omega) (by omega)).mp z)), show nI i - (1 : Int32) = nI (i - 1) from pk_sub (b := 1) (by omega), if_pos (gIn_t (show i - 1 < 12 by omega) (by omega)), ix_nI (by omega), hFo 8 (by omega) (by omega) (by omega), (hrow (i - 1) (by omega)).2.1, eZd]
    rw [e126]
    unfold p_Model_chances_K199 gd lp asteps
    rw [Y_times hP2 (by omega), bind1_s]
    by_cases e : P * own (kd i) (sz i) (Zs dn Z0 sz i) ≤ 1000000000000000
    · rw [if_pos e, decide_eq_true e, Bool.true_and, if_pos (show lg_cmp (lN (P * own (kd i) (sz i) (Zs dn Z0 sz i))) (1000000000000000 : Int64) ≤ 0 from (lcmp_le (b := 1000000000000000) (by omega) (by omega)).mpr e)]
      have hsm := Nat.mul_le_mul_right (own (kd i) (sz i) (Zs dn Z0 sz i)) hsum
      rw [Nat.add_mul] at hsm
      have hM2 : M * own (kd i) (sz i) (Zs dn Z0 sz i) ≤ 1000000000000000 := by omega
      rw [hN.1, Y_times (show M ≤ 1000000000000000 by omega) (by omega), if_pos hM2, bind1_s, lq_e, lq_e]
      have hF1 : FZ b (sM (sJ t 0 47 (lN (M * own (kd i) (sz i) (Zs dn Z0 sz i)))) 0 42 0) := ⟨fun c z1 z2 z3 => (gM_o (s := sJ t 0 47 _) z1).trans (hF.1 c z1 z2 z3), fun j z1 z2 z3 => by rw [gM_sM, if_pos rfl, if_neg z2]; exact hF.2.1 j z1 z2 z3, fun c z1 z2 z3 z4 => (gJ_o (s := t) z1).trans (hF.2.2 c z1 z2 z3 z4)⟩
      have hYt : YC (sM (sJ t 0 47 (lN (M * own (kd i) (sz i) (Zs dn Z0 sz i)))) 0 42 0) n ho pa pr ye ki np := hY.fr (hF1.2.1 0 (by omega) (by omega) (by omega)) (hF1.2.1 5 (by omega) (by omega) (by omega)) (fun c h1 h2 => hF1.1 c (by omega) (by omega) (by omega))
      have hRt : RYr R (sM (sJ t 0 47 (lN (M * own (kd i) (sz i) (Zs dn Z0 sz i)))) 0 42 0) := ⟨hR.1, fun r hr => ⟨(hR.2 r hr).1, by show gJ (sJ t 0 47 (lN (M * own (kd i) (sz i) (Zs dn Z0 sz i)))) 22 r = _; rw [gJ_o (by omega)]; exact (hR.2 r hr).2⟩⟩
      have hNt : NY ((0, fun _ => 0, fun _ => 0), M * own (kd i) (sz i) (Zs dn Z0 sz i), E) (sM (sJ t 0 47 (lN (M * own (kd i) (sz i) (Zs dn Z0 sz i)))) 0 42 0) := ⟨rfl, fun c hc => by show gJ (sJ t 0 47 (lN (M * own (kd i) (sz i) (Zs dn Z0 sz i)))) 26 c = _; rw [gJ_o (by omega)]; exact hN.2 c hc⟩
      have f7 : gM (sM (sJ t 0 47 (lN (M * own (kd i) (sz i) (Zs dn Z0 sz i)))) 0 42 0) 7 i = nI (kd i) := by rw [hF1.1 7 (by omega) (by omega) (by omega)]; exact hrw.1
      have f8 : gM (sM (sJ t 0 47 (lN (M * own (kd i) (sz i) (Zs dn Z0 sz i)))) 0 42 0) 8 i = nI (sz i) := by rw [hF1.1 8 (by omega) (by omega) (by omega)]; exact hrw.2.1
      have f9 : gM (sM (sJ t 0 47 (lN (M * own (kd i) (sz i) (Zs dn Z0 sz i)))) 0 42 0) 9 i = nI (vt i) := by rw [hF1.1 9 (by omega) (by omega) (by omega)]; exact hrw.2.2
      have hTn : TYn (0, fun _ => 0, fun _ => 0) (sM (sJ t 0 47 (lN (M * own (kd i) (sz i) (Zs dn Z0 sz i)))) 0 42 0) := ⟨rfl, fun r hr => absurd hr (Nat.not_lt_zero r)⟩
      generalize sM (sJ t 0 47 (lN (M * own (kd i) (sz i) (Zs dn Z0 sz i)))) 0 42 0 = t1 at hF1 hYt hRt hNt f7 f8 f9 hTn ⊢
      have hwr : ∀ r, r < R.1 → R.2.2 r ≤ tsum R := fun r hr => sm_one (f := R.2.2) hr
      have hrs := Y_rows (x1 := lN (P * own (kd i) (sz i) (Zs dn Z0 sz i))) K hYt hc (show i < 12 by omega) hpc.1 f7 f8 f9 hpc.2.1 hpc.2.2.1 hpc.2.2.2.1 hZ hV hRt (fun r hr => by have := hwr r hr; omega) (fun k0 hNZ r hr => by
        have h1 := Nat.mul_le_mul_right (own (kd i) (sz i) (Zs dn Z0 sz i)) (hwr r hr)
        have h2 : own (kd i) (sz i) (Zs dn Z0 sz i) = bin (Zs dn Z0 sz i) (sz i) := if_pos ⟨k0, hNZ⟩
        rw [← h2]; omega) R.1 0 fuelN ((0, fun _ => 0, fun _ => 0), M * own (kd i) (sz i) (Zs dn Z0 sz i), E) t1 (by omega) (by have := hV.1; unfold fuelN; omega) ⟨fun _ _ _ => rfl, fun _ _ _ => rfl, fun _ _ _ _ => rfl⟩ ⟨Nat.zero_le _, fun x hx => absurd hx (Nat.not_lt_zero x), fun x y hx => absurd hx (Nat.not_lt_zero x)⟩ hTn hNt
      rcases hrs with ⟨z1, t', z2, z3⟩ | ⟨A, t', z1, z2, z3, z4, z5⟩
      · rw [z1]
        exact Or.inl ⟨Or.inr rfl, t', hF1.tr z2, z3⟩
      · rw [z1]
        have hVT := arows_s (n := n) (pa := pa) (pr := pr) (ye := ye) (N := sz i) hZ hpa hV R.1 0 _ A (by omega) ⟨Nat.zero_le _, fun x hx => absurd hx (Nat.not_lt_zero x), fun x y hx => absurd hx (Nat.not_lt_zero x)⟩ z1
        have hv2 : tsum A.1 + A.2.1 + 0 * own (kd i) (sz i) (Zs dn Z0 sz i) ≤ 0 + M * own (kd i) (sz i) (Zs dn Z0 sz i) + tsum R * own (kd i) (sz i) (Zs dn Z0 sz i) := hVT.2
        have h := hst2 A.1 A.2.1 A.2.2 (P * own (kd i) (sz i) (Zs dn Z0 sz i)) t' (by omega) (by omega) (by omega) (hF1.tr z2) z4 z5 (by rw [eZ]; exact hVT.1) (Nat.le_trans hP1 (Nat.le_mul_of_pos_right P (by omega))) e (by omega)
        rw [← z3, Nat.mul_assoc] at h
        exact h
    · rw [if_neg e, decide_eq_false e, Bool.false_and, if_neg (show ¬ lg_cmp (lN 1000000000000001) (1000000000000000 : Int64) ≤ 0 by decide)]
      exact Or.inl ⟨Or.inl rfl, t, hF, rfl⟩
theorem Y_chances {L : List Nat} (eL : bodyOf pr n dn BL = L) (hlt : dn < st) (hc : CC n ho pa pr ye ki np) (hY : YC b n ho pa pr ye ki np) (hp : PC st kd sz vt lm) (hP : RP a b st kd sz vt lm) (hS : RS a b n pr st kd dn BL) (hlen : L.length ≤ 40) (hmem : ∀ x ∈ L, x < n) : ((gd (fun i => own (kd i) (sz i) (Zs dn L.length sz i)) (st - dn) dn 1 = false ∨ asteps n pa pr ye kd sz vt (Zs dn L.length sz) (st - dn) dn (R0of pa L) 0 (fun _ => 0) = none) ∧ ∃ t', FZ b t' ∧ p_Model_chances b = some (-2, t')) ∨ (gd (fun i => own (kd i) (sz i) (Zs dn L.length sz i)) (st - dn) dn 1 = true ∧ ∃ M' E' t', asteps n pa pr ye kd sz vt (Zs dn L.length sz) (st - dn) dn (R0of pa L) 0 (fun _ => 0) = some (M', E') ∧ FC b t' ∧ p_Model_chances b = some (0, t') ∧ gM t' 0 46 = 1 ∧ (∀ c, c < 40 → gJ t' 25 c = lN (E' c)) ∧ gJ t' 25 40 = lN M' ∧ gJ t' 25 41 = lN (1 * lp (fun i => own (kd i) (sz i) (Zs dn L.length sz i)) (st - dn) dn)) := by
  have h12 := hP.2.1
  have hyb := Y_body hp hS hlt
  have hpa : ∀ x, x < n → pa x < 4 := fun x hx => (hc.2.2.1 x hx).2.1
  have hn := hc.1
  rw [eL] at hyb
  have n9 : ¬ gM b 0 9 = 0 := by rw [hP.2.2.2.1]; exact nI_ne0 (by omega) (by omega)
  have n18 : ¬ gM b 0 18 = gM b 0 9 := by
    rw [hP.2.2.2.1, hS.2.2.1]
    exact fun q => by have := (nI_eq (by omega) (by omega)).mp q; omega
  have hpaL : ∀ x ∈ L, pa x < 4 := fun x hx => hpa x (hmem x hx)
  -- the first body's code
  have key : ∀ (m j f : Nat) (g : Nat → Nat) (t : XS), j + m = L.length → m < f → FZ b t → gM t 0 39 = nI 1 → gM t 21 0 = nI (cd4 (g 0) (g 1) (g 2) (g 3)) → gJ t 22 0 = lN 1 → gof pa (L.drop j) g = gof pa L (fun _ => 0) → ∃ t', lo2 (p_Model_chances_B41) f (nI j) t = lo2 (p_Model_chances_B100) fuelN (0 : Int32) (sJ t' 0 47 0) ∧ FZ b t' ∧ gM t' 0 39 = nI 1 ∧ gM t' 21 0 = nI (c0of pa L) ∧ gJ t' 22 0 = lN 1 := by
    intro m
    induction m with
    | zero =>
      intro j f g t hj hf hF h39 h21 h22 hgo
      obtain ⟨f, rfl⟩ : ∃ g, f = g + 1 := ⟨f - 1, by omega⟩
      have ed : L.drop j = [] := List.drop_eq_nil_of_le (by omega)
      rw [ed] at hgo
      have hgo : g = gof pa L (fun _ => 0) := hgo
      refine ⟨t, ?_, hF, h39, ?_, h22⟩
      · show p_Model_chances_B41 _ (nI j) t = _
        unfold p_Model_chances_B41
        rw [hF.2.1 18 (by omega) (by omega) (by omega), hS.2.2.1, if_pos (gIn_t (show dn < 13 by omega) (by omega)), ix_nI (by omega), hF.1 15 (by omega) (by omega) (by omega), hyb.1, if_pos (nI_le (by omega) (by omega)), lq_e]
      · rw [h21, hgo]; rfl
    | succ m ih =>
      intro j f g t hj hf hF h39 h21 h22 hgo
      obtain ⟨f, rfl⟩ : ∃ g, f = g + 1 := ⟨f - 1, by omega⟩
      have hjl : j < L.length := by omega
      have hxn : L.getD j 0 < n := hmem _ (mem_getD hjl)
      have hp4 := hpa _ hxn
      have e16 := hyb.2 j hjl
      have ed := drop_cons hjl
      rw [ed] at hgo
      have e2 : gM t 2 (L.getD j 0) = nI (pa (L.getD j 0)) := by rw [hF.1 2 (by omega) (by omega) (by omega)]; exact (hY.2.2.1 _ hxn).2.1
      have ih := ih (j + 1) f (inc g (pa (L.getD j 0))) (sM t 21 0 (nI (cd4 (inc g (pa (L.getD j 0)) 0) (inc g (pa (L.getD j 0)) 1) (inc g (pa (L.getD j 0)) 2) (inc g (pa (L.getD j 0)) 3)))) (by omega) (by omega) ⟨fun c z1 z2 z3 => (gM_o z2).trans (hF.1 c z1 z2 z3), fun j z1 z2 z3 => by rw [gM_o (by omega)]; exact hF.2.1 j z1 z2 z3, hF.2.2⟩ h39 rfl h22 hgo
      show ∃ t', p_Model_chances_B41 (lo2 (p_Model_chances_B41) f) (nI j) t = _ ∧ _
      generalize lo2 (p_Model_chances_B41) f = K at ih ⊢
      unfold p_Model_chances_B41
      rw [hF.2.1 18 (by omega) (by omega) (by omega), hS.2.2.1, if_pos (gIn_t (show dn < 13 by omega) (by omega)), ix_nI (by omega), hF.1 15 (by omega) (by omega) (by omega), hyb.1, if_neg (nI_ge hjl (by omega)), if_pos (show gIn (0 : Int32) 600 = true by decide), show (40 : Int32) * nI dn + nI j = nI (40 * dn + j) by rw [show (40 : Int32) = nI 40 from rfl, pk_mul, nI_add], if_pos (gIn_t (show 40 * dn + j < 520 by omega) (by omega)), ix_nI (by omega), hF.1 16 (by omega) (by omega) (by omega), e16, if_pos (gIn_t (show L.getD j 0 < 40 by omega) (by omega)), if_pos (show gIn (0 : Int32) 600 = true by decide), ix_0, ix_nI (by omega), e2, h21, sh6 _ hp4, nI_add, ← cd_inc g hp4, lq_e, nI_1]
      exact ih
  have hF0 : FZ b (sJ (sM (sM b 0 39 1) 21 0 0) 22 0 1) := ⟨fun c z1 z2 z3 => (gM_o (s := sM b 0 39 1) z2).trans (gM_o z1), fun j z1 z2 z3 => by
    show gM (sM b 0 39 1) 0 j = _
    rw [gM_sM, if_pos rfl, if_neg z1], fun c z1 z2 z3 z4 => gJ_o z2⟩
  obtain ⟨t1, k1, k2, k3, k4, k5⟩ := key L.length 0 fuelN (fun _ => 0) (sJ (sM (sM b 0 39 1) 21 0 0) 22 0 1) (by omega) (by unfold fuelN; omega) hF0 rfl rfl rfl (by rw [List.drop_zero])
  obtain ⟨t2, f1, f2, f3, f4, f5⟩ := fill_genJ 26 40 (by omega) 0 (p_Model_chances_B100) (fun s => lo3 (p_Model_chances_B126) fuelN (1 : Int64) (gM s 0 18) s) (fun c i s => rfl) (sJ t1 0 47 0)
  have hF2 : FZ b t2 := ⟨fun c z1 z2 z3 => by rw [f3]; exact k2.1 c z1 z2 z3, fun j z1 z2 z3 => by rw [f3]; exact k2.2.1 j z1 z2 z3, fun c z1 z2 z3 z4 => (f4 c z4).trans ((gJ_o z1).trans (k2.2.2 c z1 z2 z3 z4))⟩
  have hR2 : RYr (R0of pa L) t2 := ⟨by rw [f3]; exact k3, fun r hr => by
    have : r = 0 := by have : r < 1 := hr; omega
    subst this
    rw [f3, f4 22 (by omega)]
    exact ⟨k4, by rw [gJ_o (by omega)]; exact k5⟩⟩
  have hN2 : NY (R0of pa L, 0, fun _ => 0) t2 := ⟨by rw [f4 0 (by omega)]; rfl, fun c hc => f5 c hc⟩
  have h18 : gM t2 0 18 = nI dn := by rw [hF2.2.1 18 (by omega) (by omega) (by omega)]; exact hS.2.2.1
  have eM : p_Model_chances b = lo3 (p_Model_chances_B126) fuelN (lN 1) (nI dn) t2 := by
    unfold p_Model_chances
    rw [if_neg n9, if_neg n18, lq_e, if_pos (show gIn (0 : Int32) 600 = true by decide), ix_0, lq_e, if_pos (show gIn (0 : Int32) 600 = true by decide), lq_e]
    refine Eq.trans k1 ?_
    rw [f1, h18]; rfl
  have h := Y_steps (b := b) (dn := dn) (Z0 := L.length) hc hY hp h12 (by omega) hS.2.2.1 hP.2.2.2.1 (fun i hi => ⟨(hP.2.2.2.2 i hi).2.1, (hP.2.2.2.2 i hi).2.2.2.1, (hP.2.2.2.2 i hi).2.2.2.2.2.1⟩) hyb.1 hlen (st - dn) dn fuelN (R0of pa L) 0 (fun _ => 0) 1 t2 (by omega) (Nat.le_refl _) (by unfold fuelN; omega) hF2 hR2 hN2 (by rw [show Zs dn L.length sz dn = L.length from if_pos rfl]; exact R0_v hpaL) (Nat.le_refl 1) (by omega) (by show sm (fun i => if i = 0 then 1 else 0) 1 + 0 ≤ 1; decide)
  rw [← eM] at h
  exact h
end CHANCES
