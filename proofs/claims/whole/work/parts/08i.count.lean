/-! THE COUNT, the class's side: all ways, the city, the first body -/
def Zs (dn Z0 : Nat) (sz : Nat → Nat) (i : Nat) : Nat := if i = dn then Z0 else sz (i - 1)
def lp (ow : Nat → Nat) : Nat → Nat → Nat
  | 0, _ => 1
  | m + 1, i => ow i * lp ow m (i + 1)
def gd (ow : Nat → Nat) : Nat → Nat → Nat → Bool
  | 0, _, _ => true
  | m + 1, i, P => decide (P * ow i ≤ 1000000000000000) && gd ow m (i + 1) (P * ow i)
def asteps (n : Nat) (pa pr ye kd sz vt Z : Nat → Nat) : Nat → Nat → TT → Nat → (Nat → Nat) → Option (Nat × (Nat → Nat))
  | 0, _, _, M, E => some (M, E)
  | m + 1, i, R, M, E => match arows n pa pr ye (kd i) (sz i) (vt i) (Z i) R R.1 0 ((0, fun _ => 0, fun _ => 0), M * own (kd i) (sz i) (Z i), E) with
    | none => none
    | some A => asteps n pa pr ye kd sz vt Z m (i + 1) A.1 A.2.1 A.2.2
theorem own_b {K N Z : Nat} (hZ : Z ≤ 40) : own K N Z ≤ 1099511627776 := by
  unfold own
  split
  · exact bin_40 N hZ
  · omega
/-- what a count changes before its end -/
def HX (a s : XS) : Prop := gG s = gG a ∧ (∀ c, ¬ c = 16 → ¬ (29 ≤ c ∧ c ≤ 48) → gM s c = gM a c) ∧ (∀ r, ¬ r = 0 → gM s 16 r = gM a 16 r) ∧ gM s 29 15 = gM a 29 15 ∧ ∀ c, ¬ c = 31 → ¬ c = 38 + gG a 29 12 → ¬ (40 ≤ c ∧ c ≤ 47) → gJ s c = gJ a c
theorem HX.gx {a s s' : XS} (h : HX a s) (hG : GX s s') : HX a s' := ⟨hG.1.trans h.1, fun c z1 z2 => (hG.2.2.1 c (by omega) z1).trans (h.2.1 c z1 z2), fun r hr => (hG.2.2.2 r hr).trans (h.2.2.1 r hr), by rw [hG.2.2.1 29 (by omega) (by omega)]; exact h.2.2.2.1, fun c z1 z2 z3 => by rw [hG.2.1]; exact h.2.2.2.2 c z1 z2 z3⟩
section COUNT
variable {a b : XS} {n : Nat} {ho pa pr ye : Nat → Nat} {ki : Nat → Nat → Bool} {np st : Nat} {kd sz vt lm : Nat → Nat} {dn : Nat} {BL : Nat → List Nat}
theorem HX.xc {s : XS} (h : HX a s) (hr : gG a 29 12 < 2) (hX : XC a n ho pa pr ye ki np) : XC s n ho pa pr ye ki np := hX.fr (fun c h1 h2 => h.2.1 c (by omega) (by omega)) (h.2.2.2.2 6 (by omega) (by omega) (by omega))
theorem HX.rs {s : XS} (h : HX a s) (hn : n ≤ 40) (hS : RS a b n pr st kd dn BL) : RS s b n pr st kd dn BL := hS.fr2 hn (by rw [h.2.1 14 (by omega) (by omega)]) (by rw [h.2.1 14 (by omega) (by omega)]) rfl rfl (fun r h1 _ => h.2.2.1 r (by omega)) (fun r h1 _ => h.2.1 (48 + r) (by omega) (by omega)) (fun _ _ => rfl) (fun _ _ => rfl)
theorem HX.bs {s : XS} (h : HX a s) (hr : gG a 29 12 < 2) (hc : CC n ho pa pr ye ki np) (hX : XC a n ho pa pr ye ki np) (h12 : st ≤ 12) (hS : RS a b n pr st kd dn BL) : ∃ s', p_Sess_bodySize s = some (nI (bodyOf pr n dn BL).length, s') ∧ GX s s' ∧ HX a s' ∧ rowIs (gM s' (48 + dn)) 0 (bodyOf pr n dn BL) ∧ gM s' 14 8 = nI dn ∧ (bodyOf pr n dn BL).length ≤ 40 ∧ (∀ x ∈ bodyOf pr n dn BL, x < n) := by
  have hS2 := h.rs (b := b) hc.1 hS
  obtain ⟨s', x1, hG, xr, x16, xl, xm⟩ := X_bodySize hc (h.xc hr hX) h12 hS2
  exact ⟨s', x1, hG, h.gx hG, xr, by rw [hG.2.2.1 14 (by omega) (by omega)]; exact hS2.2.1, xl, xm⟩
theorem HX.px {s : XS} (h : HX a s) (hk : gG a 14 7 < 2) (hP : RP a b st kd sz vt lm) : PX s (gG a 14 7) st kd sz vt lm := hP.px.fr hk (fun c z1 z2 => h.2.1 c (by omega) (by omega))
theorem X_setsOfStep {s : XS} {k i Z : Nat} (hp : PC st kd sz vt lm) (hP : PX s k st kd sz vt lm) (h30 : gJ s 30 = sets0) (hi : i < st) (hZ : Z ≤ 40) : p_Odds_setsOfStep k (nI i) (nI Z) s = some (lN (own (kd i) (sz i) Z)) := by
  have hpc := hp i hi
  unfold p_Odds_setsOfStep p_Odds_setsOfStep_K23 own
  rw [X_kindOf hP hi, bind1_s, X_sizeOf hP hi, bind1_s, bind1_s, X_setsOf h30 hZ (by omega), bind1_s, if_pos rfl, if_neg one_ne]
  by_cases k0 : kd i = 0
  · rw [if_pos (show nI (kd i + 1) = (1 : Int32) by rw [k0]; rfl)]
    by_cases z : Z < sz i
    · rw [if_pos (nI_lt z (by omega)), if_neg (by omega)]; rfl
    · rw [if_neg (nI_nlt (by omega) (by omega)), if_pos ⟨k0, by omega⟩]
  · rw [if_neg (show ¬ nI (kd i + 1) = (1 : Int32) from fun z => by have := (nI_eq (b := 1) (by omega) (by omega)).mp z; omega), if_neg (fun z => k0 z.1)]; rfl
theorem Zs_b {Z0 : Nat} (hp : PC st kd sz vt lm) (hZ0 : Z0 ≤ 40) {i : Nat} (h1 : dn ≤ i) (h2 : i ≤ st) : Zs dn Z0 sz i ≤ 40 := by
  unfold Zs
  split
  · exact hZ0
  · exact (hp (i - 1) (by omega)).2.2.1
theorem dn_m1 : ∀ d, d < 13 → nI d + (-1 : Int32) < nI d := by decide +kernel
/-- the first loop: the ways in all -/
theorem X_all {s : XS} {k Z0 : Nat} (hp : PC st kd sz vt lm) (hP : PX s k st kd sz vt lm) (h30 : gJ s 30 = sets0) (hZ0 : Z0 ≤ 40) (hst : st ≤ 12) : ∀ (m i f P : Nat), i + m = st → dn ≤ i → m < f → 1 ≤ P → P ≤ 1000000000000000 → lo3 (p_Odds_countAllWays_B14 k (nI dn) s) f (lN P) (nI (Zs dn Z0 sz i)) (nI i) = if gd (fun i => own (kd i) (sz i) (Zs dn Z0 sz i)) m i P = true then lo3 (p_Odds_countAllWays_B96 k (nI dn)) fuelN (1 : Int64) (nI st - (1 : Int32)) (sJ s (38 + gG s 29 12) 41 (lN (P * lp (fun i => own (kd i) (sz i) (Zs dn Z0 sz i)) m i))) else some (0, s) := by
  intro m
  induction m with
  | zero =>
    intro i f P hi hd hf hP1 hP2
    obtain ⟨f, rfl⟩ : ∃ g, f = g + 1 := ⟨f - 1, by omega⟩
    have e4 : gM (sJ s (38 + gG s 29 12) 41 (lN P)) (19 + 5 * k) 4 = nI st := hP.2.1
    show p_Odds_countAllWays_B14 _ _ _ _ _ _ (nI i) = _
    unfold p_Odds_countAllWays_B14 p_Plan_length
    rw [bind1_s, hP.2.1, if_pos (nI_le (by omega) (by omega)), if_pos (show gIn (41 : Int32) 42 = true by decide), show ix (41 : Int32) = 41 by decide, lq_e, bind1_s, e4, if_neg (show ¬ (12 : Int32) < nI st from nI_nlt (a := 12) (b := st) (by omega) (by omega))]
    show _ = lo3 (p_Odds_countAllWays_B96 k (nI dn)) fuelN (1 : Int64) (nI st - (1 : Int32)) (sJ s (38 + gG s 29 12) 41 (lN (P * 1)))
    rw [Nat.mul_one]
  | succ m ih =>
    intro i f P hi hd hf hP1 hP2
    obtain ⟨f, rfl⟩ : ∃ g, f = g + 1 := ⟨f - 1, by omega⟩
    have hZ := Zs_b (dn := dn) hp hZ0 hd (show i ≤ st by omega)
    have ho := own_b (K := kd i) (N := sz i) hZ
    have ho1 := own_1 (kd i) (sz i) (Zs dn Z0 sz i)
    have hq := Nat.div_le_self 1000000000000000 P
    have hiff : own (kd i) (sz i) (Zs dn Z0 sz i) ≤ 1000000000000000 / P ↔ P * own (kd i) (sz i) (Zs dn Z0 sz i) ≤ 1000000000000000 := by rw [Nat.le_div_iff_mul_le (by omega), Nat.mul_comm]
    have ih := ih (i + 1) f
    have eZ : Zs dn Z0 sz (i + 1) = sz i := if_neg (by omega)
    rw [eZ] at ih
    show p_Odds_countAllWays_B14 _ _ _ (lo3 (p_Odds_countAllWays_B14 k (nI dn) s) f) _ _ (nI i) = _
    generalize lo3 (p_Odds_countAllWays_B14 k (nI dn) s) f = K at ih ⊢
    unfold p_Odds_countAllWays_B14 p_Plan_length gd lp
    rw [bind1_s, hP.2.1, if_neg (nI_ge (by omega) (by omega)), X_setsOfStep hp hP h30 (by omega) hZ, bind1_s, if_neg (show ¬ lg_cmp (lN P) (1 : Int64) < 0 from fun z => by have := (lcmp_lt (b := 1) (by omega) (by omega)).mp z; omega), if_neg (show ¬ lN P = 0 from fun z => by have := (pk_lEQ (b := 0) (by omega) (by omega)).mp z; omega), show (1000000000000000 : Int64) = lN 1000000000000000 from rfl, pk_lDiv (by omega) (by omega) (by omega)]
    by_cases e : P * own (kd i) (sz i) (Zs dn Z0 sz i) ≤ 1000000000000000
    · rw [if_pos ((lcmp_le (by omega) (by omega)).mpr (hiff.mpr e)), X_sizeOf hP (by omega), bind1_s, lN_mul, nI_1, decide_eq_true e, Bool.true_and, ← Nat.mul_assoc]
      exact ih (P * own (kd i) (sz i) (Zs dn Z0 sz i)) (by omega) (by omega) (by omega) (Nat.le_trans hP1 (Nat.le_mul_of_pos_right P (by omega))) e
    · rw [if_neg (fun z => e (hiff.mp ((lcmp_le (by omega) (by omega)).mp z))), decide_eq_false e, Bool.false_and, if_neg (by decide)]
/-- the second loop: the ways behind each step -/
theorem X_later {Z0 : Nat} (hk : gG a 14 7 < 2) (hr : gG a 29 12 < 2) (hc : CC n ho pa pr ye ki np) (hX : XC a n ho pa pr ye ki np) (hp : PC st kd sz vt lm) (hP : RP a b st kd sz vt lm) (hS : RS a b n pr st kd dn BL) (h30 : gJ a 30 = sets0) (eZ0 : Z0 = (bodyOf pr n dn BL).length) : ∀ (m i f : Nat) (s : XS), dn + m = i → i < st → m + 1 < f → HX a s → (∀ j, i < j → j < st → gJ s 31 j = lN (lp (fun i => own (kd i) (sz i) (Zs dn Z0 sz i)) (st - (j + 1)) (j + 1))) → ∃ s', lo3 (p_Odds_countAllWays_B96 (gG a 14 7) (nI dn)) f (lN (lp (fun i => own (kd i) (sz i) (Zs dn Z0 sz i)) (st - (i + 1)) (i + 1))) (nI i) s = some (1, s') ∧ HX a s' ∧ (∀ c, ¬ c = 31 → gJ s' c = gJ s c) ∧ ∀ j, dn ≤ j → j < st → gJ s' 31 j = lN (lp (fun i => own (kd i) (sz i) (Zs dn Z0 sz i)) (st - (j + 1)) (j + 1)) := by
  have h12 := hP.2.1
  have hZ0 : Z0 ≤ 40 := by
    obtain ⟨_, _, _, _, _, _, xl, _⟩ := HX.bs (a := a) (s := a) ⟨rfl, fun _ _ _ => rfl, fun _ _ => rfl, rfl, fun _ _ _ _ => rfl⟩ hr hc hX h12 hS
    omega
  intro m
  induction m with
  | zero =>
    intro i f s hi hist hf hH hl
    obtain ⟨f, rfl⟩ : ∃ g, f = g + 1 + 1 := ⟨f - 2, by omega⟩
    have ei : i = dn := by omega
    subst ei
    have hH2 : HX a (sJ s 31 i (lN (lp (fun j => own (kd j) (sz j) (Zs i Z0 sz j)) (st - (i + 1)) (i + 1)))) := ⟨hH.1, hH.2.1, hH.2.2.1, hH.2.2.2.1, fun c z1 z2 z3 => (gJ_o z1).trans (hH.2.2.2.2 c z1 z2 z3)⟩
    obtain ⟨s2, x1, hG, hH3, xr, x14, xl, xm⟩ := hH2.bs hr hc hX h12 hS
    have eS := X_setsOfStep (Z := Z0) hp (hH3.px hk hP) (by rw [hH3.2.2.2.2 30 (by omega) (by omega) (by omega)]; exact h30) hist hZ0
    refine ⟨s2, ?_, hH3, fun c hc' => by rw [hG.2.1]; exact gJ_o hc', fun j h1 h2 => ?_⟩
    · show p_Odds_countAllWays_B96 _ _ (lo3 (p_Odds_countAllWays_B96 (gG a 14 7) (nI i)) (f + 1)) _ (nI i) s = _
      have e2 : ∀ x, lo3 (p_Odds_countAllWays_B96 (gG a 14 7) (nI i)) (f + 1) x (nI i + (-1 : Int32)) s2 = some (1, s2) := by
        intro x
        show p_Odds_countAllWays_B96 _ _ _ x (nI i + (-1 : Int32)) s2 = _
        unfold p_Odds_countAllWays_B96
        rw [if_pos (dn_m1 i (by omega))]
      generalize lo3 (p_Odds_countAllWays_B96 (gG a 14 7) (nI i)) (f + 1) = K at e2 ⊢
      unfold p_Odds_countAllWays_B96 p_Odds_countAllWays_K146
      rw [if_neg (nI_nlt (Nat.le_refl i) (by omega)), if_neg (nI_pos (by omega)), if_pos (gIn_t (show i < 12 by omega) (by omega)), ix_nI (by omega), lq_e, if_pos (nI_le (Nat.le_refl i) (by omega)), x1, bind2_s, ← eZ0, eS, bind1_s, e2]
    · rw [hG.2.1, gJ_sJ, if_pos rfl]
      by_cases ej : j = i
      · rw [if_pos ej, ej]
      · rw [if_neg ej]; exact hl j (by omega) h2
  | succ m ih =>
    intro i f s hi hist hf hH hl
    obtain ⟨f, rfl⟩ : ∃ g, f = g + 1 := ⟨f - 1, by omega⟩
    have hH2 : HX a (sJ s 31 i (lN (lp (fun j => own (kd j) (sz j) (Zs dn Z0 sz j)) (st - (i + 1)) (i + 1)))) := ⟨hH.1, hH.2.1, hH.2.2.1, hH.2.2.2.1, fun c z1 z2 z3 => (gJ_o z1).trans (hH.2.2.2.2 c z1 z2 z3)⟩
    have eZ : Zs dn Z0 sz i = sz (i - 1) := if_neg (by omega)
    have hZ := Zs_b (dn := dn) (Z0 := Z0) hp hZ0 (show dn ≤ i by omega) (show i ≤ st by omega)
    have eS := X_setsOfStep (Z := sz (i - 1)) hp (hH2.px hk hP) (by rw [hH2.2.2.2.2 30 (by omega) (by omega) (by omega)]; exact h30) hist (by rw [← eZ]; exact hZ)
    have hih := ih (i - 1) f (sJ s 31 i (lN (lp (fun j => own (kd j) (sz j) (Zs dn Z0 sz j)) (st - (i + 1)) (i + 1)))) (by omega) (by omega) (by omega) hH2 (fun j h1 h2 => by
      rw [gJ_sJ, if_pos rfl]
      by_cases ej : j = i
      · rw [if_pos ej, ej]
      · rw [if_neg ej]; exact hl j (by omega) h2)
    have el : lp (fun j => own (kd j) (sz j) (Zs dn Z0 sz j)) (st - (i + 1)) (i + 1) * own (kd i) (sz i) (sz (i - 1)) = lp (fun j => own (kd j) (sz j) (Zs dn Z0 sz j)) (st - (i - 1 + 1)) (i - 1 + 1) := by
      rw [show i - 1 + 1 = i by omega, show st - i = (st - (i + 1)) + 1 by omega]
      show _ = own (kd i) (sz i) (Zs dn Z0 sz i) * lp _ (st - (i + 1)) (i + 1)
      rw [eZ, Nat.mul_comm]
    obtain ⟨s', y1, y2, y3, y4⟩ := hih
    refine ⟨s', ?_, y2, fun c hc' => (y3 c hc').trans (gJ_o hc'), y4⟩
    show p_Odds_countAllWays_B96 _ _ (lo3 (p_Odds_countAllWays_B96 (gG a 14 7) (nI dn)) f) _ (nI i) s = _
    generalize lo3 (p_Odds_countAllWays_B96 (gG a 14 7) (nI dn)) f = K at y1 ⊢
    unfold p_Odds_countAllWays_B96 p_Odds_countAllWays_K146
    rw [if_neg (nI_nlt (by omega) (by omega)), if_neg (nI_pos (by omega)), if_pos (gIn_t (show i < 12 by omega) (by omega)), ix_nI (by omega), lq_e, if_neg (nI_ge (by omega) (by omega)), show nI i - (1 : Int32) = nI (i - 1) from pk_sub (b := 1) (by omega), X_sizeOf (hH2.px hk hP) (by omega), bind1_s, eS, bind1_s, lN_mul, el, show nI i + (-1 : Int32) = nI (i - 1) by
      rw [show (-1 : Int32) = -(1 : Int32) from rfl, ← Int32.sub_eq_add_neg]; exact pk_sub (b := 1) (by omega)]
    exact y1
end COUNT
