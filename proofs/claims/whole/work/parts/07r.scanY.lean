/-! READING THE TAPE: the reference's side -/
def TY (b : XS) (t : Nat) (v : Nat → Nat) : Prop := t ≤ 300 ∧ gM b 0 8 = nI t ∧ ∀ i, i < t → v i < 256 ∧ gM b 6 i = (nI (v i)).toInt8.toInt32
theorem gZ_z : gZ (0 : Int32) = true := by decide
theorem yb_32 : ∀ x, x < 256 → ((nI x).toInt8.toInt32 = (32 : Int32) ↔ x = 32) := by decide +kernel
theorem yb_and : ∀ x, x < 256 → (nI x).toInt8.toInt32 &&& (255 : Int32) = nI x := by decide +kernel
theorem yb_lt : ∀ x, x < 256 → (if (nI x).toInt8.toInt32 < (97 : Int32) then false else if (122 : Int32) < (nI x).toInt8.toInt32 then false else true) = lt x := by decide +kernel
theorem yb_dg : ∀ x, x < 256 → (if (nI x).toInt8.toInt32 < (48 : Int32) then false else if (57 : Int32) < (nI x).toInt8.toInt32 then false else true) = dg x := by decide +kernel
theorem yb_dg2 : ∀ x, x < 256 → (if nI x < (48 : Int32) then false else if nI x ≤ (57 : Int32) then true else false) = dg x := by decide +kernel
theorem yb_lo : ∀ x, x < 128 → (nI x).toInt8.toInt32 = nI x := by decide +kernel
theorem yb_loa : ∀ x, x < 128 → nI x &&& (255 : Int32) = nI x := by decide +kernel
theorem yb_eq {x c : Nat} (hx : x < 256) (hc : c < 128) : ((nI x).toInt8.toInt32 = nI c) ↔ x = c := by
  constructor
  · intro h
    have h1 := yb_and x hx
    rw [h, yb_loa c hc] at h1
    exact ((nI_eq (by omega) (by omega)).mp h1).symm
  · intro h
    rw [h]; exact yb_lo c hc
theorem Y_see {b : XS} {t : Nat} {v : Nat → Nat} (h : TY b t v) {p : Nat} (h25 : gM b 0 25 = nI p) (hp : p ≤ t) : p_Model_see b = some (if skp v t p < t then nI (v (skp v t p)) else -1, sM b 0 25 (nI (skp v t p))) := by
  have h3 := h.1
  have hK : ∀ q, q ≤ t → p_Model_see_K38 (sM b 0 25 (nI q)) = some (if q < t then nI (v q) else -1, sM b 0 25 (nI q)) := by
    intro q hq
    have e8 : gM (sM b 0 25 (nI q)) 0 8 = nI t := h.2.1
    have e25 : gM (sM b 0 25 (nI q)) 0 25 = nI q := rfl
    have e6 : gM (sM b 0 25 (nI q)) 6 = gM b 6 := rfl
    unfold p_Model_see_K38
    rw [e8, e25, e6]
    by_cases e : q < t
    · rw [if_neg (nI_ge e (by omega)), if_pos (gIn_t (show q < 300 by omega) (by omega)), ix_nI (by omega), (h.2.2 q e).2, yb_and _ (h.2.2 q e).1, if_pos e]
    · rw [if_pos (nI_le (by omega) (by omega)), if_neg e]
  have key : ∀ (m p f : Nat), p + m = t → m < f → lo1 (p_Model_see_B0) f (sM b 0 25 (nI p)) = some (if spn bl v m p < t then nI (v (spn bl v m p)) else -1, sM b 0 25 (nI (spn bl v m p))) := by
    intro m
    induction m with
    | zero =>
      intro p f hi hf
      obtain ⟨f, rfl⟩ : ∃ g, f = g + 1 := ⟨f - 1, by omega⟩
      have e8 : gM (sM b 0 25 (nI p)) 0 8 = nI t := h.2.1
      have e25 : gM (sM b 0 25 (nI p)) 0 25 = nI p := rfl
      show p_Model_see_B0 _ (sM b 0 25 (nI p)) = _
      unfold p_Model_see_B0
      rw [e8, e25, if_pos (nI_le (by omega) (by omega)), hK p (by omega)]; rfl
    | succ m ih =>
      intro p f hi hf
      obtain ⟨f, rfl⟩ : ∃ g, f = g + 1 := ⟨f - 1, by omega⟩
      have e8 : gM (sM b 0 25 (nI p)) 0 8 = nI t := h.2.1
      have e25 : gM (sM b 0 25 (nI p)) 0 25 = nI p := rfl
      have e6 : gM (sM b 0 25 (nI p)) 6 = gM b 6 := rfl
      have ih := ih (p + 1) f (by omega) (by omega)
      have hv := h.2.2 p (by omega)
      show p_Model_see_B0 (lo1 (p_Model_see_B0) f) (sM b 0 25 (nI p)) = _
      generalize lo1 (p_Model_see_B0) f = K at ih ⊢
      unfold p_Model_see_B0
      rw [e8, e25, e6, if_neg (nI_ge (by omega) (by omega)), if_pos (gIn_t (show p < 300 by omega) (by omega)), ix_nI (by omega), hv.2, nI_1, lq_e, sM_sM]
      by_cases e : v p = 32
      · rw [if_pos ((yb_32 _ hv.1).mpr e), spn_t (by unfold bl; rw [e]; rfl)]; exact ih
      · rw [if_neg (fun z => e ((yb_32 _ hv.1).mp z)), spn_f (by unfold bl; simpa using e)]; exact hK p (by omega)
  have := key (t - p) p fuelN (by omega) (by unfold fuelN; omega)
  rw [← h25, sM_id] at this
  exact this
def yl (b : XS) (q w : Nat) : XS := sM (sM (sM b 0 25 (nI q)) 0 29 (nI q)) 0 30 (nI w)
theorem Y_looks {b : XS} {t : Nat} {v : Nat → Nat} (h : TY b t v) {p : Nat} (h25 : gM b 0 25 = nI p) (hp : p ≤ t) : p_Model_looks b = some (yl b (skp v t p) (wde v t (skp v t p) - skp v t p)) := by
  have h3 := h.1
  unfold p_Model_looks
  rw [Y_see h h25 hp, bind2_s]
  have hp1 := (skp_b (v := v) hp).2
  generalize skp v t p = q at hp1 ⊢
  rw [lq_e, lq_e]
  have key : ∀ (m w f : Nat), q + w + m = t → m < f → lo1 (p_Model_looks_B18) f (yl b q w) = some (yl b q (spn lt v m (q + w) - q)) := by
    intro m
    induction m with
    | zero =>
      intro w f hi hf
      obtain ⟨f, rfl⟩ : ∃ g, f = g + 1 := ⟨f - 1, by omega⟩
      have e8 : gM (yl b q w) 0 8 = nI t := h.2.1
      have e29 : gM (yl b q w) 0 29 = nI q := rfl
      have e30 : gM (yl b q w) 0 30 = nI w := rfl
      show p_Model_looks_B18 _ (yl b q w) = _
      unfold p_Model_looks_B18
      rw [e8, e29, e30, nI_add, if_pos (nI_le (by omega) (by omega))]
      show _ = some (yl b q (q + w - q))
      rw [show q + w - q = w by omega]
    | succ m ih =>
      intro w f hi hf
      obtain ⟨f, rfl⟩ : ∃ g, f = g + 1 := ⟨f - 1, by omega⟩
      have e8 : gM (yl b q w) 0 8 = nI t := h.2.1
      have e29 : gM (yl b q w) 0 29 = nI q := rfl
      have e30 : gM (yl b q w) 0 30 = nI w := rfl
      have e6 : gM (yl b q w) 6 = gM b 6 := rfl
      have ih := ih (w + 1) f (by omega) (by omega)
      have hv := h.2.2 (q + w) (by omega)
      have hl := yb_lt _ hv.1
      have eN : sM (yl b q w) 0 30 (nI (w + 1)) = yl b q (w + 1) := by unfold yl; rw [sM_sM]
      show p_Model_looks_B18 (lo1 (p_Model_looks_B18) f) (yl b q w) = _
      generalize lo1 (p_Model_looks_B18) f = K at ih ⊢
      unfold p_Model_looks_B18
      rw [e8, e29, e30, e6, nI_add, if_neg (nI_ge (by omega) (by omega)), if_pos (gIn_t (show q + w < 300 by omega) (by omega)), if_pos (gIn_t (show q + w < 300 by omega) (by omega)), ix_nI (by omega), hv.2, nI_1, lq_e, eN]
      cases e : lt (v (q + w)) with
      | false =>
        rw [spn_f e, show q + w - q = w by omega]
        rw [e] at hl
        by_cases z1 : (nI (v (q + w))).toInt8.toInt32 < (97 : Int32)
        · rw [if_pos z1]
        · rw [if_neg z1] at hl
          by_cases z2 : (122 : Int32) < (nI (v (q + w))).toInt8.toInt32
          · rw [if_neg z1, if_pos z2]
          · rw [if_neg z2] at hl; cases hl
      | true =>
        rw [spn_t e]
        rw [e] at hl
        by_cases z1 : (nI (v (q + w))).toInt8.toInt32 < (97 : Int32)
        · rw [if_pos z1] at hl; cases hl
        · rw [if_neg z1] at hl
          by_cases z2 : (122 : Int32) < (nI (v (q + w))).toInt8.toInt32
          · rw [if_pos z2] at hl; cases hl
          · rw [if_neg z1, if_neg z2]; exact ih
  exact key (t - q) 0 fuelN (by omega) (by unfold fuelN; omega)
theorem Y_isWord {b : XS} {t : Nat} {v : Nat → Nat} (h : TY b t v) {p q : Nat} (h29 : gM b 0 29 = nI p) (h30 : gM b 0 30 = nI (q - p)) (hp : p ≤ q) (hq : q ≤ t) {k : Nat} (hk : k < 5) {x1 x2 x3 x4 x5 x6 : Int32} (e1 : x1 = nI (gw k 0)) (e2 : x2 = nI (gw k 1)) (e3 : x3 = nI (gw k 2)) (e4 : x4 = nI (gw k 3)) (e5 : x5 = nI (gw k 4)) (e6 : x6 = nI (gw k 5)) : ∃ b', p_Model_isWord x1 x2 x3 x4 x5 x6 b = some (nI (if isW v p q k then 1 else 0), b') ∧ gJ b' = gJ b ∧ ∀ c, ¬ c = 18 → gM b' c = gM b c := by
  have h3 := h.1
  have hg := gl_n k hk
  refine ⟨sM (sM (sM (sM (sM (sM b 18 0 x1) 18 1 x2) 18 2 x3) 18 3 x4) 18 4 x5) 18 5 x6, ?_, rfl, fun c hc => (gM_o hc).trans ((gM_o hc).trans ((gM_o hc).trans ((gM_o hc).trans ((gM_o hc).trans (gM_o hc)))))⟩
  unfold p_Model_isWord
  rw [if_pos (by decide), lq_e, if_pos (by decide), lq_e, if_pos (by decide), lq_e, if_pos (by decide), lq_e, if_pos (by decide), lq_e, if_pos (by decide), lq_e]
  show lo1 (p_Model_isWord_B48 (sM (sM (sM (sM (sM (sM b 18 0 x1) 18 1 x2) 18 2 x3) 18 3 x4) 18 4 x5) 18 5 x6)) fuelN 0 = _
  have hl : ∀ i, i < 6 → gM (sM (sM (sM (sM (sM (sM b 18 0 x1) 18 1 x2) 18 2 x3) 18 3 x4) 18 4 x5) 18 5 x6) 18 i = nI (gw k i) := by
    intro i hi
    rcases (show i = 0 ∨ i = 1 ∨ i = 2 ∨ i = 3 ∨ i = 4 ∨ i = 5 by omega) with z | z | z | z | z | z <;> subst z
    · exact e1
    · exact e2
    · exact e3
    · exact e4
    · exact e5
    · exact e6
  have h29' : gM (sM (sM (sM (sM (sM (sM b 18 0 x1) 18 1 x2) 18 2 x3) 18 3 x4) 18 4 x5) 18 5 x6) 0 29 = nI p := h29
  have h30' : gM (sM (sM (sM (sM (sM (sM b 18 0 x1) 18 1 x2) 18 2 x3) 18 3 x4) 18 4 x5) 18 5 x6) 0 30 = nI (q - p) := h30
  have h6' : gM (sM (sM (sM (sM (sM (sM b 18 0 x1) 18 1 x2) 18 2 x3) 18 3 x4) 18 4 x5) 18 5 x6) 6 = gM b 6 := rfl
  generalize sM (sM (sM (sM (sM (sM b 18 0 x1) 18 1 x2) 18 2 x3) 18 3 x4) 18 4 x5) 18 5 x6 = B at hl h29' h30' h6' ⊢
  have key : ∀ (m i f : Nat), i + m = gl k → m < f → lo1 (p_Model_isWord_B48 B) f (nI i) = p_Model_isWord_K71 (nI (gl k)) B := by
    intro m
    induction m with
    | zero =>
      intro i f hi hf
      obtain ⟨f, rfl⟩ : ∃ g, f = g + 1 := ⟨f - 1, by omega⟩
      have ei : i = gl k := by omega
      show p_Model_isWord_B48 _ _ (nI i) = _
      unfold p_Model_isWord_B48
      by_cases z : i < 6
      · have hb := (gw_b k hk i z).2.2 (by omega)
        rw [if_neg (show ¬ (6 : Int32) ≤ nI i from nI_ge (b := 6) z (by omega)), if_pos (gIn_t z (by omega)), ix_nI (by omega), hl i z, hb, if_pos (show nI 0 ≤ 0 by decide), ei]
      · rw [if_pos (show (6 : Int32) ≤ nI i from nI_le (a := 6) (by omega) (by omega)), ei]
    | succ m ih =>
      intro i f hi hf
      obtain ⟨f, rfl⟩ : ∃ g, f = g + 1 := ⟨f - 1, by omega⟩
      have ih := ih (i + 1) f (by omega) (by omega)
      have hb := gw_b k hk i (by omega)
      show p_Model_isWord_B48 _ (lo1 (p_Model_isWord_B48 B) f) (nI i) = _
      unfold p_Model_isWord_B48
      rw [if_neg (show ¬ (6 : Int32) ≤ nI i from nI_ge (b := 6) (by omega) (by omega)), if_pos (gIn_t (show i < 6 by omega) (by omega)), ix_nI (by omega), hl i (by omega), if_neg (nI_nle (hb.1 (by omega)) (by omega)), nI_1]
      exact ih
  have k0 := key (gl k) 0 fuelN (by omega) (by unfold fuelN; omega)
  refine Eq.trans k0 ?_
  unfold p_Model_isWord_K71
  rw [h30']
  by_cases e : q - p = gl k
  · rw [if_pos (by rw [e])]
    have key2 : ∀ (m i f : Nat), i + m = gl k → m < f → lo1 (p_Model_isWord_B85 (nI (gl k)) B) f (nI i) = some (nI (if mt v (gw k) p m i then 1 else 0), B) := by
      intro m
      induction m with
      | zero =>
        intro i f hi hf
        obtain ⟨f, rfl⟩ : ∃ g, f = g + 1 := ⟨f - 1, by omega⟩
        show p_Model_isWord_B85 _ _ _ (nI i) = _
        unfold p_Model_isWord_B85
        rw [if_pos (nI_le (by omega) (by omega))]; rfl
      | succ m ih =>
        intro i f hi hf
        obtain ⟨f, rfl⟩ : ∃ g, f = g + 1 := ⟨f - 1, by omega⟩
        have ih := ih (i + 1) f (by omega) (by omega)
        have hv := h.2.2 (p + i) (by omega)
        have hb := gw_b k hk i (by omega)
        show p_Model_isWord_B85 _ _ (lo1 (p_Model_isWord_B85 (nI (gl k)) B) f) (nI i) = _
        generalize lo1 (p_Model_isWord_B85 (nI (gl k)) B) f = K at ih ⊢
        unfold p_Model_isWord_B85
        rw [if_neg (nI_ge (by omega) (by omega)), h29', nI_add, if_pos (gIn_t (show p + i < 300 by omega) (by omega)), if_pos (gIn_t (show i < 6 by omega) (by omega)), ix_nI (by omega), ix_nI (by omega), hl i (by omega), h6', hv.2, nI_1]
        by_cases e2 : v (p + i) = gw k i
        · rw [if_pos ((yb_eq hv.1 hb.2.1).mpr e2), ih]
          have : mt v (gw k) p (m + 1) i = mt v (gw k) p m (i + 1) := by
            show ((v (p + i) == gw k i) && mt v (gw k) p m (i + 1)) = _
            rw [e2]; simp
          rw [this]
        · rw [if_neg (fun z => e2 ((yb_eq hv.1 hb.2.1).mp z))]
          have : mt v (gw k) p (m + 1) i = false := by
            show ((v (p + i) == gw k i) && mt v (gw k) p m (i + 1)) = _
            simp [e2]
          rw [this]; rfl
    have e7 : isW v p q k = mt v (gw k) p (gl k) 0 := by
      unfold isW
      rw [decide_eq_true e, Bool.true_and]
    rw [e7]
    exact key2 (gl k) 0 fuelN (by omega) (by unfold fuelN; omega)
  · have e7 : isW v p q k = false := by
      unfold isW
      rw [decide_eq_false e, Bool.false_and]
    rw [if_neg (fun z => e ((nI_eq (by omega) (by omega)).mp z).symm), e7]; rfl
/-! frames of the reference's reading -/
def QF (t t' : XS) : Prop := gJ t' = gJ t ∧ (∀ c, ¬ c = 0 → ¬ c = 18 → gM t' c = gM t c) ∧ ∀ j, j < 25 ∨ j = 26 ∨ 30 < j → gM t' 0 j = gM t 0 j
def QG (t t' : XS) : Prop := gJ t' = gJ t ∧ (∀ c, ¬ c = 0 → ¬ c = 18 → gM t' c = gM t c) ∧ ∀ j, j < 25 ∨ 30 < j → gM t' 0 j = gM t 0 j
theorem QF.tr {a b c : XS} (h : QF a b) (h2 : QF b c) : QF a c := ⟨h2.1.trans h.1, fun x z w => (h2.2.1 x z w).trans (h.2.1 x z w), fun j hj => (h2.2.2 j hj).trans (h.2.2 j hj)⟩
theorem QF.trG {a b c : XS} (h : QF a b) (h2 : QG b c) : QG a c := ⟨h2.1.trans h.1, fun x z w => (h2.2.1 x z w).trans (h.2.1 x z w), fun j hj => (h2.2.2 j hj).trans (h.2.2 j (by omega))⟩
theorem QF.g {a b : XS} (h : QF a b) : QG a b := ⟨h.1, h.2.1, fun j hj => h.2.2 j (by omega)⟩
theorem TY.q {b b' : XS} {t : Nat} {v : Nat → Nat} (h : TY b t v) (hQ : QF b b') : TY b' t v := ⟨h.1, by rw [hQ.2.2 8 (by omega)]; exact h.2.1, fun i hi => by rw [hQ.2.1 6 (by omega) (by omega)]; exact h.2.2 i hi⟩
theorem Y_fails {b : XS} (h26 : gM b 0 26 = 0) (k p : Nat) : p_Model_fails (nI k) (nI p) b = some (0, sM b 0 26 (nI (1 + 8 * p + k))) := by
  unfold p_Model_fails
  rw [if_pos h26, lq_e, show ((1 : Int32) + ((8 : Int32) * nI p)) + nI k = nI (1 + 8 * p + k) by rw [show (1 : Int32) = nI 1 from rfl, show (8 : Int32) = nI 8 from rfl, pk_mul, nI_add, nI_add]]
theorem QG_f {b b' : XS} (h : QF b b') (x : Int32) : QG b (sM b' 0 26 x) := ⟨h.1, fun c z1 z2 => (gM_o z1).trans (h.2.1 c z1 z2), fun j hj => by rw [gM_sM, if_pos rfl, if_neg (by omega)]; exact h.2.2 j (by omega)⟩
theorem Y_number {b : XS} {t : Nat} {v : Nat → Nat} (h : TY b t v) {p : Nat} (h25 : gM b 0 25 = nI p) (h26 : gM b 0 26 = 0) (hp : p ≤ t) {top : Nat} (htop : top ≤ 40) : (nk0 v top (skp v t p) (dge v t (skp v t p)) = 0 ∧ ∃ b', p_Model_number (nI top) b = some (1, b') ∧ QF b b' ∧ gM b' 0 25 = nI (dge v t (skp v t p)) ∧ gM b' 0 27 = nI (nv v (skp v t p) (dge v t (skp v t p) - skp v t p)) ∧ gM b' 0 28 = nI (skp v t p)) ∨ (¬ nk0 v top (skp v t p) (dge v t (skp v t p)) = 0 ∧ ∃ b', p_Model_number (nI top) b = some (0, b') ∧ QG b b' ∧ gM b' 0 26 = nI (1 + 8 * skp v t p + (nk0 v top (skp v t p) (dge v t (skp v t p)) - 1))) := by
  have h3 := h.1
  have hp1 := (skp_b (v := v) hp).2
  have es := Y_see h h25 hp
  generalize skp v t p = p1 at hp1 es ⊢
  have hd := dge_b (v := v) hp1
  have hQ1 : QF b (sM b 0 25 (nI p1)) := ⟨rfl, fun c z1 z2 => gM_o z1, fun j hj => by rw [gM_sM, if_pos rfl, if_neg (by omega)]⟩
  have hfirst : (¬ dge v t p1 = p1 ∧ p_Model_number (nI top) b = lo3 (p_Model_number_B40 (nI top)) fuelN (0 : Int32) (0 : Int32) (sM (sM b 0 25 (nI p1)) 0 28 (nI p1))) ∨ (dge v t p1 = p1 ∧ p_Model_number (nI top) b = p_Model_number_K17 (sM b 0 25 (nI p1))) := by
    unfold p_Model_number
    rw [es, bind2_s]
    by_cases e : p1 < t
    · have hv := (h.2.2 p1 e).1
      have hz := yb_dg2 _ hv
      have h0 := spn_0 (P := dg) (v := v) e
      rw [if_pos e]
      by_cases z1 : nI (v p1) < (48 : Int32)
      · rw [if_pos z1] at hz
        exact Or.inr ⟨h0.mpr hz.symm, by rw [if_pos z1]⟩
      · rw [if_neg z1] at hz
        by_cases z2 : nI (v p1) ≤ (57 : Int32)
        · rw [if_pos z2] at hz
          exact Or.inl ⟨fun q => (by have := h0.mp q; rw [← hz] at this; exact absurd this (by decide)), by rw [if_neg z1, if_pos z2, lq_e]; rfl⟩
        · rw [if_neg z2] at hz
          exact Or.inr ⟨h0.mpr hz.symm, by rw [if_neg z1, if_neg z2]⟩
    · have ep : p1 = t := by omega
      refine Or.inr ⟨by rw [ep]; exact spn_tt t, ?_⟩
      rw [if_neg e, if_pos (show (-1 : Int32) < 48 by decide)]
  rcases hfirst with ⟨hne, hfirst⟩ | ⟨heq, hfirst⟩
  · rw [hfirst]
    have key : ∀ (m q f : Nat), q + m = t → m < f → p1 ≤ q → lo3 (p_Model_number_B40 (nI top)) f (nI (q - p1)) (nI (nv v p1 (q - p1))) (sM (sM b 0 25 (nI q)) 0 28 (nI p1)) = p_Model_number_K120 (nI top) (nI (spn dg v m q - p1)) (nI (nv v p1 (spn dg v m q - p1))) (sM (sM b 0 25 (nI (spn dg v m q))) 0 28 (nI p1)) := by
      intro m
      induction m with
      | zero =>
        intro q f hi hf hpq
        obtain ⟨f, rfl⟩ : ∃ g, f = g + 1 := ⟨f - 1, by omega⟩
        have e8 : gM (sM (sM b 0 25 (nI q)) 0 28 (nI p1)) 0 8 = nI t := h.2.1
        have e25 : gM (sM (sM b 0 25 (nI q)) 0 28 (nI p1)) 0 25 = nI q := rfl
        show p_Model_number_B40 _ _ _ _ (sM (sM b 0 25 (nI q)) 0 28 (nI p1)) = _
        unfold p_Model_number_B40
        rw [e8, e25, if_pos (nI_le (by omega) (by omega))]; rfl
      | succ m ih =>
        intro q f hi hf hpq
        obtain ⟨f, rfl⟩ : ∃ g, f = g + 1 := ⟨f - 1, by omega⟩
        have e8 : gM (sM (sM b 0 25 (nI q)) 0 28 (nI p1)) 0 8 = nI t := h.2.1
        have e25 : gM (sM (sM b 0 25 (nI q)) 0 28 (nI p1)) 0 25 = nI q := rfl
        have e6 : gM (sM (sM b 0 25 (nI q)) 0 28 (nI p1)) 6 = gM b 6 := rfl
        have ih := ih (q + 1) f (by omega) (by omega) (by omega)
        have hv := h.2.2 q (by omega)
        have hl := yb_dg _ hv.1
        have eN : sM (sM (sM b 0 25 (nI q)) 0 28 (nI p1)) 0 25 (nI (q + 1)) = sM (sM b 0 25 (nI (q + 1))) 0 28 (nI p1) := by rw [sM_comm (sM b 0 25 (nI q)) (by omega), sM_sM]
        show p_Model_number_B40 _ (lo3 (p_Model_number_B40 (nI top)) f) _ _ (sM (sM b 0 25 (nI q)) 0 28 (nI p1)) = _
        generalize lo3 (p_Model_number_B40 (nI top)) f = K at ih ⊢
        unfold p_Model_number_B40
        rw [e8, e25, e6, if_neg (nI_ge (by omega) (by omega)), if_pos (gIn_t (show q < 300 by omega) (by omega)), if_pos (gIn_t (show q < 300 by omega) (by omega)), if_pos (gIn_t (show q < 300 by omega) (by omega)), ix_nI (by omega), hv.2, nI_1, nI_1, lq_e, lq_e, eN, show q - p1 + 1 = q + 1 - p1 by omega]
        cases e : dg (v q) with
        | false =>
          rw [spn_f e]
          rw [e] at hl
          by_cases z1 : (nI (v q)).toInt8.toInt32 < (48 : Int32)
          · rw [if_pos z1]
          · rw [if_neg z1] at hl
            by_cases z2 : (57 : Int32) < (nI (v q)).toInt8.toInt32
            · rw [if_neg z1, if_pos z2]
            · rw [if_neg z2] at hl; cases hl
        | true =>
          have e9 := of_decide_eq_true e
          rw [spn_t e, ← ih]
          rw [e] at hl
          have en : nv v p1 (q + 1 - p1) = if q - p1 < 2 then nv v p1 (q - p1) * 10 + (v (p1 + (q - p1)) - 48) else nv v p1 (q - p1) := by rw [show q + 1 - p1 = (q - p1) + 1 by omega]; rfl
          rw [en]
          have ey := yb_lo (v q) (by omega)
          by_cases z1 : (nI (v q)).toInt8.toInt32 < (48 : Int32)
          · rw [if_pos z1] at hl; cases hl
          · rw [if_neg z1] at hl
            by_cases z2 : (57 : Int32) < (nI (v q)).toInt8.toInt32
            · rw [if_pos z2] at hl; cases hl
            · rw [if_neg z1, if_neg z2, ey]
              by_cases e2 : q - p1 < 2
              · rw [if_neg (show ¬ (2 : Int32) ≤ nI (q - p1) from nI_ge (b := 2) e2 (by omega)), if_pos e2, show p1 + (q - p1) = q by omega, show (10 : Int32) * nI (nv v p1 (q - p1)) + nI (v q) - (48 : Int32) = nI (nv v p1 (q - p1) * 10 + (v q - 48)) by
                  rw [show (10 : Int32) = nI 10 from rfl, pk_mul, nI_add, show (48 : Int32) = nI 48 from rfl, nI_sub (by omega)]
                  congr 1; omega]
              · rw [if_pos (show (2 : Int32) ≤ nI (q - p1) from nI_le (a := 2) (by omega) (by omega)), if_neg e2]
    have k1 := key (t - p1) p1 fuelN (by omega) (by unfold fuelN; omega) (Nat.le_refl p1)
    rw [Nat.sub_self] at k1
    have k1 : lo3 (p_Model_number_B40 (nI top)) fuelN (0 : Int32) (0 : Int32) (sM (sM b 0 25 (nI p1)) 0 28 (nI p1)) = p_Model_number_K120 (nI top) (nI (dge v t p1 - p1)) (nI (nv v p1 (dge v t p1 - p1))) (sM (sM b 0 25 (nI (dge v t p1))) 0 28 (nI p1)) := k1
    rw [k1]
    have hb := (nv_b (v := v) (p := p1) (dge v t p1 - p1) (fun i hi => (h.2.2 (p1 + i) (by omega)).1)).2.2
    have h0 : ¬ dge v t p1 - p1 = 0 := by omega
    unfold nk0 p_Model_number_K120 p_Model_number_K141
    generalize dge v t p1 = q at hd hne hb h0 ⊢
    generalize nv v p1 (q - p1) = N at hb ⊢
    rw [lq_e, if_neg hne]
    have eq : ∀ B : XS, B = sM (sM (sM b 0 25 (nI q)) 0 28 (nI p1)) 0 27 (nI N) → QF b B ∧ gM B 0 25 = nI q ∧ gM B 0 27 = nI N ∧ gM B 0 28 = nI p1 ∧ gM B 0 26 = 0 := by
      intro B e
      subst e
      exact ⟨⟨rfl, fun c z1 z2 => (gM_o z1).trans ((gM_o z1).trans (gM_o z1)), fun j hj => by rw [gM_sM, if_pos rfl, if_neg (by omega), gM_sM, if_pos rfl, if_neg (by omega), gM_sM, if_pos rfl, if_neg (by omega)]⟩, rfl, rfl, rfl, h26⟩
    obtain ⟨eq1, eq2, eq3, eq4, eq5⟩ := eq _ rfl
    generalize sM (sM (sM b 0 25 (nI q)) 0 28 (nI p1)) 0 27 (nI N) = B at eq1 eq2 eq3 eq4 eq5 ⊢
    have hfail : ∃ b', bind2 (p_Model_fails (1 : Int32) (gM B 0 28) B) (fun r5 s6 => (if r5 = 0 then some ((0 : Int32), s6) else some ((1 : Int32), s6))) = some (0, b') ∧ QG b b' ∧ gM b' 0 26 = nI (1 + 8 * p1 + (2 - 1)) := by
      rw [eq4, show (1 : Int32) = nI 1 from rfl, Y_fails eq5 1 p1, bind2_s, if_pos rfl]
      exact ⟨_, rfl, QG_f eq1 _, rfl⟩
    by_cases e2 : 2 < q - p1
    · rw [if_pos (show (2 : Int32) < nI (q - p1) from nI_lt (a := 2) e2 (by omega)), if_pos (Or.inl e2)]
      exact Or.inr ⟨by omega, hfail⟩
    · rw [if_neg (show ¬ (2 : Int32) < nI (q - p1) from nI_nlt (a := 2) (b := q - p1) (by omega) (by omega))]
      rcases Y_in_h (x := nI N) (lo := 1) (hi := top) (A := 1) (B := nI top) rfl rfl (by omega) (by omega) with ⟨j, a1, a2, e, i1, -, -⟩ | ⟨i1, i2⟩
      · have := (nI_eq (by omega) (by omega)).mp e
        rw [i1, bind1_s, if_neg one_ne, if_neg (show ¬ (2 < q - p1 ∨ N < 1 ∨ top < N) by omega)]
        exact Or.inl ⟨rfl, B, rfl, eq1, eq2, eq3, eq4⟩
      · have : N < 1 ∨ top < N := by
          rcases i2 with i2 | i2
          · exact Or.inl (Nat.not_le.mp (fun z => (nI_nlt (a := N) (b := 1) z (by omega)) i2))
          · exact Or.inr (Nat.not_le.mp (fun z => (nI_nlt (a := top) (b := N) z (by omega)) i2))
        rw [i1, bind1_s, if_pos rfl, if_pos (Or.inr this)]
        exact Or.inr ⟨by omega, hfail⟩
  · rw [hfirst, heq]
    unfold nk0 p_Model_number_K17
    rw [if_pos rfl, show gM (sM b 0 25 (nI p1)) 0 25 = nI p1 from rfl, show (0 : Int32) = nI 0 from rfl, Y_fails (b := sM b 0 25 (nI p1)) h26 0 p1, bind2_s, if_pos gZ_z]
    exact Or.inr ⟨by omega, _, rfl, QG_f hQ1 _, rfl⟩
