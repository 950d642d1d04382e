/-! READING THE TAPE, on both sides: blanks, letters, digits -/
theorem up2_ap {α : Type} (f : Nat → Nat → α) (c j : Nat) (x : α) (a i : Nat) : up2 f c j x a i = if a = c then (if i = j then x else f a i) else f a i := by
  unfold up2
  by_cases h : a = c
  · rw [if_pos h, if_pos h]; rfl
  · rw [if_neg h, if_neg h]
theorem sM_id (s : XS) (c j : Nat) : sM s c j (gM s c j) = s := by
  show (s.1, up2 s.2.1 c j (s.2.1 c j), s.2.2) = s
  have : up2 s.2.1 c j (s.2.1 c j) = s.2.1 := by
    funext a i
    rw [up2_ap]
    by_cases h : a = c
    · rw [if_pos h]
      by_cases h2 : i = j
      · rw [if_pos h2, h, h2]
      · rw [if_neg h2]
    · rw [if_neg h]
  rw [this]
theorem sM_sM (s : XS) (c j : Nat) (x y : Int32) : sM (sM s c j x) c j y = sM s c j y := by
  show (s.1, up2 (up2 s.2.1 c j x) c j y, s.2.2) = (s.1, up2 s.2.1 c j y, s.2.2)
  have : up2 (up2 s.2.1 c j x) c j y = up2 s.2.1 c j y := by
    funext a i
    rw [up2_ap, up2_ap, up2_ap]
    by_cases h : a = c
    · rw [if_pos h, if_pos h, if_pos h]
      by_cases h2 : i = j
      · rw [if_pos h2, if_pos h2]
      · rw [if_neg h2, if_neg h2, if_neg h2]
    · rw [if_neg h, if_neg h, if_neg h]
  rw [this]
theorem sM_comm (s : XS) {c j c' j' : Nat} (h : ¬ (c = c' ∧ j = j')) (x y : Int32) : sM (sM s c j x) c' j' y = sM (sM s c' j' y) c j x := by
  show (s.1, up2 (up2 s.2.1 c j x) c' j' y, s.2.2) = (s.1, up2 (up2 s.2.1 c' j' y) c j x, s.2.2)
  have : up2 (up2 s.2.1 c j x) c' j' y = up2 (up2 s.2.1 c' j' y) c j x := by
    funext a i
    rw [up2_ap, up2_ap, up2_ap, up2_ap]
    repeat' split
    all_goals first | rfl | (exfalso; omega)
  rw [this]
def bl (x : Nat) : Bool := x == 32
def lt (x : Nat) : Bool := decide (97 ≤ x ∧ x ≤ 122)
def dg (x : Nat) : Bool := decide (48 ≤ x ∧ x ≤ 57)
def spn (P : Nat → Bool) (v : Nat → Nat) : Nat → Nat → Nat
  | 0, p => p
  | m + 1, p => if P (v p) then spn P v m (p + 1) else p
theorem spn_b (P : Nat → Bool) (v : Nat → Nat) : ∀ m p, p ≤ spn P v m p ∧ spn P v m p ≤ p + m
  | 0, p => ⟨Nat.le_refl p, Nat.le_refl p⟩
  | m + 1, p => by
    have h := spn_b P v m (p + 1)
    show p ≤ (if P (v p) then spn P v m (p + 1) else p) ∧ (if P (v p) then spn P v m (p + 1) else p) ≤ _
    split <;> omega
theorem spn_t {P : Nat → Bool} {v : Nat → Nat} {m p : Nat} (h : P (v p) = true) : spn P v (m + 1) p = spn P v m (p + 1) := if_pos h
theorem spn_f {P : Nat → Bool} {v : Nat → Nat} {m p : Nat} (h : P (v p) = false) : spn P v (m + 1) p = p := if_neg (by rw [h]; decide)
abbrev skp (v : Nat → Nat) (t p : Nat) : Nat := spn bl v (t - p) p
abbrev wde (v : Nat → Nat) (t p : Nat) : Nat := spn lt v (t - p) p
abbrev dge (v : Nat → Nat) (t p : Nat) : Nat := spn dg v (t - p) p
theorem skp_b {v : Nat → Nat} {t p : Nat} (h : p ≤ t) : p ≤ skp v t p ∧ skp v t p ≤ t := by
  have := spn_b bl v (t - p) p
  constructor <;> (unfold skp; omega)
theorem wde_b {v : Nat → Nat} {t p : Nat} (h : p ≤ t) : p ≤ wde v t p ∧ wde v t p ≤ t := by
  have := spn_b lt v (t - p) p
  constructor <;> (unfold wde; omega)
theorem dge_b {v : Nat → Nat} {t p : Nat} (h : p ≤ t) : p ≤ dge v t p ∧ dge v t p ≤ t := by
  have := spn_b dg v (t - p) p
  constructor <;> (unfold dge; omega)
/-- nothing is spanned just where the first isn't one -/
theorem spn_0 {P : Nat → Bool} {v : Nat → Nat} {t p : Nat} (h : p < t) : spn P v (t - p) p = p ↔ P (v p) = false := by
  obtain ⟨m, hm⟩ : ∃ m, t - p = m + 1 := ⟨t - p - 1, by omega⟩
  rw [hm]
  cases e : P (v p) with
  | false => rw [spn_f e]; simp
  | true =>
    rw [spn_t e]
    have := spn_b P v m (p + 1)
    simp; omega
theorem spn_tt {P : Nat → Bool} {v : Nat → Nat} (t : Nat) : spn P v (t - t) t = t := by rw [Nat.sub_self]; rfl
/-! the class's side -/
def TX (s : XS) (t : Nat) (v : Nat → Nat) : Prop := t ≤ 300 ∧ gM s 7 1 = nI t ∧ ∀ i, i < t → v i < 256 ∧ gM s 8 i = nI (v i)
def rx (s : XS) (p F : Nat) : XS := sM (sM s 9 1 (nI p)) 9 3 (nI F)
theorem rx_p (s : XS) (p F q : Nat) : sM (rx s p F) 9 1 (nI q) = rx s q F := by
  unfold rx
  rw [sM_comm (sM s 9 1 (nI p)) (by omega), sM_sM]
theorem rx_f (s : XS) (p F G : Nat) : sM (rx s p F) 9 3 (nI G) = rx s p G := by
  unfold rx
  rw [sM_sM]
theorem rx_id {s : XS} {p F : Nat} (h1 : gM s 9 1 = nI p) (h3 : gM s 9 3 = nI F) : rx s p F = s := by
  unfold rx
  rw [← h1, sM_id, ← h3, sM_id]
theorem rx_91 (s : XS) (p F : Nat) : gM (rx s p F) 9 1 = nI p := rfl
theorem rx_92 (s : XS) (p F : Nat) : gM (rx s p F) 9 2 = gM s 9 2 := rfl
theorem rx_93 (s : XS) (p F : Nat) : gM (rx s p F) 9 3 = nI F := rfl
theorem X_tat {s : XS} {t : Nat} {v : Nat → Nat} (h : TX s t v) {i : Nat} (hi : i < t) (p F : Nat) : p_Tape_at (nI i) (rx s p F) = some (nI (v i)) := by
  have h3 := h.1
  have e7 : gM (rx s p F) 7 1 = nI t := h.2.1
  have e8 : gM (rx s p F) 8 i = nI (v i) := (h.2.2 i hi).2
  unfold p_Tape_at
  rw [e7, if_neg (nI_pos (by omega)), if_neg (nI_ge hi (by omega)), if_pos (gIn_t (show i < 300 by omega) (by omega)), ix_nI (by omega), e8]
theorem X_tat_e {s : XS} {t : Nat} {v : Nat → Nat} (h : TX s t v) (p F : Nat) : p_Tape_at (nI t) (rx s p F) = some (-1) := by
  have h3 := h.1
  have e7 : gM (rx s p F) 7 1 = nI t := h.2.1
  unfold p_Tape_at
  rw [e7, if_neg (nI_pos (by omega)), if_pos (nI_le (Nat.le_refl _) (by omega))]
theorem X_skip {s : XS} {t : Nat} {v : Nat → Nat} (h : TX s t v) {p : Nat} (hp : p ≤ t) (F : Nat) : p_Reader_skipBlanks (rx s p F) = some (rx s (skp v t p) F) := by
  have h3 := h.1
  have key : ∀ (m p f : Nat), p + m = t → m < f → lo1 (p_Reader_skipBlanks_B0) f (rx s p F) = some (rx s (spn bl v m p) F) := by
    intro m
    induction m with
    | zero =>
      intro p f hi hf
      obtain ⟨f, rfl⟩ : ∃ g, f = g + 1 := ⟨f - 1, by omega⟩
      have e7 : gM (rx s p F) 7 1 = nI t := h.2.1
      show p_Reader_skipBlanks_B0 _ (rx s p F) = _
      unfold p_Reader_skipBlanks_B0 p_Tape_length
      rw [bind1_s, e7, rx_91, if_pos (nI_le (by omega) (by omega))]; rfl
    | succ m ih =>
      intro p f hi hf
      obtain ⟨f, rfl⟩ : ∃ g, f = g + 1 := ⟨f - 1, by omega⟩
      have e7 : gM (rx s p F) 7 1 = nI t := h.2.1
      have ih := ih (p + 1) f (by omega) (by omega)
      have hv := (h.2.2 p (by omega)).1
      show p_Reader_skipBlanks_B0 (lo1 (p_Reader_skipBlanks_B0) f) (rx s p F) = _
      generalize lo1 (p_Reader_skipBlanks_B0) f = K at ih ⊢
      unfold p_Reader_skipBlanks_B0 p_Tape_length
      rw [bind1_s, e7, rx_91, if_neg (nI_ge (by omega) (by omega)), X_tat h (by omega), bind1_s, nI_1, lq_e, rx_p]
      by_cases e : v p = 32
      · rw [if_pos (by rw [e]; rfl), spn_t (by unfold bl; rw [e]; rfl)]; exact ih
      · rw [if_neg (show ¬ _ = (32 : Int32) from fun z => e ((nI_eq (b := 32) (by omega) (by omega)).mp z)), spn_f (by unfold bl; simpa using e)]
  exact key (t - p) p fuelN (by omega) (by unfold fuelN; omega)
theorem X_isLetter : ∀ x, x < 256 → p_Reader_isLetter (nI x) = some (nI (if lt x then 1 else 0)) := by decide +kernel
theorem X_isDigit : ∀ x, x < 256 → p_Reader_isDigit (nI x) = some (nI (if dg x then 1 else 0)) := by decide +kernel
/-! words -/
def gw (k i : Nat) : Nat := ([[100, 114, 97, 119], [99, 104, 111, 111, 115, 101], [101, 108, 101, 99, 116], [98, 121], [104, 111, 117, 115, 101]].getD k []).getD i 0
def gl (k : Nat) : Nat := strLen.getD k 0
theorem gw_ch : ∀ k, k < 5 → ∀ i, i < 6 → i < gl k → strCh k i = nI (gw k i) := by decide +kernel
theorem gl_n : ∀ k, k < 5 → strN k = nI (gl k) ∧ gl k ≤ 6 ∧ 2 ≤ gl k := by decide +kernel
theorem gw_b : ∀ k, k < 5 → ∀ i, i < 6 → (i < gl k → 0 < gw k i) ∧ gw k i < 128 ∧ (¬ i < gl k → gw k i = 0) := by decide +kernel
def mt (v g : Nat → Nat) (p : Nat) : Nat → Nat → Bool
  | 0, _ => true
  | m + 1, i => (v (p + i) == g i) && mt v g p m (i + 1)
def isW (v : Nat → Nat) (p q k : Nat) : Bool := decide (q - p = gl k) && mt v (gw k) p (gl k) 0
theorem X_spells {s : XS} {t : Nat} {v : Nat → Nat} (h : TX s t v) {p q : Nat} (hp : p ≤ q) (hq : q ≤ t) (F : Nat) {k : Nat} (hk : k < 5) : p_Reader_spells (nI p) k (rx s q F) = some (nI (if isW v p q k then 1 else 0)) := by
  have h3 := h.1
  have hg := gl_n k hk
  unfold p_Reader_spells
  rw [rx_91, nI_sub hp, hg.1]
  by_cases e : q - p = gl k
  · rw [if_pos (by rw [e])]
    have key : ∀ (m i f : Nat), i + m = gl k → m < f → lo1 (p_Reader_spells_B17 (nI p) k (rx s q F)) f (nI i) = some (nI (if mt v (gw k) p m i then 1 else 0)) := by
      intro m
      induction m with
      | zero =>
        intro i f hi hf
        obtain ⟨f, rfl⟩ : ∃ g, f = g + 1 := ⟨f - 1, by omega⟩
        show p_Reader_spells_B17 _ _ _ _ (nI i) = _
        unfold p_Reader_spells_B17
        rw [hg.1, if_pos (nI_le (by omega) (by omega))]; rfl
      | succ m ih =>
        intro i f hi hf
        obtain ⟨f, rfl⟩ : ∃ g, f = g + 1 := ⟨f - 1, by omega⟩
        have ih := ih (i + 1) f (by omega) (by omega)
        have hv := (h.2.2 (p + i) (by omega)).1
        have hb := gw_b k hk i (by omega)
        show p_Reader_spells_B17 _ _ _ (lo1 (p_Reader_spells_B17 (nI p) k (rx s q F)) f) (nI i) = _
        generalize lo1 (p_Reader_spells_B17 (nI p) k (rx s q F)) f = K at ih ⊢
        unfold p_Reader_spells_B17
        rw [hg.1, if_neg (nI_ge (by omega) (by omega)), nI_add, X_tat h (by omega), bind1_s, if_pos (gIn_t (show i < strLen.getD k 0 from (by show i < gl k; omega)) (by show gl k < _; omega)), ix_nI (by omega), gw_ch k hk i (by omega) (by omega), nI_1]
        by_cases e2 : v (p + i) = gw k i
        · rw [if_pos (by rw [e2]), ih]
          have : mt v (gw k) p (m + 1) i = mt v (gw k) p m (i + 1) := by
            show ((v (p + i) == gw k i) && mt v (gw k) p m (i + 1)) = _
            rw [e2]; simp
          rw [this]
        · rw [if_neg (fun z => e2 ((nI_eq (by omega) (by omega)).mp z))]
          have : mt v (gw k) p (m + 1) i = false := by
            show ((v (p + i) == gw k i) && mt v (gw k) p m (i + 1)) = _
            simp [e2]
          rw [this]; rfl
    have := key (gl k) 0 fuelN (by omega) (by unfold fuelN; omega)
    have e2 : isW v p q k = mt v (gw k) p (gl k) 0 := by
      unfold isW
      rw [decide_eq_true e, Bool.true_and]
    rw [e2]; exact this
  · have e2 : isW v p q k = false := by
      unfold isW
      rw [decide_eq_false e, Bool.false_and]
    rw [if_neg (fun z => e ((nI_eq (by omega) (by omega)).mp z)), e2]; rfl
def wcode (v : Nat → Nat) (p q : Nat) : Nat := if isW v p q 0 then 1 else if isW v p q 1 then 2 else if isW v p q 2 then 3 else if isW v p q 3 then 4 else if isW v p q 4 then 5 else 0
theorem X_word {s : XS} {t : Nat} {v : Nat → Nat} (h : TX s t v) {p : Nat} (hp : p ≤ t) (F : Nat) : p_Reader_takeWord (rx s p F) = some (nI (wcode v p (wde v t p)), rx s (wde v t p) F) := by
  have h3 := h.1
  have hK : ∀ q, p ≤ q → q ≤ t → p_Reader_takeWord_K49 (nI p) (rx s q F) = some (nI (wcode v p q), rx s q F) := by
    intro q h1 h2
    unfold p_Reader_takeWord_K49 wcode
    rw [X_spells h h1 h2 F (show 0 < 5 by omega), bind1_s, X_spells h h1 h2 F (show 1 < 5 by omega), bind1_s, X_spells h h1 h2 F (show 2 < 5 by omega), bind1_s, X_spells h h1 h2 F (show 3 < 5 by omega), bind1_s, X_spells h h1 h2 F (show 4 < 5 by omega), bind1_s]
    cases isW v p q 0 <;> cases isW v p q 1 <;> cases isW v p q 2 <;> cases isW v p q 3 <;> cases isW v p q 4 <;> rfl
  have key : ∀ (m q f : Nat), q + m = t → m < f → p ≤ q → lo1 (p_Reader_takeWord_B5 (nI p)) f (rx s q F) = some (nI (wcode v p (spn lt v m q)), rx s (spn lt v m q) F) := by
    intro m
    induction m with
    | zero =>
      intro q f hi hf hpq
      obtain ⟨f, rfl⟩ : ∃ g, f = g + 1 := ⟨f - 1, by omega⟩
      have e7 : gM (rx s q F) 7 1 = nI t := h.2.1
      show p_Reader_takeWord_B5 _ _ (rx s q F) = _
      unfold p_Reader_takeWord_B5 p_Tape_length
      rw [bind1_s, e7, rx_91, if_pos (nI_le (by omega) (by omega)), hK q hpq (by omega)]; rfl
    | succ m ih =>
      intro q f hi hf hpq
      obtain ⟨f, rfl⟩ : ∃ g, f = g + 1 := ⟨f - 1, by omega⟩
      have e7 : gM (rx s q F) 7 1 = nI t := h.2.1
      have ih := ih (q + 1) f (by omega) (by omega) (by omega)
      have hv := (h.2.2 q (by omega)).1
      show p_Reader_takeWord_B5 _ (lo1 (p_Reader_takeWord_B5 (nI p)) f) (rx s q F) = _
      generalize lo1 (p_Reader_takeWord_B5 (nI p)) f = K at ih ⊢
      unfold p_Reader_takeWord_B5 p_Tape_length
      rw [bind1_s, e7, rx_91, if_neg (nI_ge (by omega) (by omega)), X_tat h (by omega), bind1_s, X_isLetter _ hv, bind1_s, nI_1, lq_e, rx_p]
      cases e : lt (v q) with
      | false => rw [if_pos (by rfl), spn_f e]; exact hK q hpq (by omega)
      | true => rw [if_neg (by decide), spn_t e]; exact ih
  exact key (t - p) p fuelN (by omega) (by unfold fuelN; omega) (Nat.le_refl p)
/-! numbers -/
def nv (v : Nat → Nat) (p : Nat) : Nat → Nat
  | 0 => 0
  | d + 1 => if d < 2 then nv v p d * 10 + (v (p + d) - 48) else nv v p d
theorem nv_b {v : Nat → Nat} {p : Nat} : ∀ d, (∀ i, i < d → v (p + i) < 256) → (d = 0 → nv v p d = 0) ∧ (d = 1 → nv v p d ≤ 208) ∧ nv v p d ≤ 2288
  | 0, _ => ⟨fun _ => rfl, fun z => absurd z (by omega), Nat.zero_le _⟩
  | d + 1, h => by
    have ih := nv_b d (fun i hi => h i (by omega))
    have hd := h d (by omega)
    have e : nv v p (d + 1) = if d < 2 then nv v p d * 10 + (v (p + d) - 48) else nv v p d := rfl
    rw [e]
    split <;> omega
def fl (F p k : Nat) : Nat := if F = 0 then 1 + 8 * p + k else F
theorem X_fail (s : XS) (q F p k : Nat) (hF : F < 3000) : p_Reader_fail (nI p) (nI k) (rx s q F) = some (0, rx s q (fl F p k)) := by
  unfold p_Reader_fail fl
  rw [rx_93]
  by_cases e : F = 0
  · rw [if_pos (by rw [e]; rfl), if_pos e, lq_e, show ((1 : Int32) + ((8 : Int32) * nI p)) + nI k = nI (1 + 8 * p + k) by rw [show (1 : Int32) = nI 1 from rfl, show (8 : Int32) = nI 8 from rfl, pk_mul, nI_add, nI_add], rx_f]
  · rw [if_neg (nI_ne0 (by omega) (by omega)), if_neg e]
def nk0 (v : Nat → Nat) (top p q : Nat) : Nat := if q = p then 1 else if 2 < q - p ∨ nv v p (q - p) < 1 ∨ top < nv v p (q - p) then 2 else 0
theorem X_number {s : XS} {t : Nat} {v : Nat → Nat} (h : TX s t v) {p : Nat} (hp : p ≤ t) {F : Nat} (hF : F < 3000) {top met : Nat} (htop : top ≤ 40) (hmet : met ≤ 100) : p_Reader_takeNumber (nI top) (nI met) (rx s p F) = if nk0 v top (skp v t p) (dge v t (skp v t p)) = 0 then (if nv v (skp v t p) (dge v t (skp v t p) - skp v t p) ≤ met then some (nI (nv v (skp v t p) (dge v t (skp v t p) - skp v t p)), rx s (dge v t (skp v t p)) F) else some (0, rx s (dge v t (skp v t p)) (fl F (skp v t p) 3))) else some (0, rx s (dge v t (skp v t p)) (fl F (skp v t p) (nk0 v top (skp v t p) (dge v t (skp v t p)) - 1))) := by
  have h3 := h.1
  unfold p_Reader_takeNumber
  rw [X_skip h hp, bind1_s, rx_91]
  have hp1 := (skp_b (v := v) hp).2
  generalize skp v t p = p1 at hp1 ⊢
  have hK : ∀ q, p1 ≤ q → q ≤ t → p_Reader_takeNumber_K88 (nI top) (nI met) (nI p1) (nI (nv v p1 (q - p1))) (rx s q F) = if nk0 v top p1 q = 0 then (if nv v p1 (q - p1) ≤ met then some (nI (nv v p1 (q - p1)), rx s q F) else some (0, rx s q (fl F p1 3))) else some (0, rx s q (fl F p1 (nk0 v top p1 q - 1))) := by
    intro q h1 h2
    have hb := (nv_b (v := v) (p := p1) (q - p1) (fun i hi => (h.2.2 (p1 + i) (by omega)).1)).2.2
    unfold p_Reader_takeNumber_K88 p_Reader_takeNumber_K128 nk0
    rw [rx_91, nI_sub h1, show (0 : Int32) = nI 0 from rfl, show (1 : Int32) = nI 1 from rfl, show (3 : Int32) = nI 3 from rfl, X_fail s q F p1 0 hF, X_fail s q F p1 1 hF, X_fail s q F p1 3 hF, bind2_s, bind2_s, bind2_s]
    generalize nv v p1 (q - p1) = N at hb ⊢
    by_cases e1 : q = p1
    · rw [if_pos (show nI (q - p1) = nI 0 by rw [e1, Nat.sub_self]), if_pos e1, if_neg (by omega)]
    · rw [if_neg (fun z => e1 (by have := (nI_eq (by omega) (by omega)).mp z; omega)), if_neg e1]
      by_cases e2 : 2 < q - p1
      · rw [if_pos (show (2 : Int32) < nI (q - p1) from nI_lt (a := 2) e2 (by omega)), if_pos (Or.inl e2), if_neg (by omega)]
      · rw [if_neg (show ¬ (2 : Int32) < nI (q - p1) from nI_nlt (a := 2) (b := q - p1) (by omega) (by omega))]
        by_cases e3 : N < 1
        · rw [if_pos (nI_lt e3 (by omega)), if_pos (Or.inr (Or.inl e3)), if_neg (by omega)]
        · rw [if_neg (nI_nlt (by omega) (by omega))]
          by_cases e4 : top < N
          · rw [if_neg (nI_ge e4 (by omega)), if_pos (Or.inr (Or.inr e4)), if_neg (by omega)]
          · rw [if_pos (nI_le (by omega) (by omega)), if_neg (show ¬ (2 < q - p1 ∨ N < 1 ∨ top < N) by omega), if_pos rfl]
            by_cases e5 : N ≤ met
            · rw [if_pos (nI_le e5 (by omega)), if_pos e5]
            · rw [if_neg (nI_ge (by omega) (by omega)), if_neg e5]
  have key : ∀ (m q f : Nat), q + m = t → m < f → p1 ≤ q → lo2 (p_Reader_takeNumber_B12 (nI top) (nI met) (nI p1)) f (nI (nv v p1 (q - p1))) (rx s q F) = p_Reader_takeNumber_K88 (nI top) (nI met) (nI p1) (nI (nv v p1 (spn dg v m q - p1))) (rx s (spn dg v m q) F) := by
    intro m
    induction m with
    | zero =>
      intro q f hi hf hpq
      obtain ⟨f, rfl⟩ : ∃ g, f = g + 1 := ⟨f - 1, by omega⟩
      have e7 : gM (rx s q F) 7 1 = nI t := h.2.1
      show p_Reader_takeNumber_B12 _ _ _ _ _ (rx s q F) = _
      unfold p_Reader_takeNumber_B12 p_Tape_length
      rw [bind1_s, e7, rx_91, if_pos (nI_le (by omega) (by omega))]; rfl
    | succ m ih =>
      intro q f hi hf hpq
      obtain ⟨f, rfl⟩ : ∃ g, f = g + 1 := ⟨f - 1, by omega⟩
      have e7 : gM (rx s q F) 7 1 = nI t := h.2.1
      have ih := ih (q + 1) f (by omega) (by omega) (by omega)
      have hv := (h.2.2 q (by omega)).1
      show p_Reader_takeNumber_B12 _ _ _ (lo2 (p_Reader_takeNumber_B12 (nI top) (nI met) (nI p1)) f) _ (rx s q F) = _
      generalize lo2 (p_Reader_takeNumber_B12 (nI top) (nI met) (nI p1)) f = K at ih ⊢
      unfold p_Reader_takeNumber_B12 p_Tape_length
      rw [bind1_s, e7, rx_91, if_neg (nI_ge (by omega) (by omega)), X_tat h (by omega), bind1_s, X_isDigit _ hv, bind1_s, nI_1, lq_e, rx_p, bind1_s, lq_e, nI_sub hpq]
      cases e : dg (v q) with
      | false => rw [if_pos (by rfl), spn_f e]
      | true =>
        have e9 := of_decide_eq_true e
        rw [if_neg (by decide), spn_t e, ← ih]
        have en : nv v p1 (q + 1 - p1) = if q - p1 < 2 then nv v p1 (q - p1) * 10 + (v (p1 + (q - p1)) - 48) else nv v p1 (q - p1) := by rw [show q + 1 - p1 = (q - p1) + 1 by omega]; rfl
        rw [en]
        by_cases e2 : q - p1 < 2
        · rw [if_neg (show ¬ (2 : Int32) ≤ nI (q - p1) from nI_ge (b := 2) e2 (by omega)), if_pos e2, show p1 + (q - p1) = q by omega, show nI (nv v p1 (q - p1)) * (10 : Int32) + nI (v q) - (48 : Int32) = nI (nv v p1 (q - p1) * 10 + (v q - 48)) by
            rw [show (10 : Int32) = nI 10 from rfl, pk_mul, nI_add, show (48 : Int32) = nI 48 from rfl, nI_sub (by omega)]
            congr 1; omega]
        · rw [if_pos (show (2 : Int32) ≤ nI (q - p1) from nI_le (a := 2) (by omega) (by omega)), if_neg e2]
  have hd := dge_b (v := v) hp1
  have k1 := key (t - p1) p1 fuelN (by omega) (by unfold fuelN; omega) (Nat.le_refl p1)
  rw [Nat.sub_self] at k1
  rw [← hK (dge v t p1) hd.1 hd.2]
  exact k1
