/-! PURE ROWS: reading a state behind a write; numbers -/
theorem gM_sM (s : XS) (c j : Nat) (v : Int32) (c' j' : Nat) : gM (sM s c j v) c' j' = if c' = c then (if j' = j then v else gM s c' j') else gM s c' j' := by
  show (up2 s.2.1 c j v) c' j' = _
  unfold up2
  by_cases h : c' = c
  · rw [if_pos h, if_pos h]; rfl
  · rw [if_neg h, if_neg h]; rfl
theorem gM_sMR (s : XS) (c : Nat) (g : Nat → Int32) (c' j' : Nat) : gM (sMR s c g) c' j' = if c' = c then g j' else gM s c' j' := by
  show (upR s.2.1 c g) c' j' = _
  unfold upR
  by_cases h : c' = c
  · rw [if_pos h, if_pos h]
  · rw [if_neg h, if_neg h]; rfl
theorem gJ_sJ (s : XS) (c j : Nat) (v : Int64) (c' j' : Nat) : gJ (sJ s c j v) c' j' = if c' = c then (if j' = j then v else gJ s c' j') else gJ s c' j' := by
  show (up2 s.2.2 c j v) c' j' = _
  unfold up2
  by_cases h : c' = c
  · rw [if_pos h, if_pos h]; rfl
  · rw [if_neg h, if_neg h]; rfl
theorem gJ_sJR (s : XS) (c : Nat) (g : Nat → Int64) (c' j' : Nat) : gJ (sJR s c g) c' j' = if c' = c then g j' else gJ s c' j' := by
  show (upR s.2.2 c g) c' j' = _
  unfold upR
  by_cases h : c' = c
  · rw [if_pos h, if_pos h]
  · rw [if_neg h, if_neg h]; rfl
theorem gG_sG (s : XS) (c j v : Nat) (c' j' : Nat) : gG (sG s c j v) c' j' = if c' = c then (if j' = j then v else gG s c' j') else gG s c' j' := by
  show (up2 s.1 c j v) c' j' = _
  unfold up2
  by_cases h : c' = c
  · rw [if_pos h, if_pos h]; rfl
  · rw [if_neg h, if_neg h]; rfl
theorem gJ_sM (s : XS) (c j : Nat) (v : Int32) : gJ (sM s c j v) = gJ s := rfl
theorem gG_sM (s : XS) (c j : Nat) (v : Int32) : gG (sM s c j v) = gG s := rfl
theorem gJ_sMR (s : XS) (c : Nat) (g : Nat → Int32) : gJ (sMR s c g) = gJ s := rfl
theorem gG_sMR (s : XS) (c : Nat) (g : Nat → Int32) : gG (sMR s c g) = gG s := rfl
theorem gM_sJ (s : XS) (c j : Nat) (v : Int64) : gM (sJ s c j v) = gM s := rfl
theorem gG_sJ (s : XS) (c j : Nat) (v : Int64) : gG (sJ s c j v) = gG s := rfl
theorem gM_sJR (s : XS) (c : Nat) (g : Nat → Int64) : gM (sJR s c g) = gM s := rfl
theorem gG_sJR (s : XS) (c : Nat) (g : Nat → Int64) : gG (sJR s c g) = gG s := rfl
theorem gM_sG (s : XS) (c j v : Nat) : gM (sG s c j v) = gM s := rfl
theorem gJ_sG (s : XS) (c j v : Nat) : gJ (sG s c j v) = gJ s := rfl
theorem lit_nI (n : Nat) : (@OfNat.ofNat Int32 n Int32.instOfNat) = nI (@OfNat.ofNat Nat n (instOfNatNat n)) := rfl
theorem ix_nI {j : Nat} (h : j < 2 ^ 31) : ix (nI j) = j := nI_clamp h
theorem gIn_nI {j n : Nat} (h : j < 2 ^ 31) : gIn (nI j) n = decide (j < n) := by
  unfold gIn
  rw [nI_clamp h]
  have h2 := nI_pos h
  simp [h2]
theorem gIn_t {j n : Nat} (h : j < n) (hn : n < 2 ^ 31) : gIn (nI j) n = true := by
  rw [gIn_nI (Nat.lt_trans h hn)]
  exact decide_eq_true h
theorem bind1_s {α γ : Type} (a : α) (g : α → Option γ) : bind1 (some a) g = g a := rfl
theorem bind2_s {α β γ : Type} (a : α) (b : β) (g : α → β → Option γ) : bind2 (some (a, b)) g = g a b := rfl
theorem lq_e {α β : Type} (x : α) (g : α → Option β) : lq x g = g x := rfl
theorem gZ_0 : gZ (nI 0) = true := by decide
theorem gZ_1 : gZ (nI 1) = true := by decide
theorem gZ_b {t : Nat} (h : t < 2) : gZ (nI t) = true := by
  rcases (show t = 0 ∨ t = 1 by omega) with rfl | rfl <;> decide
/-- every number is below 0, or a Nat -/
theorem i_cases (x : Int32) : x < 0 ∨ ∃ j : Nat, j < 2 ^ 31 ∧ x = nI j := by
  by_cases h : x < 0
  · exact Or.inl h
  · exact Or.inr (nI_of h)
theorem nI_sub {a b : Nat} (h : b ≤ a) : nI a - nI b = nI (a - b) := pk_sub h
/-- how many below n have it -/
def cnt (P : Nat → Bool) : Nat → Nat
  | 0 => 0
  | n + 1 => cnt P n + (if P n then 1 else 0)
theorem cnt_le (P : Nat → Bool) : ∀ n, cnt P n ≤ n
  | 0 => Nat.le_refl 0
  | n + 1 => by
    have h := cnt_le P n
    show cnt P n + _ ≤ n + 1
    split <;> omega
theorem cnt_congr {P P' : Nat → Bool} : ∀ {n : Nat}, (∀ i, i < n → P i = P' i) → cnt P n = cnt P' n
  | 0, _ => rfl
  | n + 1, h => by
    show cnt P n + _ = cnt P' n + _
    rw [cnt_congr (n := n) (fun i hi => h i (Nat.lt_succ_of_lt hi)), h n (Nat.lt_succ_self n)]
/-! THE CITY, on both sides, by five functions -/
def XC (a : XS) (n : Nat) (ho pa pr ye : Nat → Nat) (ki : Nat → Nat → Bool) (np : Nat) : Prop :=
  gM a 1 5 = nI n ∧ gM a 1 6 = nI np ∧ (∀ i, i < n → gM a 2 i = nI (ho i) ∧ gM a 3 i = nI (pa i) ∧ gM a 4 i = nI (pr i)) ∧ (∀ i, i < 16 → gM a 5 i = nI (ye i)) ∧ ∀ i j, i < 40 → j < 40 → (gJ a 6 i).toBitVec.getLsbD j = ki i j
def YC (b : XS) (n : Nat) (ho pa pr ye : Nat → Nat) (ki : Nat → Nat → Bool) (np : Nat) : Prop :=
  gM b 0 0 = nI n ∧ gM b 0 5 = nI np ∧ (∀ i, i < n → gM b 1 i = nI (ho i) ∧ gM b 2 i = nI (pa i) ∧ gM b 3 i = nI (pr i)) ∧ (∀ i, i < 16 → gM b 5 i = nI (ye i)) ∧ ∀ i j, i < 40 → j < 40 → gM b 4 (40 * i + j) = nI (if ki i j then 1 else 0)
def CC (n : Nat) (ho pa pr ye : Nat → Nat) (ki : Nat → Nat → Bool) (np : Nat) : Prop :=
  n ≤ 40 ∧ np ≤ 60 ∧ (∀ i, i < n → ho i < 12 ∧ pa i < 4 ∧ pr i < 2) ∧ (∀ i, i < 16 → ye i < 2) ∧ ∀ i j, ki i j = ki j i
