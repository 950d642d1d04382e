/-! NUMBERS OF SETS -/
def bin : Nat → Nat → Nat
  | _, 0 => 1
  | 0, _ + 1 => 0
  | n + 1, k + 1 => bin n k + bin n (k + 1)
theorem bin_0 (n : Nat) : bin n 0 = 1 := by cases n <;> rfl
theorem bin_z : ∀ (n k : Nat), n < k → bin n k = 0
  | 0, 0, h => absurd h (by omega)
  | 0, k + 1, _ => rfl
  | n + 1, 0, h => absurd h (by omega)
  | n + 1, k + 1, h => by
    show bin n k + bin n (k + 1) = 0
    rw [bin_z n k (by omega), bin_z n (k + 1) (by omega)]
theorem bin_p : ∀ (n k : Nat), k ≤ n → 1 ≤ bin n k
  | 0, 0, _ => Nat.le_refl 1
  | 0, k + 1, h => absurd h (by omega)
  | n + 1, 0, _ => Nat.le_refl 1
  | n + 1, k + 1, h => by
    show 1 ≤ bin n k + bin n (k + 1)
    have := bin_p n k (by omega)
    omega
theorem bin_2 : ∀ (n k : Nat), bin n k ≤ 2 ^ n
  | 0, 0 => Nat.le_refl 1
  | 0, k + 1 => Nat.zero_le _
  | n + 1, 0 => Nat.one_le_two_pow
  | n + 1, k + 1 => by
    show bin n k + bin n (k + 1) ≤ _
    have h1 := bin_2 n k
    have h2 := bin_2 n (k + 1)
    rw [Nat.pow_succ]
    omega
theorem bin_40 {n : Nat} (k : Nat) (h : n ≤ 40) : bin n k ≤ 1099511627776 := Nat.le_trans (bin_2 n k) (Nat.le_trans (Nat.pow_le_pow_right (by omega) h) (by decide))
theorem bin_abs : ∀ (m k : Nat), bin (m + 1) (k + 1) * (k + 1) = (m + 1) * bin m k
  | 0, 0 => rfl
  | 0, k + 1 => by
    show (bin 0 (k + 1) + bin 0 (k + 1 + 1)) * (k + 1 + 1) = 1 * 0
    show (0 + 0) * _ = _
    simp
  | m + 1, k => by
    have e : bin (m + 1 + 1) (k + 1) = bin (m + 1) k + bin (m + 1) (k + 1) := rfl
    rw [e, Nat.add_mul, bin_abs m k]
    cases k with
    | zero => rw [bin_0, bin_0]; simp; omega
    | succ k =>
      have h := bin_abs m k
      have e2 : bin (m + 1) (k + 1) = bin m k + bin m (k + 1) := rfl
      have e3 : bin (m + 1) (k + 1) * (k + 1 + 1) = bin (m + 1) (k + 1) * (k + 1) + bin (m + 1) (k + 1) := Nat.mul_succ _ _
      rw [e3, h]
      have e4 : (m + 1 + 1) * bin (m + 1) (k + 1) = (m + 1) * bin (m + 1) (k + 1) + bin (m + 1) (k + 1) := Nat.succ_mul _ _
      rw [e4]
      have e5 : (m + 1) * bin (m + 1) (k + 1) = (m + 1) * bin m k + (m + 1) * bin m (k + 1) := by rw [e2, Nat.mul_add]
      omega
/-! the class's table -/
theorem rk_val (n : Nat) (hn : 0 < n) : ∀ (m k : Nat) (f : Nat → Int64), 1 ≤ k → k + m ≤ 41 → (∀ j, j < 41 → f ((n - 1) * 41 + j) = lN (bin (n - 1) j)) → ∀ i, rk n m k f i = if n * 41 + k ≤ i ∧ i < n * 41 + k + m then lN (bin n (i - n * 41)) else f i := by
  intro m
  induction m with
  | zero =>
    intro k f h1 h2 h3 i
    rw [if_neg (by omega)]; rfl
  | succ m ih =>
    intro k f h1 h2 h3 i
    show rk n m (k + 1) (vp_updL f (n * 41 + k) (f ((n - 1) * 41 + k - 1) + f ((n - 1) * 41 + k))) i = _
    rw [ih (k + 1) _ (by omega) (by omega) (fun j hj => by rw [pk_uLn (by omega)]; exact h3 j hj) i]
    have e : f ((n - 1) * 41 + k - 1) + f ((n - 1) * 41 + k) = lN (bin n k) := by
      rw [show (n - 1) * 41 + k - 1 = (n - 1) * 41 + (k - 1) by omega, h3 (k - 1) (by omega), h3 k (by omega), lN_add]
      obtain ⟨n', rfl⟩ : ∃ x, n = x + 1 := ⟨n - 1, by omega⟩
      obtain ⟨k', rfl⟩ : ∃ x, k = x + 1 := ⟨k - 1, by omega⟩
      rfl
    rw [e]
    by_cases c1 : n * 41 + (k + 1) ≤ i ∧ i < n * 41 + (k + 1) + m
    · rw [if_pos c1, if_pos (by omega)]
    · rw [if_neg c1]
      by_cases c2 : i = n * 41 + k
      · rw [c2, pk_uLs, if_pos (by omega), show n * 41 + k - n * 41 = k by omega]
      · rw [pk_uLn c2, if_neg (by omega)]
theorem rn_val : ∀ (m n : Nat) (f : Nat → Int64), (∀ n', n' < n → ∀ j, j < 41 → f (n' * 41 + j) = lN (bin n' j)) → (∀ i, n * 41 ≤ i → f i = 0) → n + m ≤ 41 → ∀ n', n' < n + m → ∀ j, j < 41 → rn m n f (n' * 41 + j) = lN (bin n' j) := by
  intro m
  induction m with
  | zero => intro n f h1 h2 h3 n' hn' j hj; exact h1 n' (by omega) j hj
  | succ m ih =>
    intro n f h1 h2 h3 n' hn' j hj
    show rn m (n + 1) (rk n n 1 (vp_updL f (n * 41) 1)) (n' * 41 + j) = _
    have hv : ∀ i, rk n n 1 (vp_updL f (n * 41) 1) i = if n * 41 + 1 ≤ i ∧ i < n * 41 + 1 + n then lN (bin n (i - n * 41)) else vp_updL f (n * 41) 1 i := by
      intro i
      rcases Nat.eq_zero_or_pos n with e | e
      · subst e
        rw [if_neg (by omega)]; rfl
      · exact rk_val n e n 1 _ (by omega) (by omega) (fun j hj => by rw [pk_uLn (by omega)]; exact h1 (n - 1) (by omega) j hj) i
    refine ih (n + 1) _ (fun a ha b hb => ?_) (fun i hi => ?_) (by omega) n' (by omega) j hj
    · rw [hv]
      by_cases e : a = n
      · subst e
        by_cases c : 1 ≤ b ∧ b ≤ a
        · rw [if_pos (by omega), show a * 41 + b - a * 41 = b by omega]
        · rw [if_neg (by omega)]
          by_cases c0 : b = 0
          · subst c0
            rw [Nat.add_zero, pk_uLs, bin_0]; rfl
          · rw [pk_uLn (by omega), h2 _ (by omega), bin_z a b (by omega)]; rfl
      · rw [if_neg (by omega), pk_uLn (by omega)]
        exact h1 a (by omega) b hb
    · rw [hv, if_neg (by omega), pk_uLn (by omega)]
      exact h2 i (by omega)
theorem sets0_val {n k : Nat} (hn : n ≤ 40) (hk : k ≤ 40) : sets0 (n * 41 + k) = lN (bin n k) :=
  rn_val 41 0 (fun _ => 0) (fun _ h => absurd h (by omega)) (fun _ _ => rfl) (by omega) n (by omega) k (by omega)
theorem X_setsOf {s : XS} (h : gJ s 30 = sets0) {n k : Nat} (hn : n ≤ 40) (hk : k < 2 ^ 31) : p_Odds_setsOf (nI n) (nI k) s = some (lN (bin n k)) := by
  unfold p_Odds_setsOf
  rw [if_neg (nI_pos (by omega)), if_neg (show ¬ (41 : Int32) ≤ nI n from nI_ge (b := 41) (by omega) (by omega)), if_neg (nI_pos hk)]
  by_cases e : n < k
  · rw [if_pos (nI_lt e hk), bin_z n k e]; rfl
  · rw [if_neg (nI_nlt (by omega) (by omega)), show nI n * (41 : Int32) + nI k = nI (n * 41 + k) by rw [show (41 : Int32) = nI 41 from rfl, pk_mul, nI_add], if_pos (gIn_t (show n * 41 + k < 1681 by omega) (by omega)), ix_nI (by omega), h, sets0_val hn (by omega)]
/-! the reference's -/
theorem lcmp_le {a b : Nat} (ha : a < 2 ^ 63) (hb : b < 2 ^ 63) : lg_cmp (lN a) (lN b) ≤ 0 ↔ a ≤ b := by
  unfold lg_cmp
  by_cases h : a ≤ b
  · have h1 : ¬ lN a > lN b := fun z => by have := (pk_lLT hb ha).mp z; omega
    rw [if_neg h1]
    constructor
    · intro _; exact h
    · intro _
      split <;> decide
  · have h1 : lN a > lN b := (pk_lLT hb ha).mpr (by omega)
    rw [if_pos h1]
    constructor
    · intro z; exact absurd z (by decide)
    · intro z; exact absurd z h
theorem lcmp_lt {a b : Nat} (ha : a < 2 ^ 63) (hb : b < 2 ^ 63) : lg_cmp (lN a) (lN b) < 0 ↔ a < b := by
  unfold lg_cmp
  by_cases h : a < b
  · have h1 : ¬ lN a > lN b := fun z => by have := (pk_lLT hb ha).mp z; omega
    have h2 : ¬ lN a = lN b := fun z => by have := (pk_lEQ ha hb).mp z; omega
    rw [if_neg h1, if_neg h2]
    exact ⟨fun _ => h, fun _ => by decide⟩
  · constructor
    · intro z
      split at z
      · exact absurd z (by decide)
      · split at z
        · exact absurd z (by decide)
        · rename_i h1 h2
          exact absurd ((pk_lLT hb ha).mpr (by
            have : ¬ a = b := fun q => h2 (by rw [q])
            omega)) h1
    · intro z; exact absurd z h
theorem lcmp_0 {a : Nat} (ha : a < 2 ^ 63) : lg_cmp (lN a) 0 = 0 ↔ a = 0 := by
  rw [lcmp0]
  exact pk_lEQ (b := 0) ha (by omega)
theorem Y_sets {o n : Nat} (ho : o ≤ 40) (hn : n < 2 ^ 31) : p_Model_sets (nI o) (nI n) = some (lN (bin o n)) := by
  unfold p_Model_sets
  by_cases e : n ≤ o
  · rw [if_pos (nI_le e (by omega))]
    have key : ∀ (m k f : Nat), k + m = n → m < f → lo2 (p_Model_sets_B12 (nI o) (nI n)) f (lN (bin (o - n + k) k)) (nI (k + 1)) = some (lN (bin o n)) := by
      intro m
      induction m with
      | zero =>
        intro k f hi hf
        obtain ⟨f, rfl⟩ : ∃ g, f = g + 1 := ⟨f - 1, by omega⟩
        have hb := bin_40 n ho
        show p_Model_sets_B12 _ _ _ _ (nI (k + 1)) = _
        unfold p_Model_sets_B12
        rw [if_pos (nI_lt (by omega) (by omega)), show o - n + k = o by omega, show k = n by omega, if_pos (show lg_cmp (lN (bin o n)) (1000000000000000 : Int64) ≤ 0 from (lcmp_le (b := 1000000000000000) (by omega) (by omega)).mpr (by omega))]
      | succ m ih =>
        intro k f hi hf
        obtain ⟨f, rfl⟩ : ∃ g, f = g + 1 := ⟨f - 1, by omega⟩
        have hb := bin_40 (n := o - n + k) k (by omega)
        have ih := ih (k + 1) f (by omega) (by omega)
        show p_Model_sets_B12 _ _ (lo2 (p_Model_sets_B12 (nI o) (nI n)) f) _ (nI (k + 1)) = _
        generalize lo2 (p_Model_sets_B12 (nI o) (nI n)) f = K at ih ⊢
        unfold p_Model_sets_B12
        have ea : ((nI o - nI n) + nI (k + 1)).toInt64 = lN (o - n + (k + 1)) := by rw [nI_sub e, nI_add, nI_l (by omega)]
        have eb : (nI (k + 1)).toInt64 = lN (k + 1) := nI_l (by omega)
        rw [if_neg (nI_nlt (by omega) (by omega)), ea, eb, if_neg (show ¬ lN (o - n + (k + 1)) = 0 from fun z => by have := (pk_lEQ (b := 0) (by omega) (by omega)).mp z; omega), show (9000000000000000000 : Int64) = lN 9000000000000000000 from rfl, pk_lDiv (by omega) (by omega) (by omega)]
        have hq : bin (o - n + k) k ≤ 9000000000000000000 / (o - n + (k + 1)) := by
          rw [Nat.le_div_iff_mul_le (by omega)]
          have : bin (o - n + k) k * (o - n + (k + 1)) ≤ 1099511627776 * 41 := Nat.mul_le_mul hb (by omega)
          omega
        have hq2 : 9000000000000000000 / (o - n + (k + 1)) ≤ 9000000000000000000 := Nat.div_le_self _ _
        have hm : bin (o - n + k) k * (o - n + (k + 1)) ≤ 1099511627776 * 41 := Nat.mul_le_mul hb (by omega)
        rw [if_pos ((lcmp_le (by omega) (by omega)).mpr hq), if_neg (show ¬ lN (k + 1) = 0 from fun z => by have := (pk_lEQ (b := 0) (by omega) (by omega)).mp z; omega), lN_mul, pk_lDiv (by omega) (by omega) (by omega), nI_1]
        have ev : bin (o - n + k) k * (o - n + (k + 1)) / (k + 1) = bin (o - n + (k + 1)) (k + 1) := by
          have h := bin_abs (o - n + k) k
          rw [show o - n + (k + 1) = o - n + k + 1 by omega, Nat.mul_comm, ← h]
          exact Nat.mul_div_cancel _ (by omega)
        rw [ev]
        exact ih
    have := key n 0 fuelN (by omega) (by unfold fuelN; omega)
    rw [bin_0] at this
    exact this
  · rw [if_neg (nI_ge (by omega) (by omega)), bin_z o n (by omega)]; rfl
theorem Y_times {a b : Nat} (ha : a ≤ 1000000000000000) (hb : b ≤ 1000000000000000) : p_Model_times (lN a) (lN b) = some (lN (if a * b ≤ 1000000000000000 then a * b else 1000000000000001)) := by
  unfold p_Model_times
  by_cases a0 : a = 0
  · rw [if_pos ((lcmp_0 (by omega)).mpr a0), a0, Nat.zero_mul, if_pos (by omega)]; rfl
  · rw [if_neg (fun z => a0 ((lcmp_0 (by omega)).mp z))]
    by_cases b0 : b = 0
    · rw [if_pos ((lcmp_0 (by omega)).mpr b0), b0, Nat.mul_zero, if_pos (by omega)]; rfl
    · rw [if_neg (fun z => b0 ((lcmp_0 (by omega)).mp z)), if_neg (show ¬ lN b = 0 from fun z => b0 ((pk_lEQ (b := 0) (by omega) (by omega)).mp z)), show (1000000000000000 : Int64) = lN 1000000000000000 from rfl, pk_lDiv (by omega) (by omega) (by omega)]
      have hq := Nat.div_le_self 1000000000000000 b
      have hi : a ≤ 1000000000000000 / b ↔ a * b ≤ 1000000000000000 := Nat.le_div_iff_mul_le (by omega)
      by_cases e : a * b ≤ 1000000000000000
      · rw [if_pos ((lcmp_le (by omega) (by omega)).mpr (hi.mpr e)), if_pos e, lN_mul]
      · rw [if_neg (fun z => e (hi.mp ((lcmp_le (by omega) (by omega)).mp z))), if_neg e]; rfl
/-! sums; Vandermonde -/
def sm (f : Nat → Nat) : Nat → Nat
  | 0 => 0
  | n + 1 => sm f n + f n
theorem sm_shift (f : Nat → Nat) : ∀ n, sm f (n + 1) = f 0 + sm (fun i => f (i + 1)) n
  | 0 => by show 0 + f 0 = f 0 + 0; omega
  | n + 1 => by
    show sm f (n + 1) + f (n + 1) = f 0 + (sm (fun i => f (i + 1)) n + f (n + 1))
    rw [sm_shift f n]; omega
theorem sm_congr {f g : Nat → Nat} : ∀ {n : Nat}, (∀ i, i < n → f i = g i) → sm f n = sm g n
  | 0, _ => rfl
  | n + 1, h => by
    show sm f n + f n = sm g n + g n
    rw [sm_congr (n := n) (fun i hi => h i (by omega)), h n (by omega)]
theorem sm_add (f g : Nat → Nat) : ∀ n, sm (fun i => f i + g i) n = sm f n + sm g n
  | 0 => rfl
  | n + 1 => by
    show sm (fun i => f i + g i) n + (f n + g n) = (sm f n + f n) + (sm g n + g n)
    rw [sm_add f g n]; omega
theorem sm_one {f : Nat → Nat} : ∀ {n i : Nat}, i < n → f i ≤ sm f n
  | 0, i, h => absurd h (by omega)
  | n + 1, i, h => by
    show f i ≤ sm f n + f n
    by_cases e : i = n
    · subst e; omega
    · have := sm_one (f := f) (n := n) (i := i) (by omega)
      omega
theorem sm_mul (k : Nat) (f : Nat → Nat) : ∀ n, sm (fun i => k * f i) n = k * sm f n
  | 0 => rfl
  | n + 1 => by
    show sm (fun i => k * f i) n + k * f n = k * (sm f n + f n)
    rw [sm_mul k f n, Nat.mul_add]
theorem vand : ∀ (a b n : Nat), sm (fun i => bin a i * bin b (n - i)) (n + 1) = bin (a + b) n
  | 0, b, n => by
    rw [sm_shift, bin_0, Nat.sub_zero, Nat.one_mul, Nat.zero_add]
    have : sm (fun i => bin 0 (i + 1) * bin b (n - (i + 1))) n = 0 := by
      rw [sm_congr (g := fun i => 0 * bin b i) (fun i _ => by show 0 * _ = 0 * _; rw [Nat.zero_mul, Nat.zero_mul]), sm_mul, Nat.zero_mul]
    rw [this]; rfl
  | a + 1, b, 0 => by
    show 0 + bin (a + 1) 0 * bin b (0 - 0) = bin (a + 1 + b) 0
    rw [bin_0, bin_0, bin_0]
  | a + 1, b, n + 1 => by
    have e1 := vand a b n
    have e2 := vand a b (n + 1)
    rw [sm_shift] at e2 ⊢
    have e3 : sm (fun i => bin (a + 1) (i + 1) * bin b (n + 1 - (i + 1))) (n + 1) = sm (fun i => bin a i * bin b (n - i)) (n + 1) + sm (fun i => bin a (i + 1) * bin b (n + 1 - (i + 1))) (n + 1) := by
      rw [← sm_add]
      apply sm_congr
      intro i _
      show (bin a i + bin a (i + 1)) * bin b (n + 1 - (i + 1)) = _
      rw [Nat.add_mul, show n + 1 - (i + 1) = n - i by omega]
    rw [e3, e1, bin_0]
    rw [bin_0] at e2
    rw [show a + 1 + b = a + b + 1 by omega]
    show _ = bin (a + b) n + bin (a + b) (n + 1)
    omega
theorem vand_t (a b : Nat) {n i : Nat} (h : i ≤ n) : bin a i * bin b (n - i) ≤ bin (a + b) n := by
  rw [← vand a b n]
  exact sm_one (f := fun i => bin a i * bin b (n - i)) (by omega)
