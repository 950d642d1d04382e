/-! TALLIES: codes of bodies, and their ways -/
def cd4 (a b c d : Nat) : Nat := a + 64 * b + 4096 * c + 262144 * d
def ck (x : Nat) : Nat := (x % 64 * 41 + x / 64 % 64) * 41 + x / 4096 % 64
/-- a code of a body of n -/
def vc (n x : Nat) : Prop := ∃ a b c d, a + b + c + d = n ∧ x = cd4 a b c d
theorem cd_parts {a b c d : Nat} (ha : a < 64) (hb : b < 64) (hc : c < 64) (hd : d < 64) : cd4 a b c d % 64 = a ∧ cd4 a b c d / 64 % 64 = b ∧ cd4 a b c d / 4096 % 64 = c ∧ cd4 a b c d / 262144 % 64 = d := by
  unfold cd4
  omega
theorem ck_cd {a b c d : Nat} (ha : a < 64) (hb : b < 64) (hc : c < 64) (hd : d < 64) : ck (cd4 a b c d) = (a * 41 + b) * 41 + c := by
  have h := cd_parts ha hb hc hd
  unfold ck
  rw [h.1, h.2.1, h.2.2.1]
theorem ck_b {n x : Nat} (hn : n ≤ 40) (h : vc n x) : ck x ≤ 68920 ∧ x < 16777216 := by
  obtain ⟨a, b, c, d, h1, rfl⟩ := h
  rw [ck_cd (by omega) (by omega) (by omega) (by omega)]
  unfold cd4
  omega
theorem ck_inj {n x y : Nat} (hn : n ≤ 40) (hx : vc n x) (hy : vc n y) (h : ck x = ck y) : x = y := by
  obtain ⟨a, b, c, d, h1, rfl⟩ := hx
  obtain ⟨a', b', c', d', h2, rfl⟩ := hy
  rw [ck_cd (by omega) (by omega) (by omega) (by omega), ck_cd (by omega) (by omega) (by omega) (by omega)] at h
  have e1 : a = a' := by omega
  have e2 : b = b' := by omega
  have e3 : c = c' := by omega
  have e4 : d = d' := by omega
  subst e1 e2 e3 e4
  rfl
abbrev TT : Type := Nat × (Nat → Nat) × (Nat → Nat)
def fnd (K : Nat → Nat) (c : Nat) : Nat → Nat → Nat
  | 0, i => i
  | m + 1, i => if K i = c then i else fnd K c m (i + 1)
theorem fnd_b (K : Nat → Nat) (c : Nat) : ∀ m i, i ≤ fnd K c m i ∧ fnd K c m i ≤ i + m ∧ (fnd K c m i < i + m → K (fnd K c m i) = c) ∧ ∀ j, i ≤ j → j < fnd K c m i → ¬ K j = c
  | 0, i => ⟨Nat.le_refl i, Nat.le_refl i, fun h => absurd h (Nat.lt_irrefl i), fun j h1 h2 => absurd (Nat.lt_of_le_of_lt h1 h2) (Nat.lt_irrefl i)⟩
  | m + 1, i => by
    have h := fnd_b K c m (i + 1)
    by_cases e : K i = c
    · have e2 : fnd K c (m + 1) i = i := if_pos e
      rw [e2]
      exact ⟨by omega, by omega, fun _ => e, fun j h1 h2 => absurd h2 (by omega)⟩
    · have e2 : fnd K c (m + 1) i = fnd K c m (i + 1) := if_neg e
      rw [e2]
      refine ⟨by omega, by omega, fun z => h.2.2.1 (by omega), fun j h1 h2 => ?_⟩
      by_cases ej : j = i
      · rw [ej]; exact e
      · exact h.2.2.2 j (by omega) h2
def tadd (T : TT) (c w : Nat) : Option TT :=
  if fnd T.2.1 c T.1 0 < T.1 then some (T.1, T.2.1, fun i => if i = fnd T.2.1 c T.1 0 then T.2.2 i + w else T.2.2 i) else if T.1 = 600 then none else some (T.1 + 1, fun i => if i = T.1 then c else T.2.1 i, fun i => if i = T.1 then w else T.2.2 i)
/-- the tally is one of bodies of n, all unlike -/
def VT (n : Nat) (T : TT) : Prop := T.1 ≤ 600 ∧ (∀ i, i < T.1 → vc n (T.2.1 i)) ∧ ∀ i j, i < T.1 → j < T.1 → T.2.1 i = T.2.1 j → i = j
def tsum (T : TT) : Nat := sm T.2.2 T.1
theorem sm_upd (W : Nat → Nat) (w : Nat) : ∀ {n i : Nat}, i < n → sm (fun j => if j = i then W j + w else W j) n = sm W n + w
  | 0, i, h => absurd h (by omega)
  | n + 1, i, h => by
    show sm (fun j => if j = i then W j + w else W j) n + (if n = i then W n + w else W n) = sm W n + W n + w
    by_cases e : n = i
    · subst e
      rw [if_pos rfl, sm_congr (g := W) (fun j hj => if_neg (by omega))]; omega
    · rw [if_neg e, sm_upd W w (n := n) (i := i) (by omega)]; omega
theorem tadd_v {n : Nat} {T T' : TT} {c w : Nat} (h : VT n T) (hc : vc n c) (e : tadd T c w = some T') : VT n T' ∧ tsum T' = tsum T + w := by
  have hb := fnd_b T.2.1 c T.1 0
  have h600 := h.1
  unfold tadd at e
  by_cases e1 : fnd T.2.1 c T.1 0 < T.1
  · rw [if_pos e1] at e
    cases e
    exact ⟨⟨h.1, h.2.1, h.2.2⟩, sm_upd T.2.2 w e1⟩
  · rw [if_neg e1] at e
    by_cases e2 : T.1 = 600
    · rw [if_pos e2] at e; cases e
    · rw [if_neg e2] at e
      cases e
      have hf : fnd T.2.1 c T.1 0 = T.1 := by omega
      refine ⟨⟨by show T.1 + 1 ≤ 600; omega, fun i hi => ?_, fun i j hi hj hij => ?_⟩, ?_⟩
      · show vc n (if i = T.1 then c else T.2.1 i)
        have hi : i < T.1 + 1 := hi
        by_cases ei : i = T.1
        · rw [if_pos ei]; exact hc
        · rw [if_neg ei]; exact h.2.1 i (by omega)
      · have hi : i < T.1 + 1 := hi
        have hj : j < T.1 + 1 := hj
        have hij : (if i = T.1 then c else T.2.1 i) = (if j = T.1 then c else T.2.1 j) := hij
        by_cases ei : i = T.1
        · by_cases ej : j = T.1
          · omega
          · rw [if_pos ei, if_neg ej] at hij
            exact absurd hij.symm (hb.2.2.2 j (by omega) (by omega))
        · by_cases ej : j = T.1
          · rw [if_neg ei, if_pos ej] at hij
            exact absurd hij (hb.2.2.2 i (by omega) (by omega))
          · rw [if_neg ei, if_neg ej] at hij
            exact h.2.2 i j (by omega) (by omega) hij
      · show sm (fun i => if i = T.1 then w else T.2.2 i) T.1 + (if T.1 = T.1 then w else T.2.2 T.1) = sm T.2.2 T.1 + w
        rw [if_pos rfl, sm_congr (g := T.2.2) (fun j hj => if_neg (by omega))]
/-! the class's tally: a table of slots -/
def hsh (x : Int32) : Nat := ix ((x * (37 : Int32)) &&& (1023 : Int32))
theorem hsh_e (x : Int32) : (x * (37 : Int32)) &&& (1023 : Int32) = nI (hsh x) ∧ hsh x < 1024 := by
  obtain ⟨j, hj, e⟩ := pk_andE (x * (37 : Int32)) (m := 1023) 10 (by decide)
  unfold hsh
  rw [e, ix_nI (by omega)]
  exact ⟨rfl, hj⟩
theorem nx_slot : ∀ p, p < 1024 → (nI p + (1 : Int32)) &&& (1023 : Int32) = nI ((p + 1) % 1024) := by decide +kernel
def HT (S : Nat → Nat) (C : Nat → Nat) (m : Nat) : Prop := (∀ j, j < 1024 → S j ≤ m) ∧ (∀ i, i < m → ∃ d, d < 1024 ∧ S ((hsh (nI (C i)) + d) % 1024) = i + 1 ∧ ∀ d', d' < d → ¬ S ((hsh (nI (C i)) + d') % 1024) = 0) ∧ cnt (fun j => decide (¬ S j = 0)) 1024 = m
theorem cnt_all {P : Nat → Bool} : ∀ {n : Nat}, (∀ i, i < n → P i = true) → cnt P n = n
  | 0, _ => rfl
  | n + 1, h => by
    show cnt P n + _ = n + 1
    rw [cnt_all (n := n) (fun i hi => h i (by omega)), h n (by omega), if_pos rfl]
theorem cnt_set {P P' : Nat → Bool} : ∀ {n i : Nat}, i < n → P i = false → P' i = true → (∀ j, ¬ j = i → P' j = P j) → cnt P' n = cnt P n + 1
  | 0, i, h, _, _, _ => absurd h (by omega)
  | n + 1, i, h, h1, h2, h3 => by
    show cnt P' n + (if P' n then 1 else 0) = cnt P n + (if P n then 1 else 0) + 1
    by_cases e : n = i
    · subst e
      rw [cnt_congr (P' := P) (fun j hj => h3 j (by omega)), h1, h2]; rfl
    · rw [cnt_set (n := n) (i := i) (by omega) h1 h2 h3, h3 n e]; omega
/-- the way of a search -/
def prb (S : Nat → Nat) (C : Nat → Nat) (key h : Nat) : Nat → Nat → Option Nat
  | 0, _ => none
  | m + 1, d => if S ((h + d) % 1024) = 0 then some d else if C (S ((h + d) % 1024) - 1) = key then some d else prb S C key h m (d + 1)
theorem prb_s {S C : Nat → Nat} {key h : Nat} : ∀ {m d e : Nat}, prb S C key h m d = some e → d ≤ e ∧ e < d + m ∧ (S ((h + e) % 1024) = 0 ∨ C (S ((h + e) % 1024) - 1) = key) ∧ ∀ x, d ≤ x → x < e → ¬ S ((h + x) % 1024) = 0 ∧ ¬ C (S ((h + x) % 1024) - 1) = key
  | 0, d, e, z => by cases z
  | m + 1, d, e, z => by
    unfold prb at z
    by_cases c1 : S ((h + d) % 1024) = 0
    · rw [if_pos c1] at z
      cases z
      exact ⟨by omega, by omega, Or.inl c1, fun x h1 h2 => absurd h2 (by omega)⟩
    · rw [if_neg c1] at z
      by_cases c2 : C (S ((h + d) % 1024) - 1) = key
      · rw [if_pos c2] at z
        cases z
        exact ⟨by omega, by omega, Or.inr c2, fun x h1 h2 => absurd h2 (by omega)⟩
      · rw [if_neg c2] at z
        have ih := prb_s (m := m) z
        refine ⟨by omega, by omega, ih.2.2.1, fun x h1 h2 => ?_⟩
        by_cases ex : x = d
        · subst ex; exact ⟨c1, c2⟩
        · exact ih.2.2.2 x (by omega) h2
theorem prb_n {S C : Nat → Nat} {key h : Nat} : ∀ {m d : Nat}, prb S C key h m d = none → ∀ x, d ≤ x → x < d + m → ¬ S ((h + x) % 1024) = 0
  | 0, d, _, x, h1, h2 => absurd h2 (by omega)
  | m + 1, d, z, x, h1, h2 => by
    unfold prb at z
    by_cases c1 : S ((h + d) % 1024) = 0
    · rw [if_pos c1] at z; cases z
    · rw [if_neg c1] at z
      by_cases c2 : C (S ((h + d) % 1024) - 1) = key
      · rw [if_pos c2] at z; cases z
      · rw [if_neg c2] at z
        by_cases ex : x = d
        · subst ex; exact c1
        · exact prb_n (m := m) z x (by omega) (by omega)
theorem prb_ex {S C : Nat → Nat} {m : Nat} (hH : HT S C m) (hm : m ≤ 600) (key : Nat) {h : Nat} (hh : h < 1024) : ∃ e, prb S C key h 1024 0 = some e := by
  cases z : prb S C key h 1024 0 with
  | some e => exact ⟨e, rfl⟩
  | none =>
    exfalso
    have hn := prb_n z
    have hall : cnt (fun j => decide (¬ S j = 0)) 1024 = 1024 := cnt_all (fun j hj => decide_eq_true (by
      have := hn ((j + 1024 - h) % 1024) (by omega) (by omega)
      rw [show (h + (j + 1024 - h) % 1024) % 1024 = j by omega] at this
      exact this))
    have := hH.2.2
    omega
def TXk (k : Nat) (T : TT) (s : XS) : Prop := gM s (40 + 4 * k) 3 = nI T.1 ∧ (∀ i, i < T.1 → gM s (41 + 4 * k) i = nI (ck (T.2.1 i)) ∧ gJ s (42 + 4 * k) i = lN (T.2.2 i)) ∧ ∃ S, HT S (fun i => ck (T.2.1 i)) T.1 ∧ ∀ j, j < 1024 → gM s (43 + 4 * k) j = nI (S j)
/-- what a tally's change leaves -/
def FT (k : Nat) (s s' : XS) : Prop := gG s' = gG s ∧ (∀ c, ¬ (40 + 4 * k ≤ c ∧ c ≤ 43 + 4 * k) → gM s' c = gM s c) ∧ ∀ c, ¬ c = 42 + 4 * k → gJ s' c = gJ s c
theorem X_tadd {k n : Nat} {T : TT} {s : XS} (hn : n ≤ 40) (hV : VT n T) (hT : TXk k T s) {c : Nat} (hc : vc n c) (w : Nat) : (tadd T c w = none ∧ p_Tally_add k (nI (ck c)) (lN w) s = some (0, s)) ∨ ∃ T' s', tadd T c w = some T' ∧ p_Tally_add k (nI (ck c)) (lN w) s = some (1, s') ∧ TXk k T' s' ∧ FT k s s' := by
  obtain ⟨h1, h2, S, hH, h3⟩ := hT
  have h600 := hV.1
  obtain ⟨eh, hh⟩ := hsh_e (nI (ck c))
  obtain ⟨D, hD⟩ := prb_ex hH h600 (ck c) hh
  have hp := prb_s hD
  have hckc := (ck_b hn hc).1
  have hck : ∀ i, i < T.1 → ck (T.2.1 i) ≤ 68920 := fun i hi => (ck_b hn (hV.2.1 i hi)).1
  have hfb := fnd_b T.2.1 c T.1 0
  -- the loop comes to D
  have key : ∀ (m d f : Nat), d + m = D → m < f → lo2 (p_Tally_add_B13 k (nI (ck c)) (lN w) s) f (nI ((hsh (nI (ck c)) + d) % 1024)) (nI d) = p_Tally_add_B13 k (nI (ck c)) (lN w) s (lo2 (p_Tally_add_B13 k (nI (ck c)) (lN w) s) (f - m - 1)) (nI ((hsh (nI (ck c)) + D) % 1024)) (nI D) := by
    intro m
    induction m with
    | zero =>
      intro d f hi hf
      obtain ⟨f, rfl⟩ : ∃ g, f = g + 1 := ⟨f - 1, by omega⟩
      rw [show d = D by omega, show f + 1 - 0 - 1 = f by omega]; rfl
    | succ m ih =>
      intro d f hi hf
      obtain ⟨f, rfl⟩ : ∃ g, f = g + 1 := ⟨f - 1, by omega⟩
      have ih := ih (d + 1) f (by omega) (by omega)
      rw [show f + 1 - (m + 1) - 1 = f - m - 1 by omega, ← ih]
      show p_Tally_add_B13 k (nI (ck c)) (lN w) s (lo2 (p_Tally_add_B13 k (nI (ck c)) (lN w) s) f) (nI ((hsh (nI (ck c)) + d) % 1024)) (nI d) = _
      have hd := hp.2.2.2 d (by omega) (by omega)
      have hS := hH.1 ((hsh (nI (ck c)) + d) % 1024) (by omega)
      have hk2 := hck (S ((hsh (nI (ck c)) + d) % 1024) - 1) (by omega)
      have e3 := h3 ((hsh (nI (ck c)) + d) % 1024) (by omega)
      have e2 := (h2 (S ((hsh (nI (ck c)) + d) % 1024) - 1) (by omega)).1
      have enx := nx_slot ((hsh (nI (ck c)) + d) % 1024) (by omega)
      generalize lo2 (p_Tally_add_B13 k (nI (ck c)) (lN w) s) f = K
      unfold p_Tally_add_B13
      rw [if_neg (show ¬ (1024 : Int32) ≤ nI d from nI_ge (b := 1024) (by omega) (by omega)), if_pos (gIn_t (show (hsh (nI (ck c)) + d) % 1024 < 1024 by omega) (by omega)), ix_nI (by omega), e3, if_neg (nI_ne0 (by omega) (by omega)), if_pos (gIn_t (show (hsh (nI (ck c)) + d) % 1024 < 1024 by omega) (by omega)), show nI (S ((hsh (nI (ck c)) + d) % 1024)) - (1 : Int32) = nI (S ((hsh (nI (ck c)) + d) % 1024) - 1) from pk_sub (b := 1) (by omega), if_neg (nI_pos (by omega)), h1, if_neg (nI_ge (by omega) (by omega)), if_pos (gIn_t (show S ((hsh (nI (ck c)) + d) % 1024) - 1 < 600 by omega) (by omega)), ix_nI (by omega), e2, if_neg (fun z => hd.2 ((nI_eq (by omega) (by omega)).mp z)), enx, nI_1, show ((hsh (nI (ck c)) + d) % 1024 + 1) % 1024 = (hsh (nI (ck c)) + (d + 1)) % 1024 by omega]
  have k0 : p_Tally_add k (nI (ck c)) (lN w) s = p_Tally_add_B13 k (nI (ck c)) (lN w) s (lo2 (p_Tally_add_B13 k (nI (ck c)) (lN w) s) (fuelN - D - 1)) (nI ((hsh (nI (ck c)) + D) % 1024)) (nI D) := by
    unfold p_Tally_add
    rw [eh]
    have := key D 0 fuelN (by omega) (by unfold fuelN; omega)
    rw [Nat.add_zero, Nat.mod_eq_of_lt hh] at this
    exact this
  rw [k0]
  generalize lo2 (p_Tally_add_B13 k (nI (ck c)) (lN w) s) (fuelN - D - 1) = K
  have hDb : D < 1024 := by omega
  have e3 := h3 ((hsh (nI (ck c)) + D) % 1024) (by omega)
  have hS := hH.1 ((hsh (nI (ck c)) + D) % 1024) (by omega)
  have gq : gIn (nI ((hsh (nI (ck c)) + D) % 1024)) 1024 = true := gIn_t (by omega) (by omega)
  unfold p_Tally_add_B13
  rw [if_neg (show ¬ (1024 : Int32) ≤ nI D from nI_ge (b := 1024) (by omega) (by omega)), if_pos gq, ix_nI (by omega), e3]
  by_cases z : S ((hsh (nI (ck c)) + D) % 1024) = 0
  · -- a free slot: the key isn't there
    have hno : fnd T.2.1 c T.1 0 = T.1 := by
      rcases Nat.lt_or_ge (fnd T.2.1 c T.1 0) T.1 with q | q
      · exfalso
        have ek := hfb.2.2.1 (by omega)
        obtain ⟨d, d1, d2, d3⟩ := hH.2.1 _ q
        have d2 : S ((hsh (nI (ck (T.2.1 (fnd T.2.1 c T.1 0)))) + d) % 1024) = fnd T.2.1 c T.1 0 + 1 := d2
        have d3 : ∀ d', d' < d → ¬ S ((hsh (nI (ck (T.2.1 (fnd T.2.1 c T.1 0)))) + d') % 1024) = 0 := d3
        rw [ek] at d2 d3
        rcases Nat.lt_or_ge D d with y | y
        · exact d3 D y z
        · rcases Nat.eq_or_lt_of_le y with y | y
          · rw [y] at d2; omega
          · have := (hp.2.2.2 d (by omega) y).2
            rw [d2] at this
            exact this (by show ck (T.2.1 (fnd T.2.1 c T.1 0 + 1 - 1)) = ck c; rw [Nat.add_sub_cancel, ek])
      · omega
    rw [if_pos (by rw [z]; rfl)]
    unfold p_Tally_add_K96 tadd
    rw [h1, hno, if_neg (Nat.lt_irrefl _)]
    by_cases e6 : T.1 = 600
    · refine Or.inl ⟨if_pos e6, ?_⟩
      rw [if_neg (show ¬ nI T.1 < (600 : Int32) from nI_nlt (b := 600) (by omega) (by omega))]
    · refine Or.inr ⟨_, sM (sM (sJ (sM s (41 + 4 * k) T.1 (nI (ck c))) (42 + 4 * k) T.1 (lN w)) (40 + 4 * k) 3 (nI (T.1 + 1))) (43 + 4 * k) ((hsh (nI (ck c)) + D) % 1024) (nI (T.1 + 1)), if_neg e6, ?_, ⟨?_, fun i hi => ⟨?_, ?_⟩, fun j => if j = (hsh (nI (ck c)) + D) % 1024 then T.1 + 1 else S j, ⟨fun j hj => ?_, fun i hi => ?_, ?_⟩, fun j hj => ?_⟩, ⟨rfl, fun x hx => ?_, fun x hx => ?_⟩⟩
      · have g6 : gIn (nI T.1) 600 = true := gIn_t (by omega) (by omega)
        have r1 : gM (sM s (41 + 4 * k) T.1 (nI (ck c))) (40 + 4 * k) 3 = nI T.1 := by rw [gM_o (by omega)]; exact h1
        rw [if_pos (show nI T.1 < (600 : Int32) from nI_lt (b := 600) (by omega) (by omega)), if_pos g6, ix_nI (by omega), lq_e, r1, if_pos g6, ix_nI (by omega), lq_e]
        have r2 : gM (sJ (sM s (41 + 4 * k) T.1 (nI (ck c))) (42 + 4 * k) T.1 (lN w)) (40 + 4 * k) 3 = nI T.1 := r1
        rw [r2, nI_1, lq_e, if_pos gq]
        have r3 : gM (sM (sJ (sM s (41 + 4 * k) T.1 (nI (ck c))) (42 + 4 * k) T.1 (lN w)) (40 + 4 * k) 3 (nI (T.1 + 1))) (40 + 4 * k) 3 = nI (T.1 + 1) := by rw [gM_sM, if_pos rfl, if_pos rfl]
        rw [r3, ix_nI (by omega), lq_e]
      · rw [gM_o (by omega), gM_sM, if_pos rfl, if_pos rfl]
      · rw [gM_o (by omega), gM_o (by omega)]
        show gM (sM s (41 + 4 * k) T.1 (nI (ck c))) (41 + 4 * k) i = nI (ck (if i = T.1 then c else T.2.1 i))
        rw [gM_sM, if_pos rfl]
        have hi : i < T.1 + 1 := hi
        by_cases ei : i = T.1
        · rw [if_pos ei, if_pos ei]
        · rw [if_neg ei, if_neg ei]; exact (h2 i (by omega)).1
      · show gJ (sJ (sM s (41 + 4 * k) T.1 (nI (ck c))) (42 + 4 * k) T.1 (lN w)) (42 + 4 * k) i = lN (if i = T.1 then w else T.2.2 i)
        rw [gJ_sJ, if_pos rfl]
        have hi : i < T.1 + 1 := hi
        by_cases ei : i = T.1
        · rw [if_pos ei, if_pos ei]
        · rw [if_neg ei, if_neg ei]; exact (h2 i (by omega)).2
      · show (if j = (hsh (nI (ck c)) + D) % 1024 then T.1 + 1 else S j) ≤ T.1 + 1
        have := hH.1 j hj
        split <;> omega
      · have hi : i < T.1 + 1 := hi
        show ∃ d, d < 1024 ∧ (if (hsh (nI (ck (if i = T.1 then c else T.2.1 i))) + d) % 1024 = (hsh (nI (ck c)) + D) % 1024 then T.1 + 1 else S ((hsh (nI (ck (if i = T.1 then c else T.2.1 i))) + d) % 1024)) = i + 1 ∧ ∀ d', d' < d → ¬ (if (hsh (nI (ck (if i = T.1 then c else T.2.1 i))) + d') % 1024 = (hsh (nI (ck c)) + D) % 1024 then T.1 + 1 else S ((hsh (nI (ck (if i = T.1 then c else T.2.1 i))) + d') % 1024)) = 0
        by_cases ei : i = T.1
        · rw [if_pos ei]
          refine ⟨D, hDb, by rw [if_pos rfl, ei], fun d' hd' => ?_⟩
          split
          · omega
          · exact (hp.2.2.2 d' (by omega) hd').1
        · rw [if_neg ei]
          obtain ⟨d, d1, d2, d3⟩ := hH.2.1 i (by omega)
          refine ⟨d, d1, ?_, fun d' hd' => ?_⟩
          · rw [if_neg (fun q => by rw [q, z] at d2; omega)]; exact d2
          · split
            · omega
            · exact d3 d' hd'
      · show cnt (fun j => decide (¬ (if j = (hsh (nI (ck c)) + D) % 1024 then T.1 + 1 else S j) = 0)) 1024 = T.1 + 1
        have hcs := cnt_set (P := fun j => decide (¬ S j = 0)) (P' := fun j => decide (¬ (if j = (hsh (nI (ck c)) + D) % 1024 then T.1 + 1 else S j) = 0)) (n := 1024) (i := (hsh (nI (ck c)) + D) % 1024) (by omega) (by simp [z]) (by simp) (fun j hj => by simp [hj])
        rw [hcs, hH.2.2]
      · rw [gM_sM, if_pos rfl]
        show _ = nI (if j = (hsh (nI (ck c)) + D) % 1024 then T.1 + 1 else S j)
        by_cases ej : j = (hsh (nI (ck c)) + D) % 1024
        · rw [if_pos ej, if_pos ej]
        · rw [if_neg ej, if_neg ej, gM_o (by omega)]
          show gM (sM s (41 + 4 * k) T.1 (nI (ck c))) (43 + 4 * k) j = _
          rw [gM_o (by omega)]; exact h3 j hj
      · rw [gM_o (by omega), gM_o (by omega)]
        show gM (sM s (41 + 4 * k) T.1 (nI (ck c))) x = _
        exact gM_o (by omega)
      · exact gJ_o (c0 := 42 + 4 * k) hx
  · -- found
    have ek : ck (T.2.1 (S ((hsh (nI (ck c)) + D) % 1024) - 1)) = ck c := by
      rcases hp.2.2.1 with q | q
      · exact absurd q z
      · exact q
    have ec : T.2.1 (S ((hsh (nI (ck c)) + D) % 1024) - 1) = c := ck_inj hn (hV.2.1 _ (by omega)) hc ek
    have hf : fnd T.2.1 c T.1 0 = S ((hsh (nI (ck c)) + D) % 1024) - 1 := by
      rcases Nat.lt_or_ge (fnd T.2.1 c T.1 0) T.1 with q | q
      · exact hV.2.2 _ _ q (by omega) ((hfb.2.2.1 (by omega)).trans ec.symm)
      · exact absurd ec (hfb.2.2.2 _ (by omega) (by omega))
    have hi : S ((hsh (nI (ck c)) + D) % 1024) - 1 < T.1 := by omega
    have e2 := h2 _ hi
    have g6 : gIn (nI (S ((hsh (nI (ck c)) + D) % 1024) - 1)) 600 = true := gIn_t (by omega) (by omega)
    have hk2 := hck _ hi
    refine Or.inr ⟨_, sJ s (42 + 4 * k) (S ((hsh (nI (ck c)) + D) % 1024) - 1) (lN (T.2.2 (S ((hsh (nI (ck c)) + D) % 1024) - 1) + w)), if_pos (by rw [hf]; exact hi), ?_, ⟨h1, fun i hi => ⟨(h2 i hi).1, ?_⟩, S, hH, h3⟩, ⟨rfl, fun _ _ => rfl, fun x hx => gJ_o hx⟩⟩
    · rw [if_neg (nI_ne0 (by omega) (by omega)), if_pos gq, show nI (S ((hsh (nI (ck c)) + D) % 1024)) - (1 : Int32) = nI (S ((hsh (nI (ck c)) + D) % 1024) - 1) from pk_sub (b := 1) (by omega), if_neg (nI_pos (by omega)), h1, if_neg (nI_ge (by omega) (by omega)), if_pos g6, ix_nI (by omega), e2.1, if_pos (by rw [ek]), if_pos g6, if_pos g6, e2.2, lN_add, lq_e]
    · show gJ (sJ s (42 + 4 * k) (S ((hsh (nI (ck c)) + D) % 1024) - 1) _) (42 + 4 * k) i = lN (if i = fnd T.2.1 c T.1 0 then T.2.2 i + w else T.2.2 i)
      rw [gJ_sJ, if_pos rfl, hf]
      by_cases ei : i = S ((hsh (nI (ck c)) + D) % 1024) - 1
      · rw [if_pos ei, if_pos ei, ei]
      · rw [if_neg ei, if_neg ei]; exact (h2 i hi).2
theorem X_tclear (k : Nat) (s : XS) : ∃ s', p_Tally_clear k s = some s' ∧ TXk k (0, fun _ => 0, fun _ => 0) s' ∧ FT k s s' ∧ gJ s' = gJ s := by
  obtain ⟨s', f1, f2, f3, f4, f5⟩ := fill_gen (43 + 4 * k) 1024 (by omega) 0 (p_fill_tslots_B5 k 0 1024) some (fun c i s => rfl) (sM s (40 + 4 * k) 3 0)
  refine ⟨s', ?_, ⟨?_, fun i hi => absurd hi (Nat.not_lt_zero i), fun _ => 0, ⟨fun _ _ => Nat.zero_le _, fun i hi => absurd hi (Nat.not_lt_zero i), ?_⟩, fun j hj => f5 j hj⟩, ⟨f2, fun c hc => ?_, fun c _ => by rw [f3]; rfl⟩, f3⟩
  · unfold p_Tally_clear p_fill_tslots
    rw [lq_e, f1, bind1_s]
  · rw [f4 _ (by omega), gM_sM, if_pos rfl, if_pos rfl]; rfl
  · have : ∀ n, cnt (fun j => decide (¬ (fun _ : Nat => 0) j = 0)) n = 0 := by
      intro n
      induction n with
      | zero => rfl
      | succ n ih => show cnt _ n + _ = 0; rw [ih]; rfl
    exact this 1024
  · rw [f4 c (by omega), gM_o (by omega)]
