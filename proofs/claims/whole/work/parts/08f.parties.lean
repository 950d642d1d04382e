/-! A CHOICE BY PARTIES -/
def inc (g : Nat → Nat) (p : Nat) : Nat → Nat := fun q => if q = p then g q + 1 else g q
def cfi (pr pa : Nat → Nat) (en : Nat → Bool) (N : Nat) : Nat → Nat → (Nat → Nat) → Nat → Option ((Nat → Nat) × Nat)
  | 0, _, _, _ => none
  | m + 1, i, g, k => if pr i = 1 ∧ en (pa i) = true then (if k + 1 = N then some (inc g (pa i), i) else cfi pr pa en N m (i + 1) (inc g (pa i)) (k + 1)) else cfi pr pa en N m (i + 1) g k
def cfl (pa : Nat → Nat) (en : Nat → Bool) (N : Nat) : List Nat → (Nat → Nat) → Nat → Option ((Nat → Nat) × Nat)
  | [], _, _ => none
  | c :: cs, g, k => if en (pa c) = true then (if k + 1 = N then some (inc g (pa c), c) else cfl pa en N cs (inc g (pa c)) (k + 1)) else cfl pa en N cs g k
theorem cfl_cfi (pr pa : Nat → Nat) (en : Nat → Bool) (N : Nat) : ∀ (m i : Nat) (g : Nat → Nat) (k : Nat), cfl pa en N ((List.range' i m).filter (fun x => pr x == 1)) g k = cfi pr pa en N m i g k := by
  intro m
  induction m with
  | zero => intro i g k; rfl
  | succ m ih =>
    intro i g k
    rw [List.range'_succ, List.filter_cons]
    unfold cfi
    by_cases e : pr i = 1
    · rw [if_pos (by simp [e])]
      unfold cfl
      by_cases e2 : en (pa i) = true
      · rw [if_pos e2, if_pos (show pr i = 1 ∧ en (pa i) = true from ⟨e, e2⟩), ih]
      · rw [if_neg e2, if_neg (fun z => e2 z.2), ih]
    · rw [if_neg (by simpa using e), if_neg (fun z => e z.1), ih]
theorem cfl_sel (pr pa : Nat → Nat) (en : Nat → Bool) (N n : Nat) (g : Nat → Nat) (k : Nat) : cfl pa en N (sel pr n) g k = cfi pr pa en N n 0 g k := by
  unfold sel
  rw [List.range_eq_range']
  exact cfl_cfi pr pa en N n 0 g k
def s4 (g : Nat → Nat) : Nat := g 0 + g 1 + g 2 + g 3
theorem s4_inc (g : Nat → Nat) {p : Nat} (hp : p < 4) : s4 (inc g p) = s4 g + 1 := by
  unfold s4 inc
  rcases (show p = 0 ∨ p = 1 ∨ p = 2 ∨ p = 3 by omega) with e | e | e | e <;> subst e <;> simp <;> omega
theorem cd_inc (g : Nat → Nat) {p : Nat} (hp : p < 4) : cd4 (inc g p 0) (inc g p 1) (inc g p 2) (inc g p 3) = cd4 (g 0) (g 1) (g 2) (g 3) + 64 ^ p := by
  unfold cd4 inc
  rcases (show p = 0 ∨ p = 1 ∨ p = 2 ∨ p = 3 by omega) with e | e | e | e <;> subst e <;> simp <;> omega
theorem cfi_sum {pr pa : Nat → Nat} {en : Nat → Bool} {N : Nat} : ∀ (m i : Nat) (g : Nat → Nat) (k : Nat) (g' : Nat → Nat) (c : Nat), (∀ x, x < i + m → pa x < 4) → s4 g = k → cfi pr pa en N m i g k = some (g', c) → s4 g' = N ∧ c < i + m := by
  intro m
  induction m with
  | zero => intro i g k g' c hp hk e; cases e
  | succ m ih =>
    intro i g k g' c hp hk e
    unfold cfi at e
    by_cases e1 : pr i = 1 ∧ en (pa i) = true
    · rw [if_pos e1] at e
      have hs := s4_inc g (hp i (by omega))
      by_cases e2 : k + 1 = N
      · rw [if_pos e2] at e
        cases e
        exact ⟨by omega, by omega⟩
      · rw [if_neg e2] at e
        have := ih (i + 1) _ (k + 1) g' c (fun x hx => hp x (by omega)) (by omega) e
        exact ⟨this.1, by omega⟩
    · rw [if_neg e1] at e
      have := ih (i + 1) g k g' c (fun x hx => hp x (by omega)) hk e
      exact ⟨this.1, by omega⟩
def vo (ye h : Nat → Nat) (p : Nat) : Nat := sm (fun u => ye (u * 4 + p) * h u) 4
theorem vo_e (ye h : Nat → Nat) (p : Nat) : vo ye h p = sm (fun u => ye (u * 4 + p) * h u) 4 := by unfold vo; rfl
theorem lo2_1 {A B R : Type} (f : (A → B → Option R) → A → B → Option R) (n : Nat) (a : A) (b : B) : lo2 f (n + 1) a b = f (lo2 f n) a b := rfl
theorem sm_le {f : Nat → Nat} {B : Nat} : ∀ {n : Nat}, (∀ i, i < n → f i ≤ B) → sm f n ≤ n * B
  | 0, _ => Nat.zero_le _
  | n + 1, h => by
    show sm f n + f n ≤ (n + 1) * B
    have h1 := sm_le (n := n) (fun i hi => h i (by omega))
    have h2 := h n (by omega)
    rw [Nat.succ_mul]; omega
theorem vo_b {ye h : Nat → Nat} {p m : Nat} (hy : ∀ i, i < 16 → ye i < 2) (hh : ∀ q, q < 4 → h q ≤ 40) (hp : p < 4) (hm : m ≤ 4) : sm (fun u => ye (u * 4 + p) * h u) m ≤ 160 := by
  have h1 := sm_le (f := fun u => ye (u * 4 + p) * h u) (B := 40) (n := m) (fun u hu => by
    have a := hy (u * 4 + p) (by omega)
    have b := hh u (by omega)
    have := Nat.mul_le_mul (show ye (u * 4 + p) ≤ 1 by omega) b
    show ye (u * 4 + p) * h u ≤ 40
    omega)
  omega
/-! the class -/
def F34 (s s' : XS) : Prop := gG s' = gG s ∧ gJ s' = gJ s ∧ ∀ c, ¬ c = 34 → gM s' c = gM s c
theorem X_enough1 {ye h : Nat → Nat} {V : Nat} {s0 : XS} (hy : ∀ i, i < 16 → ye i < 2) (hh : ∀ q, q < 4 → h q ≤ 40) (hV : V ≤ 40) (h37 : ∀ i, i < 16 → gM s0 37 i = nI (ye i)) (h32 : ∀ q, q < 4 → gM s0 32 q = nI (h q)) (s : XS) (p : Nat) (c2 : Int32 → XS → Option XS) (hF : F34 s0 s) (hp : p < 4) : lo2 (p_Odds_findEnough_B12 (nI V) (nI p) s c2) fuelN 0 0 = c2 (nI (p + 1)) (sM s 34 p (nI (if V ≤ vo ye h p then 1 else 0))) := by
  have v1 : vp_nar .boolean (1 : Int32) = nI 1 := vp_b (t := 1) (by omega)
  have v0 : vp_nar .boolean (0 : Int32) = nI 0 := vp_b (t := 0) (by omega)
  have key : ∀ (m u f : Nat), u + m = 4 → m < f → lo2 (p_Odds_findEnough_B12 (nI V) (nI p) s c2) f (nI (sm (fun u => ye (u * 4 + p) * h u) u)) (nI u) = c2 (nI (p + 1)) (sM s 34 p (nI (if V ≤ vo ye h p then 1 else 0))) := by
    intro m
    induction m with
    | zero =>
      intro u f hi hf
      obtain ⟨f, rfl⟩ : ∃ g, f = g + 1 := ⟨f - 1, by omega⟩
      have eu : u = 4 := by omega
      subst eu
      have hb := vo_b (m := 4) hy hh hp (by omega)
      rw [← vo_e] at hb ⊢
      rw [lo2_1]
      unfold p_Odds_findEnough_B12
      rw [if_pos (show (4 : Int32) ≤ nI 4 by decide), if_pos (gIn_t hp (by omega)), ix_nI (by omega), nI_1, lq_e, lq_e]
      by_cases e : V ≤ vo ye h p
      · rw [if_neg (nI_nlt e (by omega)), if_pos (gIn_t hp (by omega)), if_pos e, v1]
      · rw [if_pos (nI_lt (by omega) (by omega)), if_neg e, v0]
    | succ m ih =>
      intro u f hi hf
      obtain ⟨f, rfl⟩ : ∃ g, f = g + 1 := ⟨f - 1, by omega⟩
      have ih := ih (u + 1) f (by omega) (by omega)
      show p_Odds_findEnough_B12 _ _ _ _ (lo2 (p_Odds_findEnough_B12 (nI V) (nI p) s c2) f) _ (nI u) = _
      generalize lo2 (p_Odds_findEnough_B12 (nI V) (nI p) s c2) f = K at ih ⊢
      unfold p_Odds_findEnough_B12
      rw [if_neg (show ¬ (4 : Int32) ≤ nI u from nI_ge (b := 4) (by omega) (by omega)), show nI u * (4 : Int32) + nI p = nI (u * 4 + p) by rw [show (4 : Int32) = nI 4 from rfl, pk_mul, nI_add], if_pos (gIn_t (show u * 4 + p < 16 by omega) (by omega)), if_pos (gIn_t (show u < 4 by omega) (by omega)), ix_nI (by omega), ix_nI (by omega), hF.2.2 37 (by omega), hF.2.2 32 (by omega), h37 _ (by omega), h32 u (by omega), pk_mul, nI_add, nI_1]
      exact ih
  exact key 4 0 fuelN (by omega) (by unfold fuelN; omega)
theorem X_enough {ye h : Nat → Nat} {V : Nat} {s0 : XS} (hy : ∀ i, i < 16 → ye i < 2) (hh : ∀ q, q < 4 → h q ≤ 40) (hV : V ≤ 40) (h37 : ∀ i, i < 16 → gM s0 37 i = nI (ye i)) (h32 : ∀ q, q < 4 → gM s0 32 q = nI (h q)) : ∃ s', p_Odds_findEnough (nI V) s0 = some s' ∧ F34 s0 s' ∧ ∀ p, p < 4 → gM s' 34 p = nI (if V ≤ vo ye h p then 1 else 0) := by
  have key : ∀ (m p f : Nat) (s : XS), p + m = 4 → m < f → F34 s0 s → (∀ q, q < p → gM s 34 q = nI (if V ≤ vo ye h q then 1 else 0)) → ∃ s', lo2 (p_Odds_findEnough_B2 (nI V)) f (nI p) s = some s' ∧ F34 s0 s' ∧ ∀ p, p < 4 → gM s' 34 p = nI (if V ≤ vo ye h p then 1 else 0) := by
    intro m
    induction m with
    | zero =>
      intro p f s hi hf hF hq
      obtain ⟨f, rfl⟩ : ∃ g, f = g + 1 := ⟨f - 1, by omega⟩
      refine ⟨s, ?_, hF, fun q h => hq q (by omega)⟩
      show p_Odds_findEnough_B2 _ _ (nI p) s = _
      unfold p_Odds_findEnough_B2
      rw [if_pos (show (4 : Int32) ≤ nI p from nI_le (a := 4) (by omega) (by omega))]
    | succ m ih =>
      intro p f s hi hf hF hq
      obtain ⟨f, rfl⟩ : ∃ g, f = g + 1 := ⟨f - 1, by omega⟩
      have ih := ih (p + 1) f (sM s 34 p (nI (if V ≤ vo ye h p then 1 else 0))) (by omega) (by omega) ⟨hF.1, hF.2.1, fun c hc => (gM_o hc).trans (hF.2.2 c hc)⟩ (fun q hq2 => by
        rw [gM_sM, if_pos rfl]
        by_cases e : q = p
        · rw [if_pos e, e]
        · rw [if_neg e]; exact hq q (by omega))
      show ∃ s', p_Odds_findEnough_B2 (nI V) (lo2 (p_Odds_findEnough_B2 (nI V)) f) (nI p) s = _ ∧ _
      generalize lo2 (p_Odds_findEnough_B2 (nI V)) f = K at ih ⊢
      unfold p_Odds_findEnough_B2
      rw [if_neg (show ¬ (4 : Int32) ≤ nI p from nI_ge (b := 4) (by omega) (by omega))]
      have h1 := X_enough1 hy hh hV h37 h32 s p K hF (by omega)
      rw [h1]
      exact ih
  exact key 4 0 fuelN s0 (by omega) (by unfold fuelN; omega) ⟨rfl, rfl, fun _ _ => rfl⟩ (fun q hq => absurd hq (Nat.not_lt_zero q))
theorem drop_cons {S : List Nat} {j : Nat} (h : j < S.length) : S.drop j = S.getD j 0 :: S.drop (j + 1) := by
  rw [List.drop_eq_getElem_cons h, List.getD_eq_getElem?_getD, List.getElem?_eq_getElem h]; rfl
def F33 (s s' : XS) : Prop := gG s' = gG s ∧ gJ s' = gJ s ∧ ∀ c, ¬ c = 33 → gM s' c = gM s c
def cI : Option ((Nat → Nat) × Nat) → Int32
  | none => -1
  | some x => nI x.2
theorem X_first {pa : Nat → Nat} {en : Nat → Bool} {N : Nat} {S : List Nat} {s0 : XS} (hN1 : 1 ≤ N) (hN : N ≤ 40) (hS : S.length ≤ 40) (hpa : ∀ x ∈ S, pa x < 4) (h29 : gM s0 29 10 = nI S.length) (h35 : ∀ j, j < S.length → gM s0 35 j = nI (S.getD j 0)) (h36 : ∀ j, j < S.length → gM s0 36 j = nI (pa (S.getD j 0))) (h34 : ∀ p, p < 4 → gM s0 34 p = nI (if en p then 1 else 0)) : ∃ s', p_Odds_chooseFirst (nI N) s0 = some (cI (cfl pa en N S (fun _ => 0) 0), s') ∧ F33 s0 s' ∧ ∀ g' c, cfl pa en N S (fun _ => 0) 0 = some (g', c) → ∀ q, q < 4 → gM s' 33 q = nI (g' q) := by
  obtain ⟨s1, f1, f2, f3, f4, f5⟩ := fill_gen 33 4 (by omega) 0 (p_fill_ogets_B5 0 4) some (fun c i s => rfl) s0
  have key : ∀ (m j k f : Nat) (g : Nat → Nat) (s : XS), j + m = S.length → m < f → k < N → F33 s0 s → (∀ q, q < 4 → gM s 33 q = nI (g q)) → ∃ s', lo3 (p_Odds_chooseFirst_B12 (nI N)) f (nI k) (nI j) s = some (cI (cfl pa en N (S.drop j) g k), s') ∧ F33 s0 s' ∧ ∀ g' c, cfl pa en N (S.drop j) g k = some (g', c) → ∀ q, q < 4 → gM s' 33 q = nI (g' q) := by
    intro m
    induction m with
    | zero =>
      intro j k f g s hi hf hk hF hg
      obtain ⟨f, rfl⟩ : ∃ g, f = g + 1 := ⟨f - 1, by omega⟩
      have ed : S.drop j = [] := List.drop_eq_nil_of_le (by omega)
      refine ⟨s, ?_, hF, fun g' c e => ?_⟩
      · show p_Odds_chooseFirst_B12 _ _ _ (nI j) s = _
        unfold p_Odds_chooseFirst_B12
        rw [hF.2.2 29 (by omega), h29, if_pos (nI_le (by omega) (by omega)), ed]; rfl
      · rw [ed] at e; cases e
    | succ m ih =>
      intro j k f g s hi hf hk hF hg
      obtain ⟨f, rfl⟩ : ∃ g, f = g + 1 := ⟨f - 1, by omega⟩
      have hj : j < S.length := by omega
      have hp4 : pa (S.getD j 0) < 4 := hpa _ (mem_getD hj)
      have ed := drop_cons hj
      have g40 : gIn (nI j) 40 = true := gIn_t (by omega) (by omega)
      have g4 : gIn (nI (pa (S.getD j 0))) 4 = true := gIn_t hp4 (by omega)
      have e34 := h34 _ hp4
      have e33 := hg _ hp4
      show ∃ s', p_Odds_chooseFirst_B12 (nI N) (lo3 (p_Odds_chooseFirst_B12 (nI N)) f) (nI k) (nI j) s = _ ∧ _
      have ih := fun k g s => ih (j + 1) k f g s (by omega) (by omega)
      generalize lo3 (p_Odds_chooseFirst_B12 (nI N)) f = K at ih ⊢
      rw [ed]
      unfold p_Odds_chooseFirst_B12 cfl
      rw [hF.2.2 29 (by omega), h29, if_neg (nI_ge (by omega) (by omega)), if_pos g40, ix_nI (by omega), hF.2.2 36 (by omega), h36 j hj, isParty_t hp4, bind1_s, if_neg one_ne, if_pos g4, ix_nI (by omega), hF.2.2 34 (by omega), e34, if_pos g4, if_pos g4, e33, nI_1, nI_1, lq_e]
      cases e : en (pa (S.getD j 0)) with
      | false =>
        rw [if_pos (show nI (if false = true then 1 else 0) = 0 by decide), if_neg (show ¬ false = true by decide)]
        exact ih k g s hk hF hg
      | true =>
        rw [if_neg (show ¬ nI (if true = true then 1 else 0) = 0 by decide), if_pos rfl]
        have hF2 : F33 s0 (sM s 33 (pa (S.getD j 0)) (nI (g (pa (S.getD j 0)) + 1))) := ⟨hF.1, hF.2.1, fun c hc => (gM_o hc).trans (hF.2.2 c hc)⟩
        have hg2 : ∀ q, q < 4 → gM (sM s 33 (pa (S.getD j 0)) (nI (g (pa (S.getD j 0)) + 1))) 33 q = nI (inc g (pa (S.getD j 0)) q) := fun q hq => by
          rw [gM_sM, if_pos rfl]
          unfold inc
          by_cases eq : q = pa (S.getD j 0)
          · rw [if_pos eq, if_pos eq, eq]
          · rw [if_neg eq, if_neg eq]; exact hg q hq
        by_cases e2 : k + 1 = N
        · rw [nI_1, if_neg (nI_nlt (by omega) (by omega)), if_pos g40, if_pos e2]
          refine ⟨_, ?_, hF2, fun g' c ee q hq => ?_⟩
          · rw [gM_o (by omega), hF.2.2 35 (by omega), h35 j hj]; rfl
          · cases ee; exact hg2 q hq
        · rw [nI_1, if_pos (nI_lt (by omega) (by omega)), if_neg e2]
          exact ih (k + 1) _ _ (by omega) hF2 hg2
  have h := key S.length 0 0 fuelN (fun _ => 0) s1 (by omega) (by unfold fuelN; omega) (by omega) ⟨f2, f3, f4⟩ (fun q hq => f5 q hq)
  rw [List.drop_zero] at h
  obtain ⟨s', h1, h2, h3⟩ := h
  refine ⟨s', ?_, h2, h3⟩
  unfold p_Odds_chooseFirst p_fill_ogets
  rw [f1, bind1_s]
  exact h1
/-! the reference -/
theorem Y_votesBy {ye h : Nat → Nat} {t : XS} {p : Nat} (hh : ∀ q, q < 4 → h q ≤ 40) (hy : ∀ i, i < 16 → ye i < 2) (h5 : ∀ i, i < 16 → gM t 5 i = nI (ye i)) (hp : p < 4) : p_Model_votesBy (nI (cd4 (h 0) (h 1) (h 2) (h 3))) (nI p) t = some (nI (vo ye h p)) := by
  have hpp := Y_parts (a := h 0) (b := h 1) (c := h 2) (d := h 3) (hh 0 (by omega)) (hh 1 (by omega)) (hh 2 (by omega)) (hh 3 (by omega))
  have hpt : ∀ u, u < 4 → p_Model_partOf (nI (cd4 (h 0) (h 1) (h 2) (h 3))) (nI u) = some (nI (h u)) := by
    intro u hu
    rcases (show u = 0 ∨ u = 1 ∨ u = 2 ∨ u = 3 by omega) with e | e | e | e <;> subst e
    · exact hpp.1
    · exact hpp.2.1
    · exact hpp.2.2.1
    · exact hpp.2.2.2
  have key : ∀ (m u f : Nat), u + m = 4 → m < f → lo2 (p_Model_votesBy_B5 (nI (cd4 (h 0) (h 1) (h 2) (h 3))) (nI p) t) f (nI (sm (fun u => ye (u * 4 + p) * h u) u)) (nI u) = some (nI (vo ye h p)) := by
    intro m
    induction m with
    | zero =>
      intro u f hi hf
      obtain ⟨f, rfl⟩ : ∃ g, f = g + 1 := ⟨f - 1, by omega⟩
      have eu : u = 4 := by omega
      subst eu
      show p_Model_votesBy_B5 _ _ _ _ _ (nI 4) = _
      unfold p_Model_votesBy_B5
      rw [if_pos (show (4 : Int32) ≤ nI 4 by decide)]; rfl
    | succ m ih =>
      intro u f hi hf
      obtain ⟨f, rfl⟩ : ∃ g, f = g + 1 := ⟨f - 1, by omega⟩
      have ih := ih (u + 1) f (by omega) (by omega)
      have hyu := hy (u * 4 + p) (by omega)
      have es : sm (fun u => ye (u * 4 + p) * h u) (u + 1) = sm (fun u => ye (u * 4 + p) * h u) u + ye (u * 4 + p) * h u := rfl
      show p_Model_votesBy_B5 _ _ _ (lo2 (p_Model_votesBy_B5 (nI (cd4 (h 0) (h 1) (h 2) (h 3))) (nI p) t) f) _ (nI u) = _
      generalize lo2 (p_Model_votesBy_B5 (nI (cd4 (h 0) (h 1) (h 2) (h 3))) (nI p) t) f = K at ih ⊢
      unfold p_Model_votesBy_B5
      rw [if_neg (show ¬ (4 : Int32) ≤ nI u from nI_ge (b := 4) (by omega) (by omega)), show (4 : Int32) * nI u + nI p = nI (u * 4 + p) by rw [show (4 : Int32) = nI 4 from rfl, pk_mul, nI_add, Nat.mul_comm], if_pos (gIn_t (show u * 4 + p < 16 by omega) (by omega)), ix_nI (by omega), h5 _ (by omega), hpt u (by omega), bind1_s, nI_1, nI_add, show (0 : Int32) = nI 0 from rfl, nI_add]
      rcases (show ye (u * 4 + p) = 0 ∨ ye (u * 4 + p) = 1 by omega) with e | e
      · rw [e, Nat.zero_mul] at es
        rw [es] at ih
        rw [e, if_pos rfl]; exact ih
      · rw [e, Nat.one_mul] at es
        rw [es] at ih
        rw [e, if_neg (show ¬ nI 1 = nI 0 by decide)]; exact ih
  exact key 4 0 fuelN (by omega) (by unfold fuelN; omega)
theorem sh6 : ∀ p, p < 4 → (1 : Int32) <<< (((6 : Int32) * nI p) &&& 31) = nI (64 ^ p) := by decide +kernel
def F49 (t t' : XS) : Prop := gJ t' = gJ t ∧ (∀ c, ¬ c = 0 → gM t' c = gM t c) ∧ ∀ j, ¬ j = 49 → gM t' 0 j = gM t 0 j
def cC : Option ((Nat → Nat) × Nat) → Int32
  | none => -1
  | some x => nI (cd4 (x.1 0) (x.1 1) (x.1 2) (x.1 3))
theorem Y_chosenBy {n : Nat} {ho pa pr ye : Nat → Nat} {ki : Nat → Nat → Bool} {np : Nat} {h : Nat → Nat} {N V st : Nat} {t0 : XS} (hY : YC t0 n ho pa pr ye ki np) (hc : CC n ho pa pr ye ki np) (hh : ∀ q, q < 4 → h q ≤ 40) (hst : st < 12) (h8 : gM t0 8 st = nI N) (h9 : gM t0 9 st = nI V) (hN1 : 1 ≤ N) (hN : N ≤ 40) (hV : V ≤ 40) : ∃ t', p_Model_chosenBy (nI (cd4 (h 0) (h 1) (h 2) (h 3))) (nI st) t0 = some (cC (cfi pr pa (fun p => decide (V ≤ vo ye h p)) N n 0 (fun _ => 0) 0), t') ∧ F49 t0 t' ∧ ∀ g' c, cfi pr pa (fun p => decide (V ≤ vo ye h p)) N n 0 (fun _ => 0) 0 = some (g', c) → gM t' 0 49 = nI c := by
  have hn := hc.1
  have g12 : gIn (nI st) 12 = true := gIn_t hst (by omega)
  have key : ∀ (m i k f : Nat) (g : Nat → Nat) (t : XS), i + m = n → m + 1 < f → k < N → s4 g = k → F49 t0 t → ∃ t', lo4 (p_Model_chosenBy_B8 (nI (cd4 (h 0) (h 1) (h 2) (h 3))) (nI st)) f (nI k) (nI (cd4 (g 0) (g 1) (g 2) (g 3))) (nI i) t = some (cC (cfi pr pa (fun p => decide (V ≤ vo ye h p)) N m i g k), t') ∧ F49 t0 t' ∧ ∀ g' c, cfi pr pa (fun p => decide (V ≤ vo ye h p)) N m i g k = some (g', c) → gM t' 0 49 = nI c := by
    intro m
    induction m with
    | zero =>
      intro i k f g t hi hf hk hs hF
      obtain ⟨f, rfl⟩ : ∃ g, f = g + 1 := ⟨f - 1, by omega⟩
      refine ⟨t, ?_, hF, fun g' c e => by cases e⟩
      show p_Model_chosenBy_B8 _ _ _ _ _ (nI i) t = _
      unfold p_Model_chosenBy_B8 p_Model_chosenBy_K93
      rw [hF.2.2 0 (by omega), hY.1, if_pos (nI_le (by omega) (by omega)), if_pos g12, hF.2.1 8 (by omega), ix_nI (by omega), h8, if_neg (fun z => by have := (nI_eq (by omega) (by omega)).mp z; omega)]; rfl
    | succ m ih =>
      intro i k f g t hi hf hk hs hF
      obtain ⟨f, rfl⟩ : ∃ g, f = g + 1 := ⟨f - 1, by omega⟩
      have ih := fun k g t => ih (i + 1) k f g t (by omega) (by omega)
      have hpi := hc.2.2.1 i (by omega)
      have hYi := hY.2.2.1 i (by omega)
      have hvb : vo ye h (pa i) ≤ 160 := vo_b (m := 4) hc.2.2.2.1 hh hpi.2.1 (by omega)
      have hv := Y_votesBy (t := t) (p := pa i) hh hc.2.2.2.1 (fun x hx => by rw [hF.2.1 5 (by omega)]; exact hY.2.2.2.1 x hx) hpi.2.1
      have g40 : gIn (nI i) 40 = true := gIn_t (by omega) (by omega)
      show ∃ t', p_Model_chosenBy_B8 _ _ (lo4 (p_Model_chosenBy_B8 (nI (cd4 (h 0) (h 1) (h 2) (h 3))) (nI st)) f) _ _ (nI i) t = _ ∧ _
      have hend : ∀ (u : XS) (to : Int32), F49 t0 u → lo4 (p_Model_chosenBy_B8 (nI (cd4 (h 0) (h 1) (h 2) (h 3))) (nI st)) f (nI N) to (nI (i + 1)) u = some (to, u) := by
        intro u to hFu
        obtain ⟨f', rfl⟩ : ∃ g, f = g + 1 := ⟨f - 1, by omega⟩
        show p_Model_chosenBy_B8 _ _ _ _ _ (nI (i + 1)) u = _
        unfold p_Model_chosenBy_B8 p_Model_chosenBy_K93
        rw [hFu.2.1 8 (by omega), ix_nI (by omega), h8, if_pos g12, if_pos (nI_le (Nat.le_refl N) (by omega)), if_pos rfl, if_pos g12, ite_self]
      generalize lo4 (p_Model_chosenBy_B8 (nI (cd4 (h 0) (h 1) (h 2) (h 3))) (nI st)) f = K at ih hend ⊢
      unfold p_Model_chosenBy_B8 cfi
      rw [hF.2.2 0 (by omega), hY.1, if_neg (nI_ge (by omega) (by omega)), if_pos g12, hF.2.1 8 (by omega), ix_nI (by omega), h8, if_neg (nI_ge hk (by omega)), if_pos g40, ix_nI (by omega), hF.2.1 3 (by omega), hF.2.1 2 (by omega), hYi.2.2, hYi.2.1, if_pos g40, hv, bind1_s, if_pos g12, hF.2.1 9 (by omega), h9, if_pos g40, lq_e, nI_1, nI_1, sh6 _ hpi.2.1, nI_add, ← cd_inc g hpi.2.1]
      by_cases e1 : pr i = 1
      · rw [e1, if_neg (show ¬ nI 1 = 0 by decide)]
        by_cases e2 : V ≤ vo ye h (pa i)
        · rw [if_pos (nI_le e2 (by omega)), if_pos ⟨rfl, decide_eq_true e2⟩]
          have hF2 : F49 t0 (sM t 0 49 (nI i)) := ⟨hF.1, fun c hc => (gM_o hc).trans (hF.2.1 c hc), fun j hj => by rw [gM_sM, if_pos rfl, if_neg hj]; exact hF.2.2 j hj⟩
          by_cases e3 : k + 1 = N
          · rw [if_pos e3, e3, hend _ _ hF2]
            exact ⟨_, rfl, hF2, fun g' c ee => by cases ee; rfl⟩
          · rw [if_neg e3]
            exact ih (k + 1) (inc g (pa i)) _ (by omega) (by rw [s4_inc g hpi.2.1]; omega) hF2
        · rw [if_neg (nI_ge (by omega) (by omega)), if_neg (fun z => e2 (of_decide_eq_true z.2))]
          exact ih k g t hk hs hF
      · have e0 : pr i = 0 := by omega
        rw [if_neg (show ¬ (pr i = 1 ∧ decide (V ≤ vo ye h (pa i)) = true) from fun z => e1 z.1), e0, if_pos (show nI 0 = 0 from rfl)]
        exact ih k g t hk hs hF
  exact key n 0 0 fuelN (fun _ => 0) t0 (by omega) (by unfold fuelN; omega) (by omega) rfl ⟨rfl, fun _ _ => rfl, fun _ _ => rfl⟩
