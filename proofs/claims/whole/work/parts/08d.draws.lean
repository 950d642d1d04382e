/-! ALL SETS OF A DRAW: by three loops, into a tally -/
def mn (a b : Nat) : Nat := if a < b then a else b
theorem mn_c (a b : Nat) : (a < b ∧ mn a b = a) ∨ (b ≤ a ∧ mn a b = b) := by
  unfold mn
  by_cases h : a < b
  · exact Or.inl ⟨h, if_pos h⟩
  · exact Or.inr ⟨by omega, if_neg h⟩
theorem mn_I {a b : Nat} (ha : a < 2 ^ 31) (hb : b < 2 ^ 31) : (if nI a < nI b then nI a else nI b) = nI (mn a b) := by
  unfold mn
  by_cases h : a < b
  · rw [if_pos (nI_lt h hb), if_pos h]
  · rw [if_neg (nI_nlt (by omega) ha), if_neg h]
theorem mx_I : ∀ n, n < 41 → ∀ h, h < 41 → (if (0 : Int32) < nI n - nI h then nI n - nI h else (0 : Int32)) = nI (n - h) := by decide +kernel
theorem mx_J : ∀ n, n < 41 → ∀ h, h < 121 → (if (0 : Int32) < nI n - nI h then nI n - nI h else (0 : Int32)) = nI (n - h) := by decide +kernel
theorem mx_3 {n h r : Nat} (hn : n < 41) (hr : h + r < 121) : (if (0 : Int32) < nI n - nI h - nI r then nI n - nI h - nI r else (0 : Int32)) = nI (n - h - r) := by
  rw [Int32.sub_sub, nI_add, mx_J n hn (h + r) hr, Nat.sub_sub]
def cloop (a b h2 h3 n w : Nat) : Nat → Nat → TT → Option TT
  | 0, _, t => some t
  | m + 1, c, t => match tadd t (cd4 a b c (n - c)) (w * bin h2 c * bin h3 (n - c)) with
    | none => none
    | some t' => cloop a b h2 h3 n w m (c + 1) t'
def bloop (a h1 h2 h3 n w : Nat) : Nat → Nat → TT → Option TT
  | 0, _, t => some t
  | m + 1, b, t => match cloop a b h2 h3 (n - b) (w * bin h1 b) (mn (n - b) h2 + 1 - (n - b - h3)) (n - b - h3) t with
    | none => none
    | some t' => bloop a h1 h2 h3 n w m (b + 1) t'
def aloop (h0 h1 h2 h3 n w : Nat) : Nat → Nat → TT → Option TT
  | 0, _, t => some t
  | m + 1, a, t => match bloop a h1 h2 h3 (n - a) (w * bin h0 a) (mn (n - a) h1 + 1) 0 t with
    | none => none
    | some t' => aloop h0 h1 h2 h3 n w m (a + 1) t'
def adraw (h : Nat → Nat) (n w : Nat) (t : TT) : Option TT := aloop (h 0) (h 1) (h 2) (h 3) n w (mn n (h 0) + 1) 0 t
theorem sm_mono (f : Nat → Nat) {m n : Nat} (h : m ≤ n) : sm f m ≤ sm f n := by
  induction n with
  | zero => rw [show m = 0 by omega]; exact Nat.le_refl _
  | succ n ih =>
    rcases Nat.eq_or_lt_of_le h with e | e
    · rw [e]; exact Nat.le_refl _
    · have := ih (by omega)
      show sm f m ≤ sm f n + f n
      omega
theorem cloop_v {a b h2 h3 n' n w : Nat} (hn : a + b + n' = n) : ∀ (m c : Nat) (t t' : TT), c + m ≤ n' + 1 → VT n t → cloop a b h2 h3 n' w m c t = some t' → VT n t' ∧ tsum t' + w * sm (fun c => bin h2 c * bin h3 (n' - c)) c ≤ tsum t + w * sm (fun c => bin h2 c * bin h3 (n' - c)) (c + m) := by
  intro m
  induction m with
  | zero =>
    intro c t t' hc hV e
    cases e
    exact ⟨hV, Nat.le_refl _⟩
  | succ m ih =>
    intro c t t' hc hV e
    unfold cloop at e
    cases e1 : tadd t (cd4 a b c (n' - c)) (w * bin h2 c * bin h3 (n' - c)) with
    | none => rw [e1] at e; cases e
    | some t1 =>
      rw [e1] at e
      have v1 := tadd_v hV ⟨a, b, c, n' - c, by omega, rfl⟩ e1
      have v2 := ih (c + 1) t1 t' (by omega) v1.1 e
      refine ⟨v2.1, ?_⟩
      have e2 : w * sm (fun c => bin h2 c * bin h3 (n' - c)) (c + 1) = w * sm (fun c => bin h2 c * bin h3 (n' - c)) c + w * bin h2 c * bin h3 (n' - c) := by
        show w * (sm (fun c => bin h2 c * bin h3 (n' - c)) c + bin h2 c * bin h3 (n' - c)) = _
        rw [Nat.mul_add, Nat.mul_assoc]
      have e3 := v2.2
      rw [e2, v1.2, show c + 1 + m = c + (m + 1) by omega] at e3
      omega
theorem cloop_s {a b h2 h3 n' n w : Nat} (hn : a + b + n' = n) {m c : Nat} {t t' : TT} (hc : c + m ≤ n' + 1) (hV : VT n t) (e : cloop a b h2 h3 n' w m c t = some t') : VT n t' ∧ tsum t' ≤ tsum t + w * bin (h2 + h3) n' := by
  have h := cloop_v hn m c t t' hc hV e
  have h2' := Nat.mul_le_mul_left w (sm_mono (fun c => bin h2 c * bin h3 (n' - c)) hc)
  rw [vand] at h2'
  exact ⟨h.1, by omega⟩
theorem bloop_v {a h1 h2 h3 n' n w : Nat} (hn : a + n' = n) : ∀ (m b : Nat) (t t' : TT), b + m ≤ n' + 1 → VT n t → bloop a h1 h2 h3 n' w m b t = some t' → VT n t' ∧ tsum t' + w * sm (fun b => bin h1 b * bin (h2 + h3) (n' - b)) b ≤ tsum t + w * sm (fun b => bin h1 b * bin (h2 + h3) (n' - b)) (b + m) := by
  intro m
  induction m with
  | zero =>
    intro c t t' hc hV e
    cases e
    exact ⟨hV, Nat.le_refl _⟩
  | succ m ih =>
    intro b t t' hc hV e
    unfold bloop at e
    cases e1 : cloop a b h2 h3 (n' - b) (w * bin h1 b) (mn (n' - b) h2 + 1 - (n' - b - h3)) (n' - b - h3) t with
    | none => rw [e1] at e; cases e
    | some t1 =>
      rw [e1] at e
      have hmn := mn_c (n' - b) h2
      have v1 := cloop_s (n := n) (by omega) (by omega) hV e1
      have v2 := ih (b + 1) t1 t' (by omega) v1.1 e
      refine ⟨v2.1, ?_⟩
      have e2 : w * sm (fun b => bin h1 b * bin (h2 + h3) (n' - b)) (b + 1) = w * sm (fun b => bin h1 b * bin (h2 + h3) (n' - b)) b + w * bin h1 b * bin (h2 + h3) (n' - b) := by
        show w * (sm (fun b => bin h1 b * bin (h2 + h3) (n' - b)) b + bin h1 b * bin (h2 + h3) (n' - b)) = _
        rw [Nat.mul_add, Nat.mul_assoc]
      have e3 := v2.2
      have e4 := v1.2
      rw [e2, show b + 1 + m = b + (m + 1) by omega] at e3
      omega
theorem bloop_s {a h1 h2 h3 n' n w : Nat} (hn : a + n' = n) {m b : Nat} {t t' : TT} (hc : b + m ≤ n' + 1) (hV : VT n t) (e : bloop a h1 h2 h3 n' w m b t = some t') : VT n t' ∧ tsum t' ≤ tsum t + w * bin (h1 + (h2 + h3)) n' := by
  have h := bloop_v hn m b t t' hc hV e
  have h2' := Nat.mul_le_mul_left w (sm_mono (fun b => bin h1 b * bin (h2 + h3) (n' - b)) hc)
  rw [vand] at h2'
  exact ⟨h.1, by omega⟩
theorem aloop_v {h0 h1 h2 h3 n w : Nat} : ∀ (m a : Nat) (t t' : TT), a + m ≤ n + 1 → VT n t → aloop h0 h1 h2 h3 n w m a t = some t' → VT n t' ∧ tsum t' + w * sm (fun a => bin h0 a * bin (h1 + (h2 + h3)) (n - a)) a ≤ tsum t + w * sm (fun a => bin h0 a * bin (h1 + (h2 + h3)) (n - a)) (a + m) := by
  intro m
  induction m with
  | zero =>
    intro c t t' hc hV e
    cases e
    exact ⟨hV, Nat.le_refl _⟩
  | succ m ih =>
    intro a t t' hc hV e
    unfold aloop at e
    cases e1 : bloop a h1 h2 h3 (n - a) (w * bin h0 a) (mn (n - a) h1 + 1) 0 t with
    | none => rw [e1] at e; cases e
    | some t1 =>
      rw [e1] at e
      have hmn := mn_c (n - a) h1
      have v1 := bloop_s (n := n) (by omega) (by omega) hV e1
      have v2 := ih (a + 1) t1 t' (by omega) v1.1 e
      refine ⟨v2.1, ?_⟩
      have e2 : w * sm (fun a => bin h0 a * bin (h1 + (h2 + h3)) (n - a)) (a + 1) = w * sm (fun a => bin h0 a * bin (h1 + (h2 + h3)) (n - a)) a + w * bin h0 a * bin (h1 + (h2 + h3)) (n - a) := by
        show w * (sm (fun a => bin h0 a * bin (h1 + (h2 + h3)) (n - a)) a + bin h0 a * bin (h1 + (h2 + h3)) (n - a)) = _
        rw [Nat.mul_add, Nat.mul_assoc]
      have e3 := v2.2
      have e4 := v1.2
      rw [e2, show a + 1 + m = a + (m + 1) by omega] at e3
      omega
theorem adraw_s {h : Nat → Nat} {n w : Nat} {t t' : TT} (hV : VT n t) (e : adraw h n w t = some t') : VT n t' ∧ tsum t' ≤ tsum t + w * bin (h 0 + (h 1 + (h 2 + h 3))) n := by
  have hmn := mn_c n (h 0)
  have h1 := aloop_v _ _ t t' (by omega) hV e
  have h2' := Nat.mul_le_mul_left w (sm_mono (fun a => bin (h 0) a * bin (h 1 + (h 2 + h 3)) (n - a)) (show 0 + (mn n (h 0) + 1) ≤ n + 1 by omega))
  rw [vand] at h2'
  exact ⟨h1.1, by omega⟩
/-! sets that are not there: a loop may begin behind them -/
theorem bskip {a h1 h2 h3 n w : Nat} : ∀ (k b m : Nat) (t : TT), b + k + (h2 + h3) ≤ n → bloop a h1 h2 h3 n w m b t = bloop a h1 h2 h3 n w (m - k) (b + k) t := by
  intro k
  induction k with
  | zero => intro b m t _; rfl
  | succ k ih =>
    intro b m t hb
    cases m with
    | zero => rw [Nat.zero_sub]; rfl
    | succ m =>
      have hmn := mn_c (n - b) h2
      have e : bloop a h1 h2 h3 n w (m + 1) b t = bloop a h1 h2 h3 n w m (b + 1) t := by
        conv => lhs; unfold bloop
        rw [show mn (n - b) h2 + 1 - (n - b - h3) = 0 by omega]
        rfl
      rw [e, ih (b + 1) m t (by omega), show m + 1 - (k + 1) = m - k by omega, show b + 1 + k = b + (k + 1) by omega]
theorem bfrom (a h1 h2 h3 n w m : Nat) (t : TT) : bloop a h1 h2 h3 n w m 0 t = bloop a h1 h2 h3 n w (m - (n - (h2 + h3))) (n - (h2 + h3)) t := by
  by_cases h : h2 + h3 ≤ n
  · have := bskip (a := a) (h1 := h1) (w := w) (n - (h2 + h3)) 0 m t (show 0 + (n - (h2 + h3)) + (h2 + h3) ≤ n by omega)
    rw [Nat.zero_add] at this
    exact this
  · rw [show n - (h2 + h3) = 0 by omega]; rfl
theorem askip {h0 h1 h2 h3 n w : Nat} : ∀ (k a m : Nat) (t : TT), a + k + (h1 + (h2 + h3)) ≤ n → aloop h0 h1 h2 h3 n w m a t = aloop h0 h1 h2 h3 n w (m - k) (a + k) t := by
  intro k
  induction k with
  | zero => intro a m t _; rfl
  | succ k ih =>
    intro a m t ha
    cases m with
    | zero => rw [Nat.zero_sub]; rfl
    | succ m =>
      have hmn := mn_c (n - a) h1
      have e : aloop h0 h1 h2 h3 n w (m + 1) a t = aloop h0 h1 h2 h3 n w m (a + 1) t := by
        conv => lhs; unfold aloop
        rw [bskip (mn (n - a) h1 + 1) 0 (mn (n - a) h1 + 1) t (by omega), Nat.sub_self]
        rfl
      rw [e, ih (a + 1) m t (by omega), show m + 1 - (k + 1) = m - k by omega, show a + 1 + k = a + (k + 1) by omega]
theorem afrom (h0 h1 h2 h3 n w m : Nat) (t : TT) : aloop h0 h1 h2 h3 n w m 0 t = aloop h0 h1 h2 h3 n w (m - (n - h1 - (h2 + h3))) (n - h1 - (h2 + h3)) t := by
  by_cases h : h1 + (h2 + h3) ≤ n
  · have := askip (h0 := h0) (w := w) (n - h1 - (h2 + h3)) 0 m t (show 0 + (n - h1 - (h2 + h3)) + (h1 + (h2 + h3)) ≤ n by omega)
    rw [Nat.zero_add] at this
    exact this
  · rw [show n - h1 - (h2 + h3) = 0 by omega]; rfl
/-! the class's run -/
theorem ix_1 : ix (1 : Int32) = 1 := by decide
theorem ix_2 : ix (2 : Int32) = 2 := by decide
theorem ix_3 : ix (3 : Int32) = 3 := by decide
theorem g4_0 : gIn (0 : Int32) 4 = true := by decide
theorem g4_1 : gIn (1 : Int32) 4 = true := by decide
theorem g4_2 : gIn (2 : Int32) 4 = true := by decide
theorem g4_3 : gIn (3 : Int32) 4 = true := by decide
def DX (kb : Nat) (h : Nat → Nat) (s : XS) : Prop := gJ s 30 = sets0 ∧ gG s 29 14 = kb ∧ gM s 32 0 = nI (h 0) ∧ gM s 32 1 = nI (h 1) ∧ gM s 32 2 = nI (h 2) ∧ gM s 32 3 = nI (h 3)
def FD (kb : Nat) (s s' : XS) : Prop := gG s' = gG s ∧ (∀ c, ¬ c = 33 → ¬ (40 + 4 * kb ≤ c ∧ c ≤ 43 + 4 * kb) → gM s' c = gM s c) ∧ ∀ c, ¬ c = 42 + 4 * kb → gJ s' c = gJ s c
theorem FD.tr {kb : Nat} {a b c : XS} (h : FD kb a b) (h2 : FD kb b c) : FD kb a c := ⟨h2.1.trans h.1, fun x z w => (h2.2.1 x z w).trans (h.2.1 x z w), fun x z => (h2.2.2 x z).trans (h.2.2 x z)⟩
theorem FT.d {kb : Nat} {a b : XS} (h : FT kb a b) : FD kb a b := ⟨h.1, fun c _ z => h.2.1 c z, h.2.2⟩
theorem DX.d {kb : Nat} {h : Nat → Nat} {a b : XS} (hkb : kb < 2) (hD : DX kb h a) (hF : FD kb a b) : DX kb h b := by
  unfold DX at hD ⊢
  rw [hF.1, hF.2.2 30 (by omega), hF.2.1 32 (by omega) (by omega)]
  exact hD
theorem FD_33 (kb : Nat) (s : XS) (j : Nat) (x : Int32) : FD kb s (sM s 33 j x) := ⟨rfl, fun c z _ => gM_o z, fun _ _ => rfl⟩
theorem TXk.g {k : Nat} {T : TT} {s : XS} (h : TXk k T s) (j : Nat) (x : Int32) : TXk k T (sM s 33 j x) := by
  unfold TXk at h ⊢
  rw [gM_o (by omega), gM_o (by omega), gM_o (by omega)]
  exact h
theorem X_cloop {kb n a b n' w : Nat} {h : Nat → Nat} (hkb : kb < 2) (hn : n ≤ 40) (hh : ∀ p, p < 4 → h p ≤ 40) (habn : a + b + n' = n) : ∀ (m c f : Nat) (T : TT) (s : XS), c ≤ 100 → m = mn n' (h 2) + 1 - c → m < f → VT n T → TXk kb T s → DX kb h s → gM s 33 0 = nI a → gM s 33 1 = nI b → ∃ s', FD kb s s' ∧ gM s' 33 0 = nI a ∧ gM s' 33 1 = nI b ∧ ((cloop a b (h 2) (h 3) n' w m c T = none ∧ lo2 (p_Odds_drawLastTwo_B14 (nI n') (lN w)) f (nI c) s = some (0, s')) ∨ ∃ T', cloop a b (h 2) (h 3) n' w m c T = some T' ∧ lo2 (p_Odds_drawLastTwo_B14 (nI n') (lN w)) f (nI c) s = some (1, s') ∧ TXk kb T' s') := by
  have hh2 := hh 2 (by omega)
  have hh3 := hh 3 (by omega)
  have hmn := mn_c n' (h 2)
  intro m
  induction m with
  | zero =>
    intro c f T s hcb hm hf hV hT hD e0 e1
    obtain ⟨f, rfl⟩ : ∃ g, f = g + 1 := ⟨f - 1, by omega⟩
    refine ⟨s, ⟨rfl, fun _ _ _ => rfl, fun _ _ => rfl⟩, e0, e1, Or.inr ⟨T, rfl, ?_, hT⟩⟩
    show p_Odds_drawLastTwo_B14 _ _ _ (nI c) s = _
    unfold p_Odds_drawLastTwo_B14
    rw [if_pos g4_2, ix_2, hD.2.2.2.2.1, mn_I (by omega) (by omega), if_pos (nI_lt (by omega) (by omega))]
  | succ m ih =>
    intro c f T s hcb hm hf hV hT hD e0 e1
    obtain ⟨f, rfl⟩ : ∃ g, f = g + 1 := ⟨f - 1, by omega⟩
    show ∃ s', _ ∧ _ ∧ _ ∧ ((_ ∧ p_Odds_drawLastTwo_B14 (nI n') (lN w) (lo2 (p_Odds_drawLastTwo_B14 (nI n') (lN w)) f) (nI c) s = _) ∨ ∃ T', _ ∧ p_Odds_drawLastTwo_B14 (nI n') (lN w) (lo2 (p_Odds_drawLastTwo_B14 (nI n') (lN w)) f) (nI c) s = _ ∧ _)
    have ih := fun T s => ih (c + 1) f T s (by omega) (by omega) (by omega)
    generalize lo2 (p_Odds_drawLastTwo_B14 (nI n') (lN w)) f = K at ih ⊢
    have hD4 : DX kb h (sM s 33 2 (nI c)) := hD.d hkb (FD_33 kb s 2 _)
    have hT4 : TXk kb T (sM s 33 2 (nI c)) := hT.g 2 _
    have hF4 := FD_33 kb s 2 (nI c)
    have f0 : gM (sM s 33 2 (nI c)) 33 0 = nI a := e0
    have f1 : gM (sM s 33 2 (nI c)) 33 1 = nI b := e1
    have f2 : gM (sM s 33 2 (nI c)) 33 2 = nI c := rfl
    have eK : p_Odds_drawLastTwo_B14 (nI n') (lN w) K (nI c) s = bind2 (p_Tally_add kb (nI (ck (cd4 a b c (n' - c)))) (lN (w * bin (h 2) c * bin (h 3) (n' - c))) (sM s 33 2 (nI c))) (fun r18 s19 => (if r18 = 0 then some ((0 : Int32), s19) else K (nI c + (1 : Int32)) s19)) := by
      unfold p_Odds_drawLastTwo_B14 p_Odds_keyOfGets
      rw [if_pos g4_2, ix_2, hD.2.2.2.2.1, mn_I (by omega) (by omega), if_neg (nI_nlt (by omega) (by omega)), if_pos g4_2, lq_e, if_pos g4_0, if_pos g4_1, if_pos g4_2, ix_0, ix_1, f0, f1, f2, bind1_s, if_pos g4_2, hD4.2.2.2.2.1, X_setsOf hD4.1 hh2 (by omega), bind1_s, if_pos g4_3, ix_3, hD4.2.2.2.2.2, nI_sub (by omega), X_setsOf hD4.1 hh3 (by omega), bind1_s, hD4.2.1, lN_mul, lN_mul, show (nI a * (41 : Int32) + nI b) * (41 : Int32) + nI c = nI (ck (cd4 a b c (n' - c))) by
        rw [ck_cd (by omega) (by omega) (by omega) (by omega), show (41 : Int32) = nI 41 from rfl, pk_mul, nI_add, pk_mul, nI_add]]
    rw [eK]
    unfold cloop
    rcases X_tadd hn hV hT4 (c := cd4 a b c (n' - c)) ⟨a, b, c, n' - c, by omega, rfl⟩ (w * bin (h 2) c * bin (h 3) (n' - c)) with ⟨z1, z2⟩ | ⟨T1, s1, z1, z2, z3, z4⟩
    · rw [z1, z2, bind2_s, if_pos rfl]
      exact ⟨_, hF4, f0, f1, Or.inl ⟨rfl, rfl⟩⟩
    · rw [z1, z2, bind2_s, if_neg one_ne, nI_1]
      have hV1 := (tadd_v hV ⟨a, b, c, n' - c, by omega, rfl⟩ z1).1
      obtain ⟨s2, y1, y2, y3, y4⟩ := ih T1 s1 hV1 z3 (hD4.d hkb z4.d) (by rw [z4.2.1 33 (by omega)]; exact f0) (by rw [z4.2.1 33 (by omega)]; exact f1)
      exact ⟨s2, (hF4.tr z4.d).tr y1, y2, y3, y4⟩
theorem X_last2 {kb n a b n' w : Nat} {h : Nat → Nat} (hkb : kb < 2) (hn : n ≤ 40) (hh : ∀ p, p < 4 → h p ≤ 40) (habn : a + b + n' = n) {T : TT} {s : XS} (hV : VT n T) (hT : TXk kb T s) (hD : DX kb h s) (e0 : gM s 33 0 = nI a) (e1 : gM s 33 1 = nI b) : ∃ s', FD kb s s' ∧ gM s' 33 0 = nI a ∧ gM s' 33 1 = nI b ∧ ((cloop a b (h 2) (h 3) n' w (mn n' (h 2) + 1 - (n' - h 3)) (n' - h 3) T = none ∧ p_Odds_drawLastTwo (nI n') (lN w) s = some (0, s')) ∨ ∃ T', cloop a b (h 2) (h 3) n' w (mn n' (h 2) + 1 - (n' - h 3)) (n' - h 3) T = some T' ∧ p_Odds_drawLastTwo (nI n') (lN w) s = some (1, s') ∧ TXk kb T' s') := by
  have hh3 := hh 3 (by omega)
  have hmn := mn_c n' (h 2)
  unfold p_Odds_drawLastTwo
  rw [if_pos g4_3, ix_3, hD.2.2.2.2.2, mx_I n' (by omega) (h 3) (by omega)]
  exact X_cloop hkb hn hh habn _ _ fuelN T s (by omega) rfl (by unfold fuelN; omega) hV hT hD e0 e1
theorem X_bloop {kb n a n' w : Nat} {h : Nat → Nat} (hkb : kb < 2) (hn : n ≤ 40) (hh : ∀ p, p < 4 → h p ≤ 40) (han : a + n' = n) (x2 : Int64) (x4 : Int32) (c3 : Int32 → XS → Option (Int32 × XS)) : ∀ (m b f : Nat) (T : TT) (s : XS), b ≤ 100 → m = mn n' (h 1) + 1 - b → m < f → VT n T → TXk kb T s → DX kb h s → ∃ s', FD kb s s' ∧ ((bloop a (h 1) (h 2) (h 3) n' w m b T = none ∧ lo2 (p_Odds_drawSets_B76 (nI n) x2 x4 (nI a) (lN w) c3) f (nI b) s = some (0, s')) ∨ ∃ T', bloop a (h 1) (h 2) (h 3) n' w m b T = some T' ∧ lo2 (p_Odds_drawSets_B76 (nI n) x2 x4 (nI a) (lN w) c3) f (nI b) s = c3 (nI (a + 1)) s' ∧ TXk kb T' s') := by
  have hh1 := hh 1 (by omega)
  have hmn := mn_c n' (h 1)
  intro m
  induction m with
  | zero =>
    intro b f T s hbb hm hf hV hT hD
    obtain ⟨f, rfl⟩ : ∃ g, f = g + 1 := ⟨f - 1, by omega⟩
    refine ⟨s, ⟨rfl, fun _ _ _ => rfl, fun _ _ => rfl⟩, Or.inr ⟨T, rfl, ?_, hT⟩⟩
    show p_Odds_drawSets_B76 _ _ _ _ _ _ _ (nI b) s = _
    unfold p_Odds_drawSets_B76
    rw [if_pos g4_1, ix_1, hD.2.2.2.1, nI_sub (by omega), show n - a = n' by omega, mn_I (by omega) (by omega), if_pos (nI_lt (by omega) (by omega)), nI_1]
  | succ m ih =>
    intro b f T s hbb hm hf hV hT hD
    obtain ⟨f, rfl⟩ : ∃ g, f = g + 1 := ⟨f - 1, by omega⟩
    show ∃ s', _ ∧ ((_ ∧ p_Odds_drawSets_B76 (nI n) x2 x4 (nI a) (lN w) c3 (lo2 (p_Odds_drawSets_B76 (nI n) x2 x4 (nI a) (lN w) c3) f) (nI b) s = _) ∨ ∃ T', _ ∧ p_Odds_drawSets_B76 (nI n) x2 x4 (nI a) (lN w) c3 (lo2 (p_Odds_drawSets_B76 (nI n) x2 x4 (nI a) (lN w) c3) f) (nI b) s = _ ∧ _)
    have ih := fun T s => ih (b + 1) f T s (by omega) (by omega) (by omega)
    generalize lo2 (p_Odds_drawSets_B76 (nI n) x2 x4 (nI a) (lN w) c3) f = K at ih ⊢
    have hF4 := (FD_33 kb s 0 (nI a)).tr (FD_33 kb (sM s 33 0 (nI a)) 1 (nI b))
    have hT4 := (hT.g 0 (nI a)).g 1 (nI b)
    have hD4 := hD.d hkb hF4
    have hm2 := mn_c (n' - b) (h 2)
    unfold p_Odds_drawSets_B76 bloop
    rw [if_pos g4_1, ix_1, hD.2.2.2.1, nI_sub (by omega), show n - a = n' by omega, mn_I (by omega) (by omega), if_neg (nI_nlt (by omega) (by omega)), if_pos g4_1, X_setsOf hD.1 hh1 (by omega), bind1_s, if_pos g4_0, ix_0, lq_e, if_pos g4_1, lq_e, nI_sub (by omega), lN_mul]
    obtain ⟨s1, y1, y2, y3, y4⟩ := X_last2 (w := w * bin (h 1) b) hkb hn hh (show a + b + (n' - b) = n by omega) hV hT4 hD4 rfl rfl
    rcases y4 with ⟨z1, z2⟩ | ⟨T1, z1, z2, z3⟩
    · rw [z1, z2, bind2_s, if_pos rfl]
      exact ⟨s1, hF4.tr y1, Or.inl ⟨rfl, rfl⟩⟩
    · rw [z1, z2, bind2_s, if_neg one_ne, nI_1]
      have hV1 := (cloop_s (n := n) (show a + b + (n' - b) = n by omega) (by omega) hV z1).1
      obtain ⟨s2, u1, u2⟩ := ih T1 s1 hV1 z3 (hD4.d hkb y1)
      exact ⟨s2, (hF4.tr y1).tr u1, u2⟩
theorem X_aloop {kb n w : Nat} {h : Nat → Nat} (hkb : kb < 2) (hn : n ≤ 40) (hh : ∀ p, p < 4 → h p ≤ 40) : ∀ (m a f : Nat) (T : TT) (s : XS), a ≤ 100 → m = mn n (h 0) + 1 - a → m < f → VT n T → TXk kb T s → DX kb h s → ∃ s', FD kb s s' ∧ ((aloop (h 0) (h 1) (h 2) (h 3) n w m a T = none ∧ lo2 (p_Odds_drawSets_B32 (nI n) (lN w) (nI (h 2 + h 3))) f (nI a) s = some (0, s')) ∨ ∃ T', aloop (h 0) (h 1) (h 2) (h 3) n w m a T = some T' ∧ lo2 (p_Odds_drawSets_B32 (nI n) (lN w) (nI (h 2 + h 3))) f (nI a) s = some (1, s') ∧ TXk kb T' s') := by
  have hh0 := hh 0 (by omega)
  have hh2 := hh 2 (by omega)
  have hh3 := hh 3 (by omega)
  have hmn := mn_c n (h 0)
  intro m
  induction m with
  | zero =>
    intro a f T s hab hm hf hV hT hD
    obtain ⟨f, rfl⟩ : ∃ g, f = g + 1 := ⟨f - 1, by omega⟩
    refine ⟨s, ⟨rfl, fun _ _ _ => rfl, fun _ _ => rfl⟩, Or.inr ⟨T, rfl, ?_, hT⟩⟩
    show p_Odds_drawSets_B32 _ _ _ _ (nI a) s = _
    unfold p_Odds_drawSets_B32
    rw [if_pos g4_0, ix_0, hD.2.2.1, mn_I (by omega) (by omega), if_pos (nI_lt (by omega) (by omega))]
  | succ m ih =>
    intro a f T s hab hm hf hV hT hD
    obtain ⟨f, rfl⟩ : ∃ g, f = g + 1 := ⟨f - 1, by omega⟩
    show ∃ s', _ ∧ ((_ ∧ p_Odds_drawSets_B32 (nI n) (lN w) (nI (h 2 + h 3)) (lo2 (p_Odds_drawSets_B32 (nI n) (lN w) (nI (h 2 + h 3))) f) (nI a) s = _) ∨ ∃ T', _ ∧ p_Odds_drawSets_B32 (nI n) (lN w) (nI (h 2 + h 3)) (lo2 (p_Odds_drawSets_B32 (nI n) (lN w) (nI (h 2 + h 3))) f) (nI a) s = _ ∧ _)
    have ih := fun T s => ih (a + 1) f T s (by omega) (by omega) (by omega)
    generalize lo2 (p_Odds_drawSets_B32 (nI n) (lN w) (nI (h 2 + h 3))) f = K at ih ⊢
    have hm2 := mn_c (n - a) (h 1)
    unfold p_Odds_drawSets_B32 aloop
    rw [if_pos g4_0, ix_0, hD.2.2.1, mn_I (by omega) (by omega), if_neg (nI_nlt (by omega) (by omega)), if_pos g4_0, X_setsOf hD.1 hh0 (by omega), bind1_s, lN_mul, nI_sub (by omega), mx_J (n - a) (by omega) (h 2 + h 3) (by omega), bfrom]
    obtain ⟨s1, y1, y4⟩ := X_bloop (w := w * bin (h 0) a) hkb hn hh (show a + (n - a) = n by omega) (lN w) (nI (h 2 + h 3)) K (mn (n - a) (h 1) + 1 - (n - a - (h 2 + h 3))) (n - a - (h 2 + h 3)) fuelN T s (by omega) rfl (by have := hh 1 (by omega); unfold fuelN; omega) hV hT hD
    rcases y4 with ⟨z1, z2⟩ | ⟨T1, z1, z2, z3⟩
    · rw [z1]
      exact ⟨s1, y1, Or.inl ⟨rfl, z2⟩⟩
    · rw [z1]
      have hV1 := (bloop_s (n := n) (show a + (n - a) = n by omega) (by omega) hV z1).1
      obtain ⟨s2, u1, u2⟩ := ih T1 s1 hV1 z3 (hD.d hkb y1)
      refine ⟨s2, y1.tr u1, ?_⟩
      rcases u2 with ⟨w1, w2⟩ | ⟨T2, w1, w2, w3⟩
      · exact Or.inl ⟨w1, z2.trans w2⟩
      · exact Or.inr ⟨T2, w1, z2.trans w2, w3⟩
theorem X_drawSets {kb n w : Nat} {h : Nat → Nat} (hkb : kb < 2) (hn : n ≤ 40) (hh : ∀ p, p < 4 → h p ≤ 40) {T : TT} {s : XS} (hV : VT n T) (hT : TXk kb T s) (hD : DX kb h s) : ∃ s', FD kb s s' ∧ ((adraw h n w T = none ∧ p_Odds_drawSets (nI n) (lN w) s = some (0, s')) ∨ ∃ T', adraw h n w T = some T' ∧ p_Odds_drawSets (nI n) (lN w) s = some (1, s') ∧ TXk kb T' s') := by
  have hh0 := hh 0 (by omega)
  have hh1 := hh 1 (by omega)
  have hh2 := hh 2 (by omega)
  have hh3 := hh 3 (by omega)
  have hmn := mn_c n (h 0)
  unfold p_Odds_drawSets adraw
  rw [if_pos g4_2, if_pos g4_3, if_pos g4_1, ix_1, ix_2, ix_3, hD.2.2.2.1, hD.2.2.2.2.1, hD.2.2.2.2.2, nI_add, mx_3 (by omega) (by omega), afrom]
  exact X_aloop hkb hn hh _ _ fuelN T s (by omega) rfl (by unfold fuelN; omega) hV hT hD
