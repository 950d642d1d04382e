/-! ALL BODIES THROUGH ONE STEP: the class's side -/
def pt (c p : Nat) : Nat := if p = 0 then c % 64 else if p = 1 then c / 64 % 64 else if p = 2 then c / 4096 % 64 else c / 262144 % 64
theorem pt_vc {Z c : Nat} (hZ : Z ≤ 40) (h : vc Z c) : c = cd4 (pt c 0) (pt c 1) (pt c 2) (pt c 3) ∧ pt c 0 + pt c 1 + pt c 2 + pt c 3 = Z ∧ ck c = (pt c 0 * 41 + pt c 1) * 41 + pt c 2 := by
  obtain ⟨a, b, x, d, h1, rfl⟩ := h
  have hp := cd_parts (a := a) (b := b) (c := x) (d := d) (by omega) (by omega) (by omega) (by omega)
  have e0 : pt (cd4 a b x d) 0 = a := hp.1
  have e1 : pt (cd4 a b x d) 1 = b := hp.2.1
  have e2 : pt (cd4 a b x d) 2 = x := hp.2.2.1
  have e3 : pt (cd4 a b x d) 3 = d := hp.2.2.2
  rw [e0, e1, e2, e3]
  exact ⟨rfl, h1, ck_cd (by omega) (by omega) (by omega) (by omega)⟩
theorem pt_b {Z c : Nat} (hZ : Z ≤ 40) (h : vc Z c) : ∀ q, q < 4 → pt c q ≤ 40 := by
  have hp := pt_vc hZ h
  intro q hq
  rcases (show q = 0 ∨ q = 1 ∨ q = 2 ∨ q = 3 by omega) with e | e | e | e <;> subst e <;> omega
abbrev AA : Type := TT × Nat × (Nat → Nat)
def enf (ye : Nat → Nat) (V c : Nat) : Nat → Bool := fun p => decide (V ≤ vo ye (pt c) p)
def arow (n : Nat) (pa pr ye : Nat → Nat) (K N V Z : Nat) (A : AA) (c w : Nat) : Option AA :=
  if K = 0 then (if Z < N then some (A.1, A.2.1 + w, A.2.2) else match adraw (pt c) N w A.1 with
    | none => none
    | some T => some (T, A.2.1, A.2.2))
  else match cfi pr pa (enf ye V c) N n 0 (fun _ => 0) 0 with
    | none => some (A.1, A.2.1 + w, A.2.2)
    | some x => if K = 2 then some (A.1, A.2.1, fun i => if i = x.2 then A.2.2 i + w else A.2.2 i) else match tadd A.1 (cd4 (x.1 0) (x.1 1) (x.1 2) (x.1 3)) w with
      | none => none
      | some T => some (T, A.2.1, A.2.2)
def arows (n : Nat) (pa pr ye : Nat → Nat) (K N V Z : Nat) (R : TT) : Nat → Nat → AA → Option AA
  | 0, _, A => some A
  | m + 1, i, A => match arow n pa pr ye K N V Z A (R.2.1 i) (R.2.2 i) with
    | none => none
    | some A' => arows n pa pr ye K N V Z R m (i + 1) A'
def own (K N Z : Nat) : Nat := if K = 0 ∧ N ≤ Z then bin Z N else 1
theorem own_1 (K N Z : Nat) : 1 ≤ own K N Z := by
  unfold own
  split
  · exact bin_p Z N (by omega)
  · exact Nat.le_refl 1
theorem arow_s {n : Nat} {pa pr ye : Nat → Nat} {K N V Z : Nat} {A A' : AA} {c w : Nat} (hZ : Z ≤ 40) (hpa : ∀ x, x < n → pa x < 4) (hc : vc Z c) (hV : VT N A.1) (e : arow n pa pr ye K N V Z A c w = some A') : VT N A'.1 ∧ tsum A'.1 + A'.2.1 ≤ tsum A.1 + A.2.1 + w * own K N Z := by
  have ho := Nat.mul_le_mul_left w (own_1 K N Z)
  rw [Nat.mul_one] at ho
  unfold arow at e
  by_cases k0 : K = 0
  · rw [if_pos k0] at e
    by_cases z : Z < N
    · rw [if_pos z] at e
      cases e
      exact ⟨hV, by show tsum A.1 + (A.2.1 + w) ≤ _; omega⟩
    · rw [if_neg z] at e
      cases e1 : adraw (pt c) N w A.1 with
      | none => rw [e1] at e; cases e
      | some T =>
        rw [e1] at e
        cases e
        have h := adraw_s hV e1
        have hp := pt_vc hZ hc
        have eo : own K N Z = bin (pt c 0 + (pt c 1 + (pt c 2 + pt c 3))) N := by
          unfold own
          rw [if_pos ⟨k0, by omega⟩, show pt c 0 + (pt c 1 + (pt c 2 + pt c 3)) = Z by omega]
        rw [eo]
        exact ⟨h.1, by show tsum T + A.2.1 ≤ _; have := h.2; omega⟩
  · rw [if_neg k0] at e
    cases e1 : cfi pr pa (enf ye V c) N n 0 (fun _ => 0) 0 with
    | none =>
      rw [e1] at e
      cases e
      exact ⟨hV, by show tsum A.1 + (A.2.1 + w) ≤ _; omega⟩
    | some x =>
      rw [e1] at e
      by_cases k2 : K = 2
      · have e : (if K = 2 then some (A.1, A.2.1, fun i => if i = x.2 then A.2.2 i + w else A.2.2 i) else _) = some A' := e
        rw [if_pos k2] at e
        cases e
        exact ⟨hV, by show tsum A.1 + A.2.1 ≤ _; omega⟩
      · have e : (if K = 2 then _ else (match tadd A.1 (cd4 (x.1 0) (x.1 1) (x.1 2) (x.1 3)) w with
          | none => none
          | some T => some (T, A.2.1, A.2.2))) = some A' := e
        rw [if_neg k2] at e
        have hs := (cfi_sum n 0 _ 0 x.1 x.2 (fun y hy => hpa y (by omega)) rfl e1).1
        cases e2 : tadd A.1 (cd4 (x.1 0) (x.1 1) (x.1 2) (x.1 3)) w with
        | none => rw [e2] at e; cases e
        | some T =>
          rw [e2] at e
          cases e
          have h := tadd_v hV ⟨x.1 0, x.1 1, x.1 2, x.1 3, hs, rfl⟩ e2
          exact ⟨h.1, by show tsum T + A.2.1 ≤ _; have := h.2; omega⟩
theorem arows_s {n : Nat} {pa pr ye : Nat → Nat} {K N V Z : Nat} {R : TT} (hZ : Z ≤ 40) (hpa : ∀ x, x < n → pa x < 4) (hR : VT Z R) : ∀ (m i : Nat) (A A' : AA), i + m = R.1 → VT N A.1 → arows n pa pr ye K N V Z R m i A = some A' → VT N A'.1 ∧ tsum A'.1 + A'.2.1 + sm R.2.2 i * own K N Z ≤ tsum A.1 + A.2.1 + tsum R * own K N Z := by
  intro m
  induction m with
  | zero =>
    intro i A A' hi hV e
    cases e
    exact ⟨hV, by unfold tsum; rw [show i = R.1 by omega]; exact Nat.le_refl _⟩
  | succ m ih =>
    intro i A A' hi hV e
    unfold arows at e
    cases e1 : arow n pa pr ye K N V Z A (R.2.1 i) (R.2.2 i) with
    | none => rw [e1] at e; cases e
    | some A1 =>
      rw [e1] at e
      have h1 := arow_s hZ hpa (hR.2.1 i (by omega)) hV e1
      have h2 := ih (i + 1) A1 A' (by omega) h1.1 e
      refine ⟨h2.1, ?_⟩
      have e2 : sm R.2.2 (i + 1) * own K N Z = sm R.2.2 i * own K N Z + R.2.2 i * own K N Z := Nat.add_mul _ _ _
      have h3 := h2.2
      have h4 := h1.2
      rw [e2] at h3
      omega
/-! the class -/
def FR (kb kr : Nat) (s s' : XS) : Prop := gG s' = gG s ∧ (∀ c, ¬ (32 ≤ c ∧ c ≤ 34) → ¬ (40 + 4 * kb ≤ c ∧ c ≤ 43 + 4 * kb) → gM s' c = gM s c) ∧ ∀ c, ¬ c = 38 + kr → ¬ c = 42 + 4 * kb → gJ s' c = gJ s c
theorem FR.tr {kb kr : Nat} {a b c : XS} (h : FR kb kr a b) (h2 : FR kb kr b c) : FR kb kr a c := ⟨h2.1.trans h.1, fun x z w => (h2.2.1 x z w).trans (h.2.1 x z w), fun x z w => (h2.2.2 x z w).trans (h.2.2 x z w)⟩
theorem FD.r {kb : Nat} {a b : XS} (h : FD kb a b) (kr : Nat) : FR kb kr a b := ⟨h.1, fun c z1 z2 => h.2.1 c (by omega) z2, fun c _ z => h.2.2 c z⟩
theorem F34.r {a b : XS} (h : F34 a b) (kb kr : Nat) : FR kb kr a b := ⟨h.1, fun c z1 _ => h.2.2 c (by omega), fun c _ _ => by rw [h.2.1]⟩
theorem F33.r {a b : XS} (h : F33 a b) (kb kr : Nat) : FR kb kr a b := ⟨h.1, fun c z1 _ => h.2.2 c (by omega), fun c _ _ => by rw [h.2.1]⟩
theorem TXk.o {ka kb kr : Nat} {T : TT} {a b : XS} (ha : ka < 2) (hb : kb < 2) (hr : kr < 2) (hne : ¬ ka = kb) (h : TXk ka T a) (hF : FR kb kr a b) : TXk ka T b := by
  unfold TXk at h ⊢
  rw [hF.2.1 _ (by omega) (by omega), hF.2.1 _ (by omega) (by omega), hF.2.1 _ (by omega) (by omega), hF.2.2 _ (by omega) (by omega)]
  exact h
theorem TXk.m {k : Nat} {T : TT} {a b : XS} (h : TXk k T a) (hM : ∀ c, 40 ≤ c → c ≤ 47 → gM b c = gM a c) (hJ : ∀ c, 40 ≤ c → c ≤ 47 → gJ b c = gJ a c) (hk : k < 2) : TXk k T b := by
  unfold TXk at h ⊢
  rw [hM _ (by omega) (by omega), hM _ (by omega) (by omega), hM _ (by omega) (by omega), hJ _ (by omega) (by omega)]
  exact h
def SX (kr M : Nat) (E : Nat → Nat) (L all : Nat) (s : XS) : Prop := gJ s (38 + kr) 40 = lN (M * L) ∧ (∀ c, c < 40 → gJ s (38 + kr) c = lN (E c)) ∧ gJ s (38 + kr) 41 = lN all
theorem SX.o {kr M : Nat} {E : Nat → Nat} {L all : Nat} {a b : XS} (h : SX kr M E L all a) (hJ : gJ b (38 + kr) = gJ a (38 + kr)) : SX kr M E L all b := by
  unfold SX at h ⊢
  rw [hJ]; exact h
/-- what a count's walk over bodies needs -/
def OX (k st : Nat) (kd sz vt lm : Nat → Nat) (n : Nat) (pa pr ye : Nat → Nat) (ka kb kr : Nat) (s : XS) : Prop := gJ s 30 = sets0 ∧ PX s k st kd sz vt lm ∧ (∀ i, i < 16 → gM s 37 i = nI (ye i)) ∧ gM s 29 10 = nI (sel pr n).length ∧ (∀ j, j < (sel pr n).length → gM s 35 j = nI ((sel pr n).getD j 0)) ∧ (∀ j, j < (sel pr n).length → gM s 36 j = nI (pa ((sel pr n).getD j 0))) ∧ gG s 29 13 = ka ∧ gG s 29 14 = kb ∧ gG s 29 12 = kr
theorem OX.r {k st : Nat} {kd sz vt lm : Nat → Nat} {n : Nat} {pa pr ye : Nat → Nat} {ka kb kr : Nat} {a b : XS} (hk : k < 2) (hb : kb < 2) (hr : kr < 2) (h : OX k st kd sz vt lm n pa pr ye ka kb kr a) (hF : FR kb kr a b) : OX k st kd sz vt lm n pa pr ye ka kb kr b := by
  obtain ⟨h1, h2, h3, h4, h5, h6, h7, h8, h9⟩ := h
  refine ⟨by rw [hF.2.2 30 (by omega) (by omega)]; exact h1, h2.fr hk (fun c z1 z2 => hF.2.1 c (by omega) (by omega)), ?_, ?_, ?_, ?_, by rw [hF.1]; exact h7, by rw [hF.1]; exact h8, by rw [hF.1]; exact h9⟩
  · rw [hF.2.1 37 (by omega) (by omega)]; exact h3
  · rw [hF.2.1 29 (by omega) (by omega)]; exact h4
  · rw [hF.2.1 35 (by omega) (by omega)]; exact h5
  · rw [hF.2.1 36 (by omega) (by omega)]; exact h6
theorem X_miss {kb kr M i w : Nat} {E : Nat → Nat} {L all : Nat} {s : XS} (hi : i < 12) (h12 : gG s 29 12 = kr) (h31 : gJ s 31 i = lN L) (hS : SX kr M E L all s) : ∃ s', p_Odds_missStep (nI i) (lN w) s = some s' ∧ FR kb kr s s' ∧ gM s' = gM s ∧ (∀ c, ¬ c = 38 + kr → gJ s' c = gJ s c) ∧ SX kr (M + w) E L all s' := by
  refine ⟨sJ s (38 + kr) 40 (lN ((M + w) * L)), ?_, ⟨rfl, fun _ _ _ => rfl, fun c z _ => gJ_o z⟩, rfl, fun c z => gJ_o z, ⟨?_, fun c hc => ?_, ?_⟩⟩
  · unfold p_Odds_missStep
    rw [if_neg (nI_pos (by omega)), if_neg (show ¬ (12 : Int32) ≤ nI i from nI_ge (b := 12) hi (by omega)), if_pos (show gIn (40 : Int32) 42 = true by decide), if_pos (gIn_t hi (by omega)), if_pos (show gIn (40 : Int32) 42 = true by decide), lq_e, h12, ix_nI (by omega), h31, show ix (40 : Int32) = 40 by decide, hS.1, lN_mul, lN_add, Nat.add_mul]
  · rw [gJ_sJ, if_pos rfl, if_pos rfl]
  · rw [gJ_sJ, if_pos rfl, if_neg (by omega)]; exact hS.2.1 c hc
  · rw [gJ_sJ, if_pos rfl, if_neg (by omega)]; exact hS.2.2
theorem X_passBody {k st : Nat} {kd sz vt lm : Nat → Nat} {n : Nat} {pa pr ye : Nat → Nat} {ka kb kr i Z L all : Nat} {A : AA} {c w : Nat} {s : XS} (hk : k < 2) (hb : kb < 2) (hr : kr < 2) (hp : PC st kd sz vt lm) (hi : i < st) (hn : n ≤ 40) (hpa : ∀ x, x < n → pa x < 4) (hy : ∀ x, x < 16 → ye x < 2) (hO : OX k st kd sz vt lm n pa pr ye ka kb kr s) (h31 : gJ s 31 i = lN L) (hZ : Z ≤ 40) (hc : vc Z c) (h32 : ∀ q, q < 4 → gM s 32 q = nI (pt c q)) (hV : VT (sz i) A.1) (hT : TXk kb A.1 s) (hS : SX kr A.2.1 A.2.2 L all s) : ∃ s', FR kb kr s s' ∧ ((arow n pa pr ye (kd i) (sz i) (vt i) Z A c w = none ∧ p_Odds_passBody k (nI i) (nI Z) (lN w) s = some (0, s')) ∨ ∃ A', arow n pa pr ye (kd i) (sz i) (vt i) Z A c w = some A' ∧ p_Odds_passBody k (nI i) (nI Z) (lN w) s = some (1, s') ∧ TXk kb A'.1 s' ∧ SX kr A'.2.1 A'.2.2 L all s') := by
  have hpc := hp i hi
  have h12 := hO.2.1.1
  have hpb := pt_b hZ hc
  obtain ⟨o1, o2, o3, o4, o5, o6, o7, o8, o9⟩ := id hO
  unfold p_Odds_passBody arow
  rw [X_sizeOf o2 hi, bind1_s, X_kindOf o2 hi, bind1_s]
  by_cases k0 : kd i = 0
  · rw [if_pos (show nI (kd i + 1) = (1 : Int32) by rw [k0]; rfl), if_pos k0]
    by_cases z : Z < sz i
    · rw [if_pos (nI_lt z (by omega)), if_pos z]
      obtain ⟨s', m1, m2, m3, m4, m5⟩ := X_miss (kb := kb) (w := w) (show i < 12 by omega) o9 h31 hS
      refine ⟨s', m2, Or.inr ⟨_, rfl, by rw [m1, bind1_s], hT.m (fun c _ _ => by rw [m3]) (fun c z1 z2 => m4 c (by omega)) hb, m5⟩⟩
    · rw [if_neg (nI_nlt (by omega) (by omega)), if_neg z]
      obtain ⟨s', d1, d2⟩ := X_drawSets (kb := kb) (n := sz i) (w := w) (h := pt c) hb hpc.2.2.1 hpb hV hT ⟨o1, o8, h32 0 (by omega), h32 1 (by omega), h32 2 (by omega), h32 3 (by omega)⟩
      rcases d2 with ⟨z1, z2⟩ | ⟨T', z1, z2, z3⟩
      · rw [z1, z2, bind2_s, if_pos gZ_z]
        exact ⟨s', d1.r kr, Or.inl ⟨rfl, rfl⟩⟩
      · rw [z1, z2, bind2_s, if_pos (show gZ (1 : Int32) = true by decide)]
        exact ⟨s', d1.r kr, Or.inr ⟨_, rfl, rfl, z3, hS.o (d1.2.2 _ (by omega))⟩⟩
  · rw [if_neg (show ¬ nI (kd i + 1) = (1 : Int32) from fun z => by have := (nI_eq (b := 1) (by omega) (by omega)).mp z; omega), if_neg k0, X_votesOf o2 hi, bind1_s]
    obtain ⟨s1, f1, f2, f3⟩ := X_enough (s0 := s) hy hpb hpc.2.2.2.1 o3 h32
    have O1 := hO.r hk hb hr (f2.r kb kr)
    obtain ⟨p1, p2, p3, p4, p5, p6, p7, p8, p9⟩ := id O1
    have hsl := sel_len pr n
    obtain ⟨s2, g1, g2, g3⟩ := X_first (pa := pa) (en := enf ye (vt i) c) (S := sel pr n) (s0 := s1) hpc.2.1 hpc.2.2.1 (by omega) (fun x hx => hpa x (sel_lt hx)) p4 p5 p6 (fun p hp => by
      rw [f3 p hp]
      unfold enf
      by_cases e : vt i ≤ vo ye (pt c) p
      · rw [if_pos e, decide_eq_true e]; rfl
      · rw [if_neg e, decide_eq_false e]; rfl)
    rw [cfl_sel] at g1 g3
    have O2 := O1.r hk hb hr (g2.r kb kr)
    have F2 := (f2.r kb kr).tr (g2.r kb kr)
    have T2 : TXk kb A.1 s2 := hT.m (fun c z1 z2 => (g2.2.2 c (by omega)).trans (f2.2.2 c (by omega))) (fun c _ _ => by rw [g2.2.1, f2.2.1]) hb
    have S2 : SX kr A.2.1 A.2.2 L all s2 := hS.o (by rw [g2.2.1, f2.2.1])
    rw [f1, bind1_s, g1, bind2_s]
    cases e1 : cfi pr pa (enf ye (vt i) c) (sz i) n 0 (fun _ => 0) 0 with
    | none =>
      obtain ⟨s', m1, m2, m3, m4, m5⟩ := X_miss (kb := kb) (w := w) (show i < 12 by omega) O2.2.2.2.2.2.2.2.2 (by rw [F2.2.2 31 (by omega) (by omega)]; exact h31) S2
      refine ⟨s', F2.tr m2, Or.inr ⟨_, rfl, ?_, T2.m (fun c _ _ => by rw [m3]) (fun c z1 z2 => m4 c (by omega)) hb, m5⟩⟩
      show (if (-1 : Int32) < 0 then _ else _) = _
      rw [if_pos (show (-1 : Int32) < 0 by decide)]
      unfold p_Odds_passBody_K69
      rw [m1, bind1_s]
    | some x =>
      have hs := cfi_sum n 0 _ 0 x.1 x.2 (fun y hy => hpa y (by omega)) rfl e1
      have hs4 : x.1 0 + x.1 1 + x.1 2 + x.1 3 = sz i := hs.1
      show ∃ s', _ ∧ (((if kd i = 2 then _ else _) = _ ∧ (if nI x.2 < 0 then _ else _) = _) ∨ ∃ A', (if kd i = 2 then _ else _) = _ ∧ (if nI x.2 < 0 then _ else _) = _ ∧ _)
      rw [if_neg (nI_pos (by omega)), show cI (some x) = nI x.2 from rfl, if_pos (show nI x.2 < (40 : Int32) from nI_lt (b := 40) (by omega) (by omega)), X_kindOf O2.2.1 hi, bind1_s]
      by_cases k2 : kd i = 2
      · rw [if_pos (show nI (kd i + 1) = (3 : Int32) by rw [k2]; rfl), if_pos k2]
        have e2 := S2.2.1 x.2 (by omega)
        have g42 : gIn (nI x.2) 42 = true := gIn_t (by omega) (by omega)
        refine ⟨sJ s2 (38 + kr) x.2 (lN (A.2.2 x.2 + w)), F2.tr ⟨rfl, fun _ _ _ => rfl, fun c z _ => gJ_o z⟩, Or.inr ⟨_, rfl, ?_, T2.m (fun _ _ _ => rfl) (fun c z1 z2 => gJ_o (by omega)) hb, ⟨?_, fun j hj => ?_, ?_⟩⟩⟩
        · rw [if_pos g42, if_pos g42, O2.2.2.2.2.2.2.2.2, ix_nI (by omega), e2, lN_add, lq_e]
        · show gJ (sJ s2 (38 + kr) x.2 (lN (A.2.2 x.2 + w))) (38 + kr) 40 = _
          rw [gJ_sJ, if_pos rfl, if_neg (by omega)]; exact S2.1
        · show gJ (sJ s2 (38 + kr) x.2 (lN (A.2.2 x.2 + w))) (38 + kr) j = lN (if j = x.2 then A.2.2 j + w else A.2.2 j)
          rw [gJ_sJ, if_pos rfl]
          by_cases ej : j = x.2
          · rw [if_pos ej, if_pos ej, ej]
          · rw [if_neg ej, if_neg ej]; exact S2.2.1 j hj
        · show gJ (sJ s2 (38 + kr) x.2 (lN (A.2.2 x.2 + w))) (38 + kr) 41 = _
          rw [gJ_sJ, if_pos rfl, if_neg (by omega)]; exact S2.2.2
      · rw [if_neg (show ¬ nI (kd i + 1) = (3 : Int32) from fun z => by have := (nI_eq (b := 3) (by omega) (by omega)).mp z; omega), if_neg k2]
        have hg := g3 x.1 x.2 e1
        have eK : p_Odds_keyOfGets s2 = some (nI (ck (cd4 (x.1 0) (x.1 1) (x.1 2) (x.1 3)))) := by
          unfold p_Odds_keyOfGets
          rw [if_pos g4_0, if_pos g4_1, if_pos g4_2, ix_0, ix_1, ix_2, hg 0 (by omega), hg 1 (by omega), hg 2 (by omega), ck_cd (by omega) (by omega) (by omega) (by omega), show (41 : Int32) = nI 41 from rfl, pk_mul, nI_add, pk_mul, nI_add]
        rw [eK, bind1_s, O2.2.2.2.2.2.2.2.1]
        rcases X_tadd hpc.2.2.1 hV T2 (c := cd4 (x.1 0) (x.1 1) (x.1 2) (x.1 3)) ⟨x.1 0, x.1 1, x.1 2, x.1 3, hs4, rfl⟩ w with ⟨z1, z2⟩ | ⟨T', s3, z1, z2, z3, z4⟩
        · rw [z1, z2, bind2_s, if_pos gZ_z]
          exact ⟨s2, F2, Or.inl ⟨rfl, rfl⟩⟩
        · rw [z1, z2, bind2_s, if_pos (show gZ (1 : Int32) = true by decide)]
          exact ⟨s3, F2.tr (z4.d.r kr), Or.inr ⟨_, rfl, rfl, z3, S2.o (z4.2.2 _ (by omega))⟩⟩
theorem X_keyAt {k : Nat} {T : TT} {s : XS} (h : TXk k T s) (h6 : T.1 ≤ 600) {i : Nat} (hi : i < T.1) : p_Tally_keyAt k (nI i) s = some (nI (ck (T.2.1 i))) ∧ p_Tally_waysAt k (nI i) s = some (lN (T.2.2 i)) := by
  unfold p_Tally_keyAt p_Tally_waysAt
  rw [if_neg (nI_pos (by omega)), h.1, if_neg (nI_ge hi (by omega)), if_pos (gIn_t (show i < 600 by omega) (by omega)), ix_nI (by omega), (h.2.1 i hi).1, if_neg (nI_pos (by omega)), if_neg (nI_ge hi (by omega)), if_pos (gIn_t (show i < 600 by omega) (by omega)), (h.2.1 i hi).2]
  exact ⟨rfl, rfl⟩
def F32 (s s' : XS) : Prop := gG s' = gG s ∧ gJ s' = gJ s ∧ ∀ c, ¬ c = 32 → gM s' c = gM s c
theorem F32.r {a b : XS} (h : F32 a b) (kb kr : Nat) : FR kb kr a b := ⟨h.1, fun c z1 _ => h.2.2 c (by omega), fun c _ _ => by rw [h.2.1]⟩
theorem X_spread {Z c : Nat} (hZ : Z ≤ 40) (hc : vc Z c) (s : XS) : ∃ s', p_Odds_spreadKey (nI (ck c)) (nI Z) s = some s' ∧ F32 s s' ∧ ∀ q, q < 4 → gM s' 32 q = nI (pt c q) := by
  have hp := pt_vc hZ hc
  have hb := pt_b hZ hc
  have hb0 := hb 0 (by omega)
  have hb1 := hb 1 (by omega)
  have hb2 := hb 2 (by omega)
  have hk := (ck_b hZ hc).1
  have d0 : nI (ck c) / (1681 : Int32) = nI (pt c 0) := by
    rw [show (1681 : Int32) = nI 1681 from rfl, pk_div (by omega) (by omega) (by omega), show ck c / 1681 = pt c 0 by omega]
  have d41 : nI (ck c) / (41 : Int32) = nI (ck c / 41) := by rw [show (41 : Int32) = nI 41 from rfl, pk_div (by omega) (by omega) (by omega)]
  have d1 : nI (ck c / 41) - nI (ck c / 41) / (41 : Int32) * (41 : Int32) = nI (pt c 1) := by
    rw [show (41 : Int32) = nI 41 from rfl, pk_rem (by omega) (by omega) (by omega), show ck c / 41 % 41 = pt c 1 by omega]
  have d2 : nI (ck c) - nI (ck c / 41) * (41 : Int32) = nI (pt c 2) := by
    rw [← d41, show (41 : Int32) = nI 41 from rfl, pk_rem (by omega) (by omega) (by omega), show ck c % 41 = pt c 2 by omega]
  refine ⟨sM (sM (sM (sM s 32 0 (nI (pt c 0))) 32 1 (nI (pt c 1))) 32 2 (nI (pt c 2))) 32 3 (nI (pt c 3)), ?_, ⟨rfl, rfl, fun x hx => (gM_o hx).trans ((gM_o hx).trans ((gM_o hx).trans (gM_o hx)))⟩, fun q hq => ?_⟩
  · unfold p_Odds_spreadKey
    rw [if_pos g4_0, ix_0, d0, lq_e, if_pos g4_1, ix_1, d41, d1, lq_e, if_pos g4_2, ix_2, d2, lq_e, if_pos g4_0, if_pos g4_1, if_pos g4_2, if_pos g4_3, ix_3]
    have r0 : gM (sM (sM (sM s 32 0 (nI (pt c 0))) 32 1 (nI (pt c 1))) 32 2 (nI (pt c 2))) 32 0 = nI (pt c 0) := rfl
    have r1 : gM (sM (sM (sM s 32 0 (nI (pt c 0))) 32 1 (nI (pt c 1))) 32 2 (nI (pt c 2))) 32 1 = nI (pt c 1) := rfl
    have r2 : gM (sM (sM (sM s 32 0 (nI (pt c 0))) 32 1 (nI (pt c 1))) 32 2 (nI (pt c 2))) 32 2 = nI (pt c 2) := rfl
    rw [r0, r1, r2, nI_sub (by omega), nI_sub (by omega), nI_sub (by omega), show Z - pt c 0 - pt c 1 - pt c 2 = pt c 3 by omega, lq_e]
  · rcases (show q = 0 ∨ q = 1 ∨ q = 2 ∨ q = 3 by omega) with e | e | e | e <;> subst e <;> rfl
theorem X_passStep {k st : Nat} {kd sz vt lm : Nat → Nat} {n : Nat} {pa pr ye : Nat → Nat} {ka kb kr i Z L all M : Nat} {E : Nat → Nat} {R : TT} {s0 : XS} (hk : k < 2) (ha : ka < 2) (hb : kb < 2) (hr : kr < 2) (hab : ¬ ka = kb) (hp : PC st kd sz vt lm) (hi : i < st) (hn : n ≤ 40) (hpa : ∀ x, x < n → pa x < 4) (hy : ∀ x, x < 16 → ye x < 2) (hO : OX k st kd sz vt lm n pa pr ye ka kb kr s0) (h31 : gJ s0 31 i = lN L) (hZ : Z ≤ 40) (hR : VT Z R) (hTa : TXk ka R s0) (hS : SX kr M E L all s0) : ∃ s', (arows n pa pr ye (kd i) (sz i) (vt i) Z R R.1 0 ((0, fun _ => 0, fun _ => 0), M, E) = none ∧ FR kb kr s0 s' ∧ p_Odds_passStep k (nI i) (nI Z) s0 = some (0, s')) ∨ ∃ A' s1, arows n pa pr ye (kd i) (sz i) (vt i) Z R R.1 0 ((0, fun _ => 0, fun _ => 0), M, E) = some A' ∧ FR kb kr s0 s1 ∧ p_Odds_passStep k (nI i) (nI Z) s0 = some (1, sG (sG s1 29 13 kb) 29 14 ka) ∧ TXk kb A'.1 s1 ∧ SX kr A'.2.1 A'.2.2 L all s1 := by
  have h600 := hR.1
  obtain ⟨s1, t1, t2, t3, t4⟩ := X_tclear kb s0
  have F1 : FR kb kr s0 s1 := t3.d.r kr
  have key : ∀ (m j f : Nat) (A : AA) (s : XS), j + m = R.1 → m < f → FR kb kr s0 s → VT (sz i) A.1 → TXk kb A.1 s → SX kr A.2.1 A.2.2 L all s → ∃ s', (arows n pa pr ye (kd i) (sz i) (vt i) Z R m j A = none ∧ FR kb kr s0 s' ∧ lo2 (p_Odds_passStep_B10 k (nI i) (nI Z)) f (nI j) s = some (0, s')) ∨ ∃ A' s1, arows n pa pr ye (kd i) (sz i) (vt i) Z R m j A = some A' ∧ FR kb kr s0 s1 ∧ lo2 (p_Odds_passStep_B10 k (nI i) (nI Z)) f (nI j) s = some (1, sG (sG s1 29 13 kb) 29 14 ka) ∧ TXk kb A'.1 s1 ∧ SX kr A'.2.1 A'.2.2 L all s1 := by
    intro m
    induction m with
    | zero =>
      intro j f A s hj hf hF hV hT hSx
      obtain ⟨f, rfl⟩ : ∃ g, f = g + 1 := ⟨f - 1, by omega⟩
      have O1 := hO.r hk hb hr hF
      have Ta := hTa.o ha hb hr hab hF
      refine ⟨s, Or.inr ⟨A, s, rfl, hF, ?_, hT, hSx⟩⟩
      show p_Odds_passStep_B10 _ _ _ _ (nI j) s = _
      unfold p_Odds_passStep_B10 p_Tally_length
      rw [O1.2.2.2.2.2.2.1, bind1_s, Ta.1, if_pos (nI_le (by omega) (by omega)), O1.2.2.2.2.2.2.2.1, lq_e, lq_e]
    | succ m ih =>
      intro j f A s hj hf hF hV hT hSx
      obtain ⟨f, rfl⟩ : ∃ g, f = g + 1 := ⟨f - 1, by omega⟩
      have O1 := hO.r hk hb hr hF
      have Ta := hTa.o ha hb hr hab hF
      have hvc := hR.2.1 j (by omega)
      have ek := X_keyAt Ta h600 (i := j) (by omega)
      obtain ⟨s2, q1, q2, q3⟩ := X_spread hZ hvc s
      have F2 := hF.tr (q2.r kb kr)
      have O2 := hO.r hk hb hr F2
      have Ta2 := hTa.o ha hb hr hab F2
      have ek2 := X_keyAt Ta2 h600 (i := j) (by omega)
      have T2 : TXk kb A.1 s2 := hT.m (fun c z1 z2 => q2.2.2 c (by omega)) (fun c _ _ => by rw [q2.2.1]) hb
      have S2 : SX kr A.2.1 A.2.2 L all s2 := hSx.o (by rw [q2.2.1])
      obtain ⟨s3, b1, b2⟩ := X_passBody (w := R.2.2 j) hk hb hr hp hi hn hpa hy O2 (by rw [F2.2.2 31 (by omega) (by omega)]; exact h31) hZ hvc q3 hV T2 S2
      have hst := ih (j + 1) f
      show ∃ s', (_ ∧ _ ∧ p_Odds_passStep_B10 k (nI i) (nI Z) (lo2 (p_Odds_passStep_B10 k (nI i) (nI Z)) f) (nI j) s = _) ∨ ∃ A' s1, _ ∧ _ ∧ p_Odds_passStep_B10 k (nI i) (nI Z) (lo2 (p_Odds_passStep_B10 k (nI i) (nI Z)) f) (nI j) s = _ ∧ _
      generalize lo2 (p_Odds_passStep_B10 k (nI i) (nI Z)) f = K at hst ⊢
      unfold p_Odds_passStep_B10 p_Tally_length arows
      rw [O1.2.2.2.2.2.2.1, bind1_s, Ta.1, if_neg (nI_ge (by omega) (by omega)), ek.1, bind1_s, q1, bind1_s, O2.2.2.2.2.2.2.1, ek2.2, bind1_s]
      rcases b2 with ⟨z1, z2⟩ | ⟨A1, z1, z2, z3, z4⟩
      · rw [z1, z2, bind2_s, if_pos rfl]
        exact ⟨s3, Or.inl ⟨rfl, F2.tr b1, rfl⟩⟩
      · rw [z1, z2, bind2_s, if_neg one_ne, nI_1]
        exact hst A1 s3 (by omega) (by omega) (F2.tr b1) (arow_s hZ hpa hvc hV z1).1 z3 z4
  have h := key R.1 0 fuelN ((0, fun _ => 0, fun _ => 0), M, E) s1 (by omega) (by unfold fuelN; omega) F1 ⟨Nat.zero_le _, fun x hx => absurd hx (Nat.not_lt_zero x), fun x y hx => absurd hx (Nat.not_lt_zero x)⟩ t2 (hS.o (by rw [t4]))
  have e0 : p_Odds_passStep k (nI i) (nI Z) s0 = lo2 (p_Odds_passStep_B10 k (nI i) (nI Z)) fuelN (nI 0) s1 := by
    unfold p_Odds_passStep
    rw [hO.2.2.2.2.2.2.2.1, t1, bind1_s]; rfl
  rw [e0]
  exact h
