/-! A DRAW, by lists -/
def seekL (v : Nat → Nat) (B : Nat) : Nat → Nat → Option Nat
  | 0, _ => none
  | m + 1, k => if v k < B then some k else seekL v B m (k + 1)
theorem seekL_b {v : Nat → Nat} {B : Nat} : ∀ {m k i : Nat}, seekL v B m k = some i → k ≤ i ∧ i < k + m ∧ v i < B
  | 0, _, _, h => nomatch h
  | m + 1, k, i, h => by
    have es : seekL v B (m + 1) k = if v k < B then some k else seekL v B m (k + 1) := rfl
    rw [es] at h
    by_cases e : v k < B
    · rw [if_pos e] at h
      cases h
      exact ⟨Nat.le_refl _, by omega, e⟩
    · rw [if_neg e] at h
      have := seekL_b h
      exact ⟨by omega, by omega, this.2.2⟩
def LX (a : XS) (w f : Nat) (v : Nat → Nat) : Prop := w ≤ 500 ∧ f < 500 ∧ gM a 10 1 = nI f ∧ gM a 10 2 = nI w ∧ ∀ i, i < w → v i < 10000 ∧ gM a 11 ((f + i) % 500) = nI (v i)
def LY (b : XS) (w : Nat) (v : Nat → Nat) : Prop := w ≤ 500 ∧ gM b 0 23 = nI w ∧ ∀ i, i < w → v i < 10000 ∧ gM b 17 i = nI (v i)
theorem X_at {a : XS} {w f : Nat} {v : Nat → Nat} (h : LX a w f v) {i : Nat} (hi : i < w) : p_Lot_at (nI i) a = some (nI (v i)) := by
  obtain ⟨hw, hf, h1, h2, h3⟩ := h
  have er : (nI f + nI i) - (nI f + nI i) / (500 : Int32) * (500 : Int32) = nI ((f + i) % 500) := by
    rw [nI_add]; exact pk_rem (d := 500) (by omega) (by omega) (by omega)
  have hm : (f + i) % 500 < 500 := Nat.mod_lt _ (by omega)
  unfold p_Lot_at
  rw [h2, h1, if_neg (nI_pos (by omega)), if_neg (nI_ge hi (by omega)), er, if_pos (gIn_t hm (by omega)), ix_nI (by omega), (h3 i hi).2]
def oI : Option Nat → Int32
  | some i => nI i
  | none => -1
def oW (w : Nat) : Option Nat → Int32
  | some i => nI i
  | none => nI w
theorem fair_b (r : Nat) : r * (10000 / r) ≤ 10000 := Nat.mul_div_le 10000 r
theorem fair_I {r : Nat} (h0 : 0 < r) (h : r ≤ 40) : nI r * ((10000 : Int32) / nI r) = nI (r * (10000 / r)) := by
  rw [show (10000 : Int32) = nI 10000 from rfl, pk_div (by omega) h0 (by omega), pk_mul]
theorem X_seek {a : XS} {w f : Nat} {v : Nat → Nat} (h : LX a w f v) {r : Nat} (hr : 0 < r) (hr2 : r ≤ 40) {k : Nat} (hk : k ≤ w) : p_Lot_seekFair (nI k) (nI r) a = some (oI (seekL v (r * (10000 / r)) (w - k) k)) := by
  have hw := h.1
  have hB := fair_b r
  unfold p_Lot_seekFair
  rw [if_pos (show (1 : Int32) ≤ nI r from nI_le (a := 1) (by omega) (by omega)), if_neg (nI_ne0 hr (by omega)), fair_I hr hr2, if_neg (nI_pos (n := k) (by omega))]
  generalize r * (10000 / r) = B at hB ⊢
  have key : ∀ (m k fu : Nat), k + m = w → m < fu → lo1 (p_Lot_seekFair_B22 (nI B) a) fu (nI k) = some (oI (seekL v B m k)) := by
    intro m
    induction m with
    | zero =>
      intro k fu hk hf
      obtain ⟨fu, rfl⟩ : ∃ g, fu = g + 1 := ⟨fu - 1, by omega⟩
      show p_Lot_seekFair_B22 _ a _ (nI k) = _
      unfold p_Lot_seekFair_B22
      rw [h.2.2.2.1, if_pos (nI_le (by omega) (by omega))]; rfl
    | succ m ih =>
      intro k fu hk hf
      obtain ⟨fu, rfl⟩ : ∃ g, fu = g + 1 := ⟨fu - 1, by omega⟩
      show p_Lot_seekFair_B22 _ a (lo1 (p_Lot_seekFair_B22 (nI B) a) fu) (nI k) = _
      have ih := ih (k + 1) fu (by omega) (by omega)
      generalize lo1 (p_Lot_seekFair_B22 (nI B) a) fu = K at ih ⊢
      have es : seekL v B (m + 1) k = if v k < B then some k else seekL v B m (k + 1) := rfl
      unfold p_Lot_seekFair_B22
      rw [es, h.2.2.2.1, if_neg (nI_ge (by omega) (by omega)), X_at h (by omega), bind1_s, nI_1]
      by_cases e : v k < B
      · rw [if_pos e, if_neg (nI_ge e (by omega))]; rfl
      · rw [if_neg e, if_pos (nI_le (by omega) (by have := (h.2.2.2.2 k (by omega)).1; omega)), ih]
  exact key (w - k) k fuelN (by omega) (by unfold fuelN; omega)
theorem X_pick {a : XS} {w f : Nat} {v : Nat → Nat} (h : LX a w f v) {i r : Nat} (hi : i < w) (hr : 0 < r) (hr2 : r ≤ 40) : p_Lot_pick (nI i) (nI r) a = some (nI (v i % r)) := by
  have hv := (h.2.2.2.2 i hi).1
  unfold p_Lot_pick
  rw [X_at h hi, bind1_s, if_neg (show ¬ nI r < (1 : Int32) from nI_nlt (b := 1) (by omega) (by omega)), if_pos (nI_pos' (by omega)), if_neg (nI_ne0 hr (by omega)), pk_rem (by omega) hr (by omega)]
theorem rowIs_erase {f g : Nat → Int32} {L : List Nat} {p : Nat} (h : rowIs f 0 L) (hp : p < L.length) (hg : ∀ j, j + 1 < L.length → g j = if p ≤ j then f (j + 1) else f j) : rowIs g 0 (L.eraseIdx p) := by
  intro j hj
  rw [List.length_eraseIdx, if_pos hp] at hj
  have e1 := h j (by omega)
  have e2 := h (j + 1) (by omega)
  rw [Nat.zero_add] at e1 e2 ⊢
  rw [hg j (by omega), List.getD_eq_getElem?_getD, List.getElem?_eraseIdx]
  rw [List.getD_eq_getElem?_getD] at e1 e2
  by_cases e : p ≤ j
  · rw [if_pos e, if_neg (by omega), e2]
  · rw [if_neg e, if_pos (by omega), e1]
theorem X_takeOut {s : XS} {L : List Nat} {p r : Nat} (hl : L.length = r) (hr : r ≤ 40) (hp : p < r) (h : rowIs (gM s 17) 0 L) : ∃ g, p_Sess_takeOut (nI p) (nI r) s = some (nI (L.getD p 0), sMR s 17 g) ∧ rowIs g 0 (L.eraseIdx p) := by
  refine ⟨va_cpy (gM s 17) (gM s 17) (p + 1) p (r - p - 1), ?_, rowIs_erase h (by omega) (fun j hj => ?_)⟩
  · have e1 := h p (by omega)
    rw [Nat.zero_add] at e1
    unfold p_Sess_takeOut
    rw [if_neg (nI_pos (by omega)), if_neg (nI_ge hp (by omega)), if_pos (show nI r ≤ (40 : Int32) from nI_le (b := 40) hr (by omega)), if_pos (gIn_t (show p < 40 by omega) (by omega)), nI_1, nI_sub (by omega), show nI (r - p) - (1 : Int32) = nI (r - p - 1) from pk_sub (b := 1) (by omega), ix_nI (by omega), ix_nI (by omega), ix_nI (by omega), e1]
    rw [if_pos (show gCpy (nI (p + 1)) (nI p) (nI (r - p - 1)) 40 40 = true from decide_eq_true ⟨nI_pos (by omega), nI_pos (by omega), nI_pos (by omega), by rw [ix_nI (by omega), ix_nI (by omega)]; omega, by rw [ix_nI (by omega), ix_nI (by omega)]; omega⟩)]
    rfl
  · by_cases e : p ≤ j
    · rw [pk_cpy_in e (by omega), if_pos e, show p + 1 + (j - p) = j + 1 by omega]
    · rw [pk_cpy_out (by omega), if_neg e]
def drw (v : Nat → Nat) (w : Nat) : Nat → Nat → List Nat → List Nat → Option (Nat × List Nat)
  | 0, k, _, D => some (k, D)
  | m + 1, k, L, D => match seekL v (L.length * (10000 / L.length)) (w - k) k with
    | none => none
    | some i => drw v w m (i + 1) (L.eraseIdx (v i % L.length)) (D ++ [L.getD (v i % L.length) 0])
theorem drw_n {v : Nat → Nat} {w m k : Nat} {L D : List Nat} (h : seekL v (L.length * (10000 / L.length)) (w - k) k = none) : drw v w (m + 1) k L D = none := by
  show (match seekL v (L.length * (10000 / L.length)) (w - k) k with | none => none | some i => drw v w m (i + 1) (L.eraseIdx (v i % L.length)) (D ++ [L.getD (v i % L.length) 0])) = none
  rw [h]
theorem drw_s {v : Nat → Nat} {w m k i : Nat} {L D : List Nat} (h : seekL v (L.length * (10000 / L.length)) (w - k) k = some i) : drw v w (m + 1) k L D = drw v w m (i + 1) (L.eraseIdx (v i % L.length)) (D ++ [L.getD (v i % L.length) 0]) := by
  show (match seekL v (L.length * (10000 / L.length)) (w - k) k with | none => none | some i => drw v w m (i + 1) (L.eraseIdx (v i % L.length)) (D ++ [L.getD (v i % L.length) 0])) = _
  rw [h]
theorem mem_getD {L : List Nat} {p : Nat} (h : p < L.length) : L.getD p 0 ∈ L := by
  rw [List.getD_eq_getElem?_getD, List.getElem?_eq_getElem h]
  exact List.getElem_mem h
theorem drw_b {v : Nat → Nat} {w : Nat} : ∀ {m k : Nat} {L D : List Nat} {k' : Nat} {D' : List Nat}, drw v w m k L D = some (k', D') → k ≤ w → m ≤ L.length → k + m ≤ k' ∧ k' ≤ w ∧ D'.length = D.length + m ∧ ∀ x ∈ D', x ∈ D ∨ x ∈ L
  | 0, k, L, D, k', D', h, hk, _ => by
    cases h
    exact ⟨Nat.le_refl _, hk, rfl, fun x hx => Or.inl hx⟩
  | m + 1, k, L, D, k', D', h, hk, hm => by
    cases e : seekL v (L.length * (10000 / L.length)) (w - k) k with
    | none => rw [drw_n e] at h; cases h
    | some i =>
      rw [drw_s e] at h
      have hb := seekL_b e
      have hp : v i % L.length < L.length := Nat.mod_lt _ (by omega)
      have hl : (L.eraseIdx (v i % L.length)).length = L.length - 1 := by rw [List.length_eraseIdx, if_pos hp]
      obtain ⟨q1, q2, q3, q4⟩ := drw_b h (by omega) (by rw [hl]; omega)
      refine ⟨by omega, q2, by rw [q3, List.length_append]; simp; omega, fun x hx => ?_⟩
      rcases q4 x hx with q | q
      · rcases List.mem_append.mp q with q | q
        · exact Or.inl q
        · rw [List.mem_singleton.mp q]
          exact Or.inr (mem_getD hp)
      · exact Or.inr (List.mem_of_mem_eraseIdx q)
/-- what the class's draw changes before it is done -/
def FX (dn : Nat) (a s : XS) : Prop := gG s = gG a ∧ gJ s = gJ a ∧ ∀ c, ¬ c = 17 → ¬ c = 49 + dn → gM s c = gM a c
theorem LX.fr {a s : XS} {w f : Nat} {v : Nat → Nat} (h : LX a w f v) (e1 : gM s 10 = gM a 10) (e2 : gM s 11 = gM a 11) : LX s w f v := by
  unfold LX at h ⊢
  rw [e1, e2]; exact h
theorem X_drawloop {a : XS} {w f dn N S : Nat} {v : Nat → Nat} (hL : LX a w f v) (hd : gM a 14 8 = nI dn) (hdn : dn < 12) (hNS : N ≤ S) (hS : S ≤ 40) : ∀ (m i k fu : Nat) (s : XS) (L D : List Nat), i + m = N → m < fu → D.length = i → L.length + i = S → k ≤ w → rowIs (gM s 17) 0 L → rowIs (gM s (49 + dn)) 0 D → FX dn a s → ∃ s', FX dn a s' ∧ ((drw v w m k L D = none ∧ lo3 (p_Sess_draw_B36 (nI N) (nI S)) fu (nI k) (nI i) s = some (1, s')) ∨ ∃ k' D', drw v w m k L D = some (k', D') ∧ rowIs (gM s' (49 + dn)) 0 D' ∧ lo3 (p_Sess_draw_B36 (nI N) (nI S)) fu (nI k) (nI i) s = bind1 (p_Lot_use (nI k') s') (fun s4 => bind1 (p_Sess_stand (nI N) s4) (fun s7 => some ((0 : Int32), s7)))) := by
  intro m
  induction m with
  | zero =>
    intro i k fu s L D hi hf hD hLl hk h17 h49 hF
    obtain ⟨fu, rfl⟩ : ∃ g, fu = g + 1 := ⟨fu - 1, by omega⟩
    refine ⟨s, hF, Or.inr ⟨k, D, rfl, h49, ?_⟩⟩
    show p_Sess_draw_B36 _ _ _ (nI k) (nI i) s = _
    unfold p_Sess_draw_B36
    rw [if_pos (nI_le (by omega) (by omega))]
  | succ m ih =>
    intro i k fu s L D hi hf hD hLl hk h17 h49 hF
    obtain ⟨fu, rfl⟩ : ∃ g, fu = g + 1 := ⟨fu - 1, by omega⟩
    have hLs : LX s w f v := hL.fr (hF.2.2 10 (by omega) (by omega)) (hF.2.2 11 (by omega) (by omega))
    have hw := hL.1
    have e14 : gM s 14 8 = nI dn := by rw [hF.2.2 14 (by omega) (by omega)]; exact hd
    have ih := ih (i + 1) (fu := fu)
    show ∃ s', FX dn a s' ∧ ((drw v w (m + 1) k L D = none ∧ p_Sess_draw_B36 (nI N) (nI S) (lo3 (p_Sess_draw_B36 (nI N) (nI S)) fu) (nI k) (nI i) s = some (1, s')) ∨ ∃ k' D', drw v w (m + 1) k L D = some (k', D') ∧ rowIs (gM s' (49 + dn)) 0 D' ∧ p_Sess_draw_B36 (nI N) (nI S) (lo3 (p_Sess_draw_B36 (nI N) (nI S)) fu) (nI k) (nI i) s = bind1 (p_Lot_use (nI k') s') (fun s4 => bind1 (p_Sess_stand (nI N) s4) (fun s7 => some ((0 : Int32), s7))))
    generalize lo3 (p_Sess_draw_B36 (nI N) (nI S)) fu = K at ih ⊢
    unfold p_Sess_draw_B36
    rw [if_neg (nI_ge (by omega) (by omega)), nI_sub (show i ≤ S by omega), show S - i = L.length by omega, X_seek hLs (by omega) (by omega) hk, bind1_s, e14]
    cases e : seekL v (L.length * (10000 / L.length)) (w - k) k with
    | none =>
      refine ⟨s, hF, Or.inl ⟨drw_n e, ?_⟩⟩
      rw [if_pos (show oI none = (-1 : Int32) from rfl)]
    | some q =>
      have hb := seekL_b e
      have hp : v q % L.length < L.length := Nat.mod_lt _ (by omega)
      obtain ⟨g, t1, t2⟩ := X_takeOut (s := s) (L := L) rfl (by omega) hp h17
      have hne : ¬ oI (some q) = (-1 : Int32) := by
        show ¬ nI q = (-1 : Int32)
        intro z
        have := nI_pos (n := q) (by omega)
        rw [z] at this
        exact this (by decide)
      rw [if_neg hne, nI_1, nI_1, if_pos (gIn_t (show dn + 1 < 13 by omega) (by omega))]
      show ∃ s', _ ∧ ((_ ∧ bind1 (p_Lot_pick (nI q) (nI L.length) s) _ = _) ∨ ∃ k' D', _ ∧ _ ∧ bind1 (p_Lot_pick (nI q) (nI L.length) s) _ = _)
      rw [X_pick hLs (by omega) (by omega) (by omega), bind1_s, t1, bind2_s, if_pos (gIn_t (show i < 40 by omega) (by omega)), ix_nI (by omega), ix_nI (by omega), lq_e, drw_s e, show oI (some q) + (1 : Int32) = nI (q + 1) from nI_1 q, show 48 + (dn + 1) = 49 + dn by omega]
      refine ih (q + 1) _ (L.eraseIdx (v q % L.length)) (D ++ [L.getD (v q % L.length) 0]) (by omega) (by omega) (by rw [List.length_append]; simp; omega) (by rw [List.length_eraseIdx, if_pos hp]; omega) (by omega) ?_ ?_ ⟨hF.1, hF.2.1, fun c h1 h2 => ?_⟩
      · rw [gM_o (by omega)]
        show rowIs (fun j => gM (sMR s 17 g) 17 j) 0 _
        simp only [gM_sMR, if_pos]
        exact t2
      · refine rowIs_push h49 _ (fun j hj => ?_) ?_
        · rw [gM_sM, if_pos rfl, if_neg (by omega), gM_sMR, if_neg (by omega)]
        · rw [gM_sM, if_pos rfl, if_pos (by omega)]
      · rw [gM_o h2]
        show (fun j => gM (sMR s 17 g) c j) = _
        simp only [gM_sMR, if_neg h1]
        exact hF.2.2 c h1 h2
