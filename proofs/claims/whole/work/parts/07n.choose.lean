/-! A CHOICE, both sides in lockstep -/
def JX (a s : XS) : Prop := gG s = gG a ∧ gJ s = gJ a ∧ ∀ c, ¬ c = 12 → ¬ c = 13 → ¬ c = 17 → ¬ c = 18 → gM s c = gM a c
def JY (dn : Nat) (b t : XS) : Prop := gJ t = gJ b ∧ (∀ c, ¬ c = 0 → ¬ c = 16 → ¬ c = 19 → gM t c = gM b c) ∧ (∀ j, ¬ j = 33 → ¬ j = 34 → ¬ j = 35 → ¬ j = 36 → gM t 0 j = gM b 0 j) ∧ ∀ j, j < 40 * dn + 40 → gM t 16 j = gM b 16 j
def JC (ho : Nat → Nat) (n dn : Nat) (s t : XS) (D : List Nat) : Prop := gM s 12 1 = 1 ∧ gM t 0 33 = nI dn ∧ gM s 12 2 = gM t 0 34 ∧ gM s 12 3 = gM t 0 35 ∧ gM s 12 4 = nI D.length ∧ gM t 0 36 = nI D.length ∧ (∀ i, i < 40 → gM s 13 i = gM t 19 i) ∧ rowIs (gM s 17) 0 D ∧ rowIs (gM t 16) (40 * dn + 40) D ∧ (∀ h, h < 12 → gM s 18 h = nI (cnt (fun k => ho (D.getD k 0) == h) D.length)) ∧ ∀ x ∈ D, x < n
theorem getD_app_l {D : List Nat} {x k : Nat} (h : k < D.length) : (D ++ [x]).getD k 0 = D.getD k 0 := by
  rw [List.getD_eq_getElem?_getD, List.getD_eq_getElem?_getD, List.getElem?_append_left h]
theorem getD_app_r {D : List Nat} {x : Nat} : (D ++ [x]).getD D.length 0 = x := by
  rw [List.getD_eq_getElem?_getD, List.getElem?_append_right (Nat.le_refl _), Nat.sub_self]; rfl
theorem cnt_push (ho : Nat → Nat) (D : List Nat) (x h : Nat) : cnt (fun k => ho ((D ++ [x]).getD k 0) == h) (D ++ [x]).length = cnt (fun k => ho (D.getD k 0) == h) D.length + (if ho x = h then 1 else 0) := by
  rw [List.length_append]
  show cnt _ (D.length + 1) = _
  show cnt _ D.length + (if (ho ((D ++ [x]).getD D.length 0) == h) = true then 1 else 0) = _
  rw [getD_app_r, cnt_congr (P' := fun k => ho (D.getD k 0) == h) (fun i hi => by rw [getD_app_l hi])]
  simp
theorem Y_same {t : XS} {n : Nat} {ho pa pr ye : Nat → Nat} {ki : Nat → Nat → Bool} {np dn c H : Nat} {D : List Nat} (hY : YC t n ho pa pr ye ki np) (hc : CC n ho pa pr ye ki np) (hdn : dn < 12) (h18 : gM t 0 18 = nI dn) (hl : D.length ≤ 40) (hm : ∀ x ∈ D, x < n) (h36 : gM t 0 36 = nI D.length) (hr : rowIs (gM t 16) (40 * dn + 40) D) (hcn : c < n) (q10 : gM t 10 dn = nI H) (hH : H ≤ 9) (c46 : Int32 → XS → Option (Int32 × XS)) : lo2 (p_Model_chooses_B86 (nI c) t c46) fuelN 0 0 = if H = 0 ∨ cnt (fun k => ho (D.getD k 0) == ho c) D.length < H then p_Model_chooses_K176 c46 (nI c) t else c46 (nI (c + 1)) (sM t 0 34 (gM t 0 34 + 1)) := by
  have hn := hc.1
  have hpc := hc.2.2.1 c hcn
  have key : ∀ (m i f : Nat), i + m = D.length → m < f → lo2 (p_Model_chooses_B86 (nI c) t c46) f (nI (cnt (fun k => ho (D.getD k 0) == ho c) i)) (nI i) = if H = 0 ∨ cnt (fun k => ho (D.getD k 0) == ho c) D.length < H then p_Model_chooses_K176 c46 (nI c) t else c46 (nI (c + 1)) (sM t 0 34 (gM t 0 34 + 1)) := by
    intro m
    induction m with
    | zero =>
      intro i f hi hf
      obtain ⟨f, rfl⟩ : ∃ g, f = g + 1 := ⟨f - 1, by omega⟩
      have ein : i = D.length := by omega
      have hle := cnt_le (fun k => ho (D.getD k 0) == ho c) D.length
      show p_Model_chooses_B86 _ t _ _ _ (nI i) = _
      unfold p_Model_chooses_B86
      rw [h36, if_pos (nI_le (by omega) (by omega)), ein, h18, if_pos (gIn_t hdn (by omega)), if_pos (gIn_t hdn (by omega)), ix_nI (by omega), q10, nI_1, lq_e]
      by_cases e0 : H = 0
      · rw [if_pos (by rw [e0]; decide), if_pos (Or.inl e0)]
      · rw [if_neg (nI_nle (by omega) (by omega))]
        by_cases e1 : cnt (fun k => ho (D.getD k 0) == ho c) D.length < H
        · rw [if_pos (nI_lt e1 (by omega)), if_pos (Or.inr e1)]
        · rw [if_neg (nI_nlt (by omega) (by omega)), if_neg (fun q => q.elim e0 e1)]
    | succ m ih =>
      intro i f hi hf
      obtain ⟨f, rfl⟩ : ∃ g, f = g + 1 := ⟨f - 1, by omega⟩
      have ih := ih (i + 1) f (by omega) (by omega)
      show p_Model_chooses_B86 _ t _ (lo2 (p_Model_chooses_B86 (nI c) t c46) f) _ (nI i) = _
      rw [← ih]
      generalize lo2 (p_Model_chooses_B86 (nI c) t c46) f = K
      have e1 := hr i (by omega)
      have hv : D.getD i 0 < n := hm _ (mem_getD (by omega))
      have e40 : (40 : Int32) * nI (dn + 1) + nI i = nI (40 * dn + 40 + i) := by rw [show (40 : Int32) = nI 40 from rfl, pk_mul, nI_add]; rfl
      have q1 := hY.2.2.1 _ hv
      have q2 := hY.2.2.1 c hcn
      have hpv := hc.2.2.1 _ hv
      unfold p_Model_chooses_B86
      rw [h36, if_neg (nI_ge (by omega) (by omega)), h18, nI_1, e40, if_pos (gIn_t (show 40 * dn + 40 + i < 520 by omega) (by omega)), ix_nI (by omega), e1, if_pos (gIn_t (show D.getD i 0 < 40 by omega) (by omega)), if_pos (gIn_t (show c < 40 by omega) (by omega)), ix_nI (by omega), ix_nI (by omega), q1.1, q2.1, nI_1, nI_1]
      by_cases e2 : ho (D.getD i 0) = ho c
      · rw [if_pos (by rw [e2]), cnt_t (P := fun k => ho (D.getD k 0) == ho c) (i := i) (show (ho (D.getD i 0) == ho c) = true by rw [e2]; simp)]
      · rw [if_neg (fun q => e2 ((nI_eq (by omega) (by omega)).mp q)), cnt_f (P := fun k => ho (D.getD k 0) == ho c) (i := i) (show (ho (D.getD i 0) == ho c) = false by simpa using e2), show ∀ x : Nat, nI x + (0 : Int32) = nI x from fun x => nI_add x 0]
  exact key D.length 0 fuelN (by omega) (by unfold fuelN; omega)
theorem choose_loop {a b : XS} {n : Nat} {ho pa pr ye : Nat → Nat} {ki : Nat → Nat → Bool} {np dn N V H : Nat} {L : List Nat} (hX : XC a n ho pa pr ye ki np) (hY : YC b n ho pa pr ye ki np) (hc : CC n ho pa pr ye ki np) (hdn : dn < 12) (h14 : gM a 14 8 = nI dn) (h18 : gM b 0 18 = nI dn) (hN : N ≤ 40) (hV : V ≤ 40) (hH : H ≤ 9) (q8 : gM b 8 dn = nI N) (q9 : gM b 9 dn = nI V) (q10 : gM b 10 dn = nI H) (hl : L.length ≤ 40) (hm : ∀ x ∈ L, x < n) (hr48 : rowIs (gM a (48 + dn)) 0 L) (h15 : gM b 15 dn = nI L.length) (hr16 : rowIs (gM b 16) (40 * dn) L) :
    ∀ (m i fu fv : Nat) (s t : XS) (D : List Nat), i + m = n → m < fu → m < fv → D.length ≤ N → JX a s → JY dn b t → JC ho n dn s t D → ∃ s' t' D', D'.length ≤ N ∧ JX a s' ∧ JY dn b t' ∧ JC ho n dn s' t' D' ∧ lo3 (p_Sess_fillByVotes_B51 (nI N) (nI V) (nI H) (nI L.length)) fu (nI D.length) (nI i) s = some (nI (if D'.length < N then 0 else 1), s') ∧ lo2 (p_Model_chooses_B46) fv (nI i) t = some (nI (if D'.length < N then 0 else 1), t') := by
  have hn := hc.1
  have endX : ∀ (s : XS) (D : List Nat), D.length ≤ N → p_Sess_fillByVotes_K188 (nI N) (nI D.length) s = some (nI (if D.length < N then 0 else 1), s) := fun s D hD => by
    unfold p_Sess_fillByVotes_K188
    by_cases e : D.length < N
    · rw [if_pos e, if_pos (nI_lt e (by omega))]; rfl
    · rw [if_neg e, if_neg (nI_nlt (by omega) (by omega))]; rfl
  have endY : ∀ (t : XS) (D : List Nat), D.length ≤ N → gM t 0 36 = nI D.length → gM t 0 18 = nI dn → gM t 8 dn = nI N → p_Model_chooses_K254 t = some (nI (if D.length < N then 0 else 1), t) := fun t D hD e36 e18 e8 => by
    unfold p_Model_chooses_K254
    rw [e18, if_pos (gIn_t hdn (by omega)), e36, ix_nI (by omega), e8]
    by_cases e : D.length < N
    · rw [if_pos e, if_neg (fun q => by have := (nI_eq (by omega) (by omega)).mp q; omega)]; rfl
    · rw [if_neg e, if_pos (by rw [show D.length = N by omega])]; rfl
  intro m
  induction m with
  | zero =>
    intro i fu fv s t D hi hf hf2 hD hJX hJY hJ
    obtain ⟨fu, rfl⟩ : ∃ g, fu = g + 1 := ⟨fu - 1, by omega⟩
    obtain ⟨fv, rfl⟩ : ∃ g, fv = g + 1 := ⟨fv - 1, by omega⟩
    have hXs : XC s n ho pa pr ye ki np := hX.fr (fun c h1 h2 => hJX.2.2 c (by omega) (by omega) (by omega) (by omega)) (by rw [hJX.2.1])
    refine ⟨s, t, D, hD, hJX, hJY, hJ, ?_, ?_⟩
    · show p_Sess_fillByVotes_B51 _ _ _ _ _ _ (nI i) s = _
      unfold p_Sess_fillByVotes_B51 p_City_size
      rw [bind1_s, hXs.1, if_pos (nI_le (by omega) (by omega)), endX s D hD]
    · show p_Model_chooses_B46 _ (nI i) t = _
      unfold p_Model_chooses_B46
      rw [hJY.2.2.1 0 (by omega) (by omega) (by omega) (by omega), hY.1, if_pos (nI_le (by omega) (by omega)), endY t D hD hJ.2.2.2.2.2.1 (by rw [hJY.2.2.1 18 (by omega) (by omega) (by omega) (by omega)]; exact h18) (by rw [hJY.2.1 8 (by omega) (by omega) (by omega)]; exact q8)]
  | succ m ih =>
    intro i fu fv s t D hi hf hf2 hD hJX hJY hJ
    obtain ⟨fu, rfl⟩ : ∃ g, fu = g + 1 := ⟨fu - 1, by omega⟩
    obtain ⟨fv, rfl⟩ : ∃ g, fv = g + 1 := ⟨fv - 1, by omega⟩
    have hXs : XC s n ho pa pr ye ki np := hX.fr (fun c h1 h2 => hJX.2.2 c (by omega) (by omega) (by omega) (by omega)) (by rw [hJX.2.1])
    have hYt : YC t n ho pa pr ye ki np := hY.fr (hJY.2.2.1 0 (by omega) (by omega) (by omega) (by omega)) (hJY.2.2.1 5 (by omega) (by omega) (by omega) (by omega)) (fun c h1 h2 => hJY.2.1 c (by omega) (by omega) (by omega))
    have s14 : gM s 14 8 = nI dn := by rw [hJX.2.2 14 (by omega) (by omega) (by omega) (by omega)]; exact h14
    have t18 : gM t 0 18 = nI dn := by rw [hJY.2.2.1 18 (by omega) (by omega) (by omega) (by omega)]; exact h18
    have t8 : gM t 8 dn = nI N := by rw [hJY.2.1 8 (by omega) (by omega) (by omega)]; exact q8
    have t9 : gM t 9 dn = nI V := by rw [hJY.2.1 9 (by omega) (by omega) (by omega)]; exact q9
    have t10 : gM t 10 dn = nI H := by rw [hJY.2.1 10 (by omega) (by omega) (by omega)]; exact q10
    have t15 : gM t 15 dn = nI L.length := by rw [hJY.2.1 15 (by omega) (by omega) (by omega)]; exact h15
    have t16 : rowIs (gM t 16) (40 * dn) L := fun j hj => by rw [hJY.2.2.2 _ (by omega)]; exact hr16 j hj
    have s48 : rowIs (gM s (48 + dn)) 0 L := by rw [hJX.2.2 _ (by omega) (by omega) (by omega) (by omega)]; exact hr48
    obtain ⟨j1, j2, j3, j4, j5, j6, j7, j8, j9, j10, j11⟩ := hJ
    have gd : gIn (nI dn) 12 = true := gIn_t hdn (by omega)
    have gi : gIn (nI i) 40 = true := gIn_t (show i < 40 by omega) (by omega)
    have hpi := hc.2.2.1 i (by omega)
    show ∃ s' t' D', _ ∧ _ ∧ _ ∧ _ ∧ p_Sess_fillByVotes_B51 (nI N) (nI V) (nI H) (nI L.length) (lo3 (p_Sess_fillByVotes_B51 (nI N) (nI V) (nI H) (nI L.length)) fu) (nI D.length) (nI i) s = _ ∧ p_Model_chooses_B46 (lo2 (p_Model_chooses_B46) fv) (nI i) t = _
    by_cases eN : D.length < N
    · have ih := fun s t D => ih (i + 1) fu fv s t D (by omega) (by omega) (by omega)
      generalize lo3 (p_Sess_fillByVotes_B51 (nI N) (nI V) (nI H) (nI L.length)) fu = K at ih ⊢
      generalize lo2 (p_Model_chooses_B46) fv = K2 at ih ⊢
      unfold p_Sess_fillByVotes_B51 p_Model_chooses_B46 p_City_size
      rw [bind1_s, hXs.1, if_neg (nI_ge (by omega) (by omega)), if_neg (nI_ge eN (by omega)), X_isThere_t hXs hc (by omega), bind1_s, hYt.1, if_neg (nI_ge (show i < n by omega) (by omega)), t18, if_pos gd, ix_nI (j := dn) (by omega), t8, j6, if_neg (nI_ge eN (by omega)), if_pos gi, ix_nI (j := i) (by omega), (hYt.2.2.1 i (by omega)).2.2]
      rcases (show pr i = 0 ∨ pr i = 1 by omega) with e | e
      · rw [e, if_pos (show nI 0 = 0 from rfl), if_pos (show nI 0 = 0 from rfl), nI_1]
        exact ih s t D hD hJX hJY ⟨j1, j2, j3, j4, j5, j6, j7, j8, j9, j10, j11⟩
      · rw [e, if_neg (show ¬ nI 1 = 0 by decide), if_neg (show ¬ nI 1 = 0 by decide), X_houseOf hXs hc (by omega), bind1_s, Y_same hYt hc hdn t18 (by omega) j11 j6 j9 (by omega) t10 hH]
        have hlc := cnt_le (fun k => ho (D.getD k 0) == ho i) D.length
        have j10i := j10 (ho i) hpi.1
        have eCh : p_Sess_chosenOf (nI (ho i)) s = some (nI (cnt (fun k => ho (D.getD k 0) == ho i) D.length)) := by
          unfold p_Sess_chosenOf
          rw [isHouse_t hpi.1, bind1_s, if_neg one_ne, if_pos (gIn_t hpi.1 (by omega)), ix_nI (by omega), j10i]
        rw [eCh, bind1_s]
        have hvote : ∃ s' t' D', D'.length ≤ N ∧ JX a s' ∧ JY dn b t' ∧ JC ho n dn s' t' D' ∧ p_Sess_fillByVotes_K119 K (nI N) (nI V) (nI H) (nI L.length) (nI D.length) (nI i) (nI (ho i)) s = some (nI (if D'.length < N then 0 else 1), s') ∧ p_Model_chooses_K176 K2 (nI i) t = some (nI (if D'.length < N then 0 else 1), t') := by
          have hvx := X_votes (c := i) hXs hc (show dn < 13 by omega) s14 hl hm s48 (by omega)
          have hvy := Y_votes (s := sM t 0 35 (gM t 0 35 + 1)) (c := i) hYt hc (show dn < 13 by omega) t18 hl hm t15 t16 (by omega)
          have hle := cnt_le (fun j => vq ho pa pr ye ki i (L.getD j 0)) L.length
          generalize cnt (fun j => vq ho pa pr ye ki i (L.getD j 0)) L.length = W at hvx hvy hle
          unfold p_Sess_fillByVotes_K119 p_Model_chooses_K176
          rw [hvx, bind1_s, lq_e, hvy, bind1_s, if_pos gi, lq_e, if_pos gi, ix_nI (j := i) (by omega)]
          have u18 : gM (sM (sM t 0 35 (gM t 0 35 + 1)) 19 i (nI W)) 0 18 = nI dn := t18
          have u9 : gM (sM (sM t 0 35 (gM t 0 35 + 1)) 19 i (nI W)) 9 dn = nI V := t9
          have u19 : gM (sM (sM t 0 35 (gM t 0 35 + 1)) 19 i (nI W)) 19 i = nI W := by rw [gM_sM, if_pos rfl, if_pos rfl]
          have u36 : gM (sM (sM t 0 35 (gM t 0 35 + 1)) 19 i (nI W)) 0 36 = nI D.length := j6
          rw [u18, if_pos gd, ix_nI (j := dn) (by omega), u9, u19, u36, nI_1 dn, show (40 : Int32) * nI (dn + 1) + nI D.length = nI (40 * dn + 40 + D.length) by rw [show (40 : Int32) = nI 40 from rfl, pk_mul, nI_add]; rfl, if_pos (gIn_t (show 40 * dn + 40 + D.length < 520 by omega) (by omega)), ix_nI (j := 40 * dn + 40 + D.length) (by omega), lq_e, lq_e]
          have b13 : ∀ k, k < 40 → (if k = i then nI W else gM s 13 k) = (if k = i then nI W else gM t 19 k) := fun k hk => by rw [j7 k hk]
          by_cases e5 : W < V
          · rw [if_pos (nI_lt e5 (by omega)), if_neg (nI_ge e5 (by omega))]
            unfold p_Sess_fillByVotes_K148 p_Poll_note
            rw [if_neg (nI_pos (by omega)), if_pos (show nI i < (40 : Int32) from nI_lt (b := 40) (by omega) (by omega)), if_pos gi, lq_e, lq_e, if_pos (show (0 : Int32) = 0 from rfl), bind1_s, if_pos (nI_lt e5 (by omega)), ix_nI (j := i) (by omega), nI_1]
            refine ih _ _ D hD ⟨hJX.1, hJX.2.1, fun c h1 h2 h3 h4 => (gM_o h1).trans ((gM_o h2).trans (hJX.2.2 c h1 h2 h3 h4))⟩ ⟨hJY.1, fun c h1 h2 h3 => (gM_o h3).trans ((gM_o h1).trans (hJY.2.1 c h1 h2 h3)), fun j h1 h2 h3 h4 => ?_, hJY.2.2.2⟩ ⟨j1, j2, j3, ?_, j5, j6, fun k hk => ?_, j8, j9, j10, j11⟩
            · rw [gM_o (by omega), gM_sM, if_pos rfl, if_neg h3]; exact hJY.2.2.1 j h1 h2 h3 h4
            · show gM s 12 3 + 1 = gM t 0 35 + 1
              rw [j4]
            · rw [gM_o (by omega), gM_sM, gM_sM, if_pos rfl, if_pos rfl]; exact b13 k hk
          · rw [if_neg (nI_nlt (show V ≤ W by omega) (by omega)), if_pos (nI_le (show V ≤ W by omega) (by omega))]
            unfold p_Sess_fillByVotes_K148 p_Poll_note
            rw [if_neg (nI_pos (by omega)), if_pos (show nI i < (40 : Int32) from nI_lt (b := 40) (by omega) (by omega)), if_pos gi, lq_e, lq_e, if_neg one_ne, lq_e, bind1_s, if_neg (nI_nlt (show V ≤ W by omega) (by omega)), if_neg (show ¬ (40 : Int32) ≤ nI D.length from nI_ge (b := 40) (by omega) (by omega)), if_pos (gIn_t (show D.length < 40 by omega) (by omega)), lq_e, ix_nI (j := i) (by omega), ix_nI (j := D.length) (by omega)]
            unfold p_Sess_countHouse
            rw [isHouse_t hpi.1, bind1_s, if_neg one_ne, if_pos (gIn_t hpi.1 (by omega)), if_pos (gIn_t hpi.1 (by omega)), ix_nI (j := ho i) (by omega), lq_e, bind1_s, nI_1, nI_1]
            have hz := ih (sM (sM (sM (sM (sM s 13 i (nI W)) 12 3 (gM s 12 3 + 1)) 12 4 (gM s 12 4 + 1)) 17 D.length (nI i)) 18 (ho i) (gM s 18 (ho i) + 1)) (sM (sM (sM (sM t 0 35 (gM t 0 35 + 1)) 19 i (nI W)) 16 (40 * dn + 40 + D.length) (nI i)) 0 36 (gM t 0 36 + 1)) (D ++ [i]) (by rw [List.length_append]; simp; omega) ⟨hJX.1, hJX.2.1, fun c h1 h2 h3 h4 => (gM_o h4).trans ((gM_o h3).trans ((gM_o h1).trans ((gM_o h1).trans ((gM_o h2).trans (hJX.2.2 c h1 h2 h3 h4)))))⟩ ⟨hJY.1, fun c h1 h2 h3 => (gM_o h1).trans ((gM_o h2).trans ((gM_o h3).trans ((gM_o h1).trans (hJY.2.1 c h1 h2 h3)))), fun j h1 h2 h3 h4 => by
                rw [gM_sM, if_pos rfl, if_neg h4, gM_o (by omega), gM_o (by omega), gM_sM, if_pos rfl, if_neg h3]; exact hJY.2.2.1 j h1 h2 h3 h4, fun j hj => by
                rw [gM_o (by omega), gM_sM, if_pos rfl, if_neg (by omega)]; exact hJY.2.2.2 j hj⟩ ⟨j1, j2, j3, by
                show gM s 12 3 + 1 = gM t 0 35 + 1
                rw [j4], by
                rw [List.length_append]
                show gM s 12 4 + 1 = nI (D.length + 1)
                rw [j5, nI_1], by
                rw [List.length_append]
                show gM t 0 36 + 1 = nI (D.length + 1)
                rw [j6, nI_1], fun k hk => by
                show gM (sM s 13 i (nI W)) 13 k = gM (sM t 19 i (nI W)) 19 k
                rw [gM_sM, gM_sM, if_pos rfl, if_pos rfl]; exact b13 k hk, by
                refine rowIs_push j8 _ (fun j hj => ?_) ?_
                · rw [gM_o (by omega), gM_sM, if_pos rfl, if_neg (by omega)]; rfl
                · rw [gM_o (by omega), gM_sM, if_pos rfl, if_pos (by omega)], by
                refine rowIs_push j9 _ (fun j hj => ?_) ?_
                · rw [gM_o (by omega), gM_sM, if_pos rfl, if_neg (by omega)]; rfl
                · rw [gM_o (by omega), gM_sM, if_pos rfl, if_pos rfl], fun h hh => by
                rw [gM_sM, if_pos rfl, cnt_push]
                by_cases e6 : h = ho i
                · subst e6
                  rw [if_pos rfl, if_pos rfl, j10i, nI_1]
                · rw [if_neg e6, if_neg (fun q => e6 q.symm)]; exact j10 h hh, fun x hx => by
                rcases List.mem_append.mp hx with q | q
                · exact j11 x q
                · rw [List.mem_singleton.mp q]; omega⟩
            rw [List.length_append] at hz
            exact hz
        by_cases e0 : H = 0
        · rw [if_pos (show nI H ≤ 0 by rw [e0]; decide), if_pos (Or.inl e0)]
          exact hvote
        · rw [if_neg (nI_nle (by omega) (by omega))]
          by_cases e1 : cnt (fun k => ho (D.getD k 0) == ho i) D.length < H
          · rw [if_pos (nI_lt e1 (by omega)), if_pos (Or.inr e1)]
            exact hvote
          · rw [if_neg (nI_nlt (by omega) (by omega)), if_neg (fun q => q.elim e0 e1)]
            unfold p_Poll_bar
            rw [lq_e, bind1_s, nI_1]
            refine ih _ _ D hD ⟨hJX.1, hJX.2.1, fun c h1 h2 h3 h4 => (gM_o h1).trans (hJX.2.2 c h1 h2 h3 h4)⟩ ⟨hJY.1, fun c h1 h2 h3 => (gM_o h1).trans (hJY.2.1 c h1 h2 h3), fun j h1 h2 h3 h4 => ?_, hJY.2.2.2⟩ ⟨j1, j2, ?_, j4, j5, j6, j7, j8, j9, j10, j11⟩
            · rw [gM_sM, if_pos rfl, if_neg h2]; exact hJY.2.2.1 j h1 h2 h3 h4
            · show gM s 12 2 + 1 = gM t 0 34 + 1
              rw [j3]
    · refine ⟨s, t, D, hD, hJX, hJY, ⟨j1, j2, j3, j4, j5, j6, j7, j8, j9, j10, j11⟩, ?_, ?_⟩
      · unfold p_Sess_fillByVotes_B51 p_City_size
        rw [bind1_s, hXs.1, if_neg (nI_ge (by omega) (by omega)), if_pos (nI_le (by omega) (by omega)), endX s D hD]
      · unfold p_Model_chooses_B46
        rw [hYt.1, if_neg (nI_ge (show i < n by omega) (by omega)), t18, if_pos gd, ix_nI (j := dn) (by omega), t8, j6, if_pos (nI_le (by omega) (by omega)), endY t D hD j6 t18 t8]
