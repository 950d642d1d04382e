/-! THE PROCEDURE: all its steps; the call -/
theorem QZ.tr {a b c : XS} (h : QZ a b) (h2 : QZ b c) : QZ a c := ⟨h2.1.trans h.1, fun x z w u => (h2.2.1 x z w u).trans (h.2.1 x z w u), fun j hj => (h2.2.2 j hj).trans (h.2.2 j hj)⟩
theorem RX.tr {k : Nat} {a b c : XS} (h : RX k a b) (h2 : RX k b c) : RX k a c := ⟨h2.1.trans h.1, h2.2.1.trans h.2.1, fun x z w => (h2.2.2 x z w).trans (h.2.2 x z w)⟩
theorem TX.x {k t : Nat} {v : Nat → Nat} {a b : XS} (hk : k < 2) (h : TX a t v) (hR : RX k a b) : TX b t v := ⟨h.1, by rw [hR.2.2 7 (by omega) (by omega)]; exact h.2.1, fun i hi => by rw [hR.2.2 8 (by omega) (by omega)]; exact h.2.2 i hi⟩
theorem TY.z {t : Nat} {v : Nat → Nat} {a b : XS} (h : TY a t v) (hR : QZ a b) : TY b t v := ⟨h.1, by rw [hR.2.2 8 (by omega)]; exact h.2.1, fun i hi => by rw [hR.2.1 6 (by omega) (by omega) (by omega)]; exact h.2.2 i hi⟩
def PP (i : Nat) (kd sz vt lm : Nat → Nat) : Prop := ∀ j, j < i → kd j ≤ 1 ∧ 1 ≤ sz j ∧ sz j ≤ 40 ∧ vt j ≤ 40 ∧ lm j ≤ 9 ∧ (kd j = 0 → vt j = 0) ∧ (j = 0 → kd j = 0)
def RR (k i : Nat) (s t : XS) (kd sz vt lm : Nat → Nat) : Prop := ∀ j, j < i → gM s (20 + 5 * k) j = nI (kd j + 1) ∧ gM t 11 j = nI (kd j) ∧ gM s (21 + 5 * k) j = nI (sz j) ∧ gM t 12 j = nI (sz j) ∧ gM s (22 + 5 * k) j = nI (vt j) ∧ gM t 13 j = nI (vt j) ∧ gM s (23 + 5 * k) j = nI (lm j) ∧ gM t 14 j = nI (lm j)
theorem read_loop {k tl : Nat} {v : Nat → Nat} {s0 t0 : XS} (hk : k < 2) (hX : TX s0 tl v) (hY : TY t0 tl v) : ∀ (m i fu fv : Nat) (s t : XS) (p B B' : Nat) (kd sz vt lm : Nat → Nat), i + m = 12 → m + 1 < fu → m + 1 < fv → RX k s0 s → QZ t0 t → p ≤ tl → gM s 9 1 = nI p → gM s 9 3 = nI 0 → gM s 9 2 = nI B → B ≤ 40 → gM s (19 + 5 * k) 4 = nI i → gM t 0 25 = nI p → gM t 0 26 = 0 → gM t 0 32 = nI B' → (0 < i → B' = B) → PP i kd sz vt lm → RR k i s t kd sz vt lm → (∃ F s' t', ¬ F = 0 ∧ F < 3000 ∧ lo3 (p_Reader_read_B23 k) fu 1 (nI i) s = some (nI F, s') ∧ RX k s0 s' ∧ QZ t0 t' ∧ lo4 (p_Model_procedure_B22) fv (nI i) 1 1 t = some ((-2 : Int32) - nI F, sM t' 0 8 0)) ∨ (∃ st kd sz vt lm s' t', 0 < st ∧ st ≤ 12 ∧ PC st kd sz vt lm ∧ lo3 (p_Reader_read_B23 k) fu 1 (nI i) s = some (nI 0, s') ∧ RX k s0 s' ∧ gM s' (19 + 5 * k) 4 = nI st ∧ QZ t0 t' ∧ RR k st s' t' kd sz vt lm ∧ lo4 (p_Model_procedure_B22) fv (nI i) 1 1 t = p_Model_procedure_K136 (nI st) 1 t') := by
  intro m
  induction m with
  | zero =>
    intro i fu fv s t p B B' kd sz vt lm hi hfu hfv hRX hQZ hp h91 h93 hB hB2 hpl h25 h26 h32 hBB hPP hRR
    obtain ⟨fu, rfl⟩ : ∃ g, fu = g + 1 + 1 := ⟨fu - 2, by omega⟩
    obtain ⟨fv, rfl⟩ : ∃ g, fv = g + 1 + 1 := ⟨fv - 2, by omega⟩
    have hXs := hX.x hk hRX
    have hYt := hY.z hQZ
    rcases mid_sim (k := k) hXs hYt (by omega) hp h91 h93 hB hB2 h25 h26 h32 hBB with ⟨z, -⟩ | ⟨F, q, t', z1, z2, z3, z4, z5, z6⟩
    · omega
    · refine Or.inl ⟨F, rx s q F, t', z1, z2, ?_, hRX.tr (RX_rx k s q F), hQZ.tr z5, ?_⟩
      · show p_Reader_read_B23 k (lo3 (p_Reader_read_B23 k) (fu + 1)) 1 (nI i) s = _
        unfold p_Reader_read_B23
        rw [if_neg one_ne, if_neg (show ¬ (12 : Int32) < nI i from nI_nlt (a := 12) (b := i) (by omega) (by omega)), z3, bind2_s]
        show p_Reader_read_B23 k _ 0 _ (rx s q F) = _
        unfold p_Reader_read_B23
        rw [if_pos rfl, rx_93]
      · show p_Model_procedure_B22 _ (nI i) 1 1 t = _
        unfold p_Model_procedure_B22
        rw [if_neg one_ne, if_neg one_ne, z4, bind2_s, if_pos rfl]
        exact K136_f _ 0 z6
  | succ m ih =>
    intro i fu fv s t p B B' kd sz vt lm hi hfu hfv hRX hQZ hp h91 h93 hB hB2 hpl h25 h26 h32 hBB hPP hRR
    obtain ⟨fu, rfl⟩ : ∃ g, fu = g + 1 + 1 := ⟨fu - 2, by omega⟩
    obtain ⟨fv, rfl⟩ : ∃ g, fv = g + 1 + 1 := ⟨fv - 2, by omega⟩
    have hXs := hX.x hk hRX
    have hYt := hY.z hQZ
    have g13 : gIn (nI i) 13 = true := gIn_t (by omega) (by omega)
    have eX : ∀ r s', p_Reader_readStep k (nI i) s = some (r, s') → lo3 (p_Reader_read_B23 k) (fu + 1 + 1) 1 (nI i) s = lo3 (p_Reader_read_B23 k) (fu + 1) r (nI (i + 1)) s' := by
      intro r s' h
      show p_Reader_read_B23 k (lo3 (p_Reader_read_B23 k) (fu + 1)) 1 (nI i) s = _
      unfold p_Reader_read_B23
      rw [if_neg one_ne, if_neg (show ¬ (12 : Int32) < nI i from nI_nlt (a := 12) (b := i) (by omega) (by omega)), h, bind2_s, nI_1]
    have eX0 : ∀ s', lo3 (p_Reader_read_B23 k) (fu + 1) 0 (nI (i + 1)) s' = some (gM s' 9 3, s') := by
      intro s'
      show p_Reader_read_B23 k _ 0 _ s' = _
      unfold p_Reader_read_B23
      rw [if_pos rfl]
    have eY : ∀ t', p_Model_oneStep (nI i) t = some (1, t') → lo4 (p_Model_procedure_B22) (fv + 1 + 1) (nI i) 1 1 t = (if (gM t' 11 i) = (2 : Int32) then p_Model_procedure_K58 (lo4 (p_Model_procedure_B22) (fv + 1)) (nI i) 1 1 (1 : Int32) t' else p_Model_procedure_K58 (lo4 (p_Model_procedure_B22) (fv + 1)) (nI i) 1 1 (0 : Int32) t') := by
      intro t' h
      show p_Model_procedure_B22 (lo4 (p_Model_procedure_B22) (fv + 1)) (nI i) 1 1 t = _
      unfold p_Model_procedure_B22
      rw [if_neg one_ne, if_neg one_ne, h, bind2_s, if_neg one_ne, if_pos g13, ix_nI (by omega)]
    have hfault : ∀ F q t', ¬ F = 0 → F < 3000 → p_Reader_readStep k (nI i) s = some (0, rx s q F) → p_Model_oneStep (nI i) t = some (0, t') → QZ t t' → gM t' 0 26 = nI F → ∃ F s' t', ¬ F = 0 ∧ F < 3000 ∧ lo3 (p_Reader_read_B23 k) (fu + 1 + 1) 1 (nI i) s = some (nI F, s') ∧ RX k s0 s' ∧ QZ t0 t' ∧ lo4 (p_Model_procedure_B22) (fv + 1 + 1) (nI i) 1 1 t = some ((-2 : Int32) - nI F, sM t' 0 8 0) := by
      intro F q t' z1 z2 z3 z4 z5 z6
      refine ⟨F, rx s q F, t', z1, z2, ?_, hRX.tr (RX_rx k s q F), hQZ.tr z5, ?_⟩
      · rw [eX _ _ z3, eX0, rx_93]
      · show p_Model_procedure_B22 _ (nI i) 1 1 t = _
        unfold p_Model_procedure_B22
        rw [if_neg one_ne, if_neg one_ne, z4, bind2_s, if_pos rfl]
        exact K136_f _ 0 z6
    rcases mid_sim (k := k) hXs hYt (by omega) hp h91 h93 hB hB2 h25 h26 h32 hBB with ⟨hi12, hM⟩ | ⟨F, q, t', z1, z2, z3, z4, z5, z6⟩
    · rcases hM with ⟨F, q, t', z1, z2, z3, z4, z5, z6⟩ | ⟨q, q', t', z1, z2, z3, z4, z5, z6, z7⟩ | ⟨K, N, V, H, q, t', k1, k2, k3, k4, k5, k6, k7, k8, k9, z3, z4, z5, z6, z7, z8, z9, z10, z11⟩
      · exact Or.inl (hfault F q t' z1 z2 z3 z4 z5 z6)
      · have h3 := hXs.1
        have hv := (hXs.2.2 q z1).1
        have hlt := of_decide_eq_true z2
        have hsk : skp v tl q = q := (spn_0 z1).mpr (by unfold bl; simp; omega)
        have hY' := hYt.r z5
        have t26 : gM t' 0 26 = 0 := by rw [z5.2.2.1 26 (by omega)]; exact h26
        have hse := Y_see hY' z6 (by omega)
        rw [hsk, if_pos z1] at hse
        refine Or.inl ⟨1 + 8 * q + 0, rx s q' (1 + 8 * q + 0), sM (sM t' 0 25 (nI q)) 0 26 (nI (1 + 8 * q + 0)), by omega, by omega, ?_, hRX.tr (RX_rx k s _ _), hQZ.tr (z5.trG (QG_f (QF_25 t' _) _)), ?_⟩
        · rw [eX _ _ z3, eX0, rx_93]
        · rw [eY _ z4, z7, if_neg (show ¬ nI 1 = (2 : Int32) by decide)]
          unfold p_Model_procedure_K58
          rw [hse, bind2_s, if_pos rfl, if_neg (show ¬ nI (v q) = (59 : Int32) from fun z => by have := (nI_eq (b := 59) (by omega) (by omega)).mp z; omega), show gM (sM t' 0 25 (nI q)) 0 25 = nI q from rfl, show (0 : Int32) = nI 0 from rfl, Y_fails (b := sM t' 0 25 (nI q)) t26 0 q, bind2_s]
          exact B22_f fv _ _ rfl
      · have hY' := hYt.r z5
        have t26 : gM t' 0 26 = 0 := by rw [z5.2.2.1 26 (by omega)]; exact h26
        have eYk : lo4 (p_Model_procedure_B22) (fv + 1 + 1) (nI i) 1 1 t = p_Model_procedure_K58 (lo4 (p_Model_procedure_B22) (fv + 1)) (nI i) 1 1 (nI (if K = 2 then 1 else 0)) t' := by
          rw [eY _ z4, z7]
          by_cases e : K = 2
          · rw [e, if_pos (show nI 2 = (2 : Int32) from rfl), if_pos rfl]; rfl
          · rw [if_neg (show ¬ nI K = (2 : Int32) from fun z => e ((nI_eq (b := 2) (by omega) (by omega)).mp z)), if_neg e]; rfl
        rcases fin_sim (K := K) (N := N) (V := V) (H := H) hk hXs hY' k9 hi12 k1 hpl z6 t26 fv with ⟨F, s', t2, y1, y2, y3, y4, y5, y6, y7⟩ | ⟨p', s', t2, y1, y2, y3, y4, y5, y6, y7, y8, y9⟩
        · refine Or.inl ⟨F, s', t2, y1, y2, ?_, hRX.tr y5, hQZ.tr (z5.trG y6), by rw [eYk, y7]⟩
          rw [eX _ _ (z3.trans y3), eX0, y4]
        · have hRR2 : RR k (i + 1) s' t2 (fun j => if j = i then K else kd j) (fun j => if j = i then N else sz j) (fun j => if j = i then V else vt j) (fun j => if j = i then H else lm j) := by
            intro j hj
            have hA := y3.2.2 j
            rw [hA.1, hA.2.1, hA.2.2.1, hA.2.2.2, y7.2.1 11 (by omega) (by omega), y7.2.1 12 (by omega) (by omega), y7.2.1 13 (by omega) (by omega), y7.2.1 14 (by omega) (by omega)]
            by_cases e : j = i
            · subst e
              simp only [if_pos]
              exact ⟨trivial, z7, trivial, z8, trivial, z9, trivial, z10⟩
            · simp only [if_neg e]
              rw [z5.2.2.2 11 j (by omega) (by omega) e, z5.2.2.2 12 j (by omega) (by omega) e, z5.2.2.2 13 j (by omega) (by omega) e, z5.2.2.2 14 j (by omega) (by omega) e]
              exact hRR j (by omega)
          have hQ2 : QZ t0 t2 := hQZ.tr (z5.z.tr (y7.r 0).z)
          by_cases e : K = 2
          · refine Or.inr ⟨i + 1, _, _, _, _, s', t2, by omega, by omega, ?_, ?_, hRX.tr y3.1, y3.2.1, hQ2, hRR2, ?_⟩
            · intro j hj
              by_cases ej : j = i
              · subst ej
                simp only [if_pos]
                exact ⟨k1, k2, k3, k4, k5, ⟨fun _ => trivial, fun _ => e⟩, k6, k7, k8⟩
              · have hPj := hPP j (by omega)
                simp only [if_neg ej]
                exact ⟨by omega, hPj.2.1, hPj.2.2.1, hPj.2.2.2.1, hPj.2.2.2.2.1, ⟨fun z => by omega, fun z => by omega⟩, fun z => by omega, hPj.2.2.2.2.2.1, hPj.2.2.2.2.2.2⟩
            · rw [if_pos e] at y2
              rw [eX _ _ (z3.trans y2)]
              exact (eX0 s').trans (by rw [y6])
            · rw [eYk, y9, if_pos e]
              show p_Model_procedure_B22 _ (nI (i + 1)) 1 0 t2 = _
              unfold p_Model_procedure_B22
              rw [if_neg one_ne, if_pos rfl]
          · rw [if_neg e] at y2
            have hih := ih (i + 1) (fu + 1) (fv + 1) s' t2 p' N N _ _ _ _ (by omega) (by omega) (by omega) (hRX.tr y3.1) hQ2 y1 y4 y6 y5 k3 y3.2.1 y8 (by rw [y7.2.2 26 (by omega)]; exact t26) (by rw [y7.2.2 32 (by omega)]; exact z11 e) (fun _ => rfl) (by
              intro j hj
              show (if j = i then K else kd j) ≤ 1 ∧ 1 ≤ (if j = i then N else sz j) ∧ (if j = i then N else sz j) ≤ 40 ∧ (if j = i then V else vt j) ≤ 40 ∧ (if j = i then H else lm j) ≤ 9 ∧ ((if j = i then K else kd j) = 0 → (if j = i then V else vt j) = 0) ∧ (j = 0 → (if j = i then K else kd j) = 0)
              by_cases ej : j = i
              · rw [if_pos ej, if_pos ej, if_pos ej, if_pos ej]
                exact ⟨by omega, k2, k3, k4, k5, k7, fun z => k8 (by omega)⟩
              · rw [if_neg ej, if_neg ej, if_neg ej, if_neg ej]
                exact hPP j (by omega)) hRR2
            rw [eX _ _ (z3.trans y2), eYk, y9, if_neg e]
            exact hih
    · exact Or.inl (hfault F q t' z1 z2 z3 z4 z5 z6)
theorem RP.fr' {a b a' b' : XS} {st : Nat} {kd sz vt lm : Nat → Nat} (h : RP a b st kd sz vt lm) (hG : gG a' = gG a) (hM : ∀ c, 19 + 5 * gG a 14 7 ≤ c → c ≤ 23 + 5 * gG a 14 7 → gM a' c = gM a c) (h1 : gM b' 0 9 = gM b 0 9) (h7 : gM b' 7 = gM b 7) (h8 : gM b' 8 = gM b 8) (h9 : gM b' 9 = gM b 9) (h10 : gM b' 10 = gM b 10) : RP a' b' st kd sz vt lm := by
  obtain ⟨q1, q2, q3, q4, q5⟩ := h
  refine ⟨by rw [hG]; exact q1, q2, by rw [hG, hM _ (by omega) (by omega)]; exact q3, by rw [h1]; exact q4, fun i hi => ?_⟩
  rw [hG, hM _ (by omega) (by omega), hM _ (by omega) (by omega), hM _ (by omega) (by omega), hM _ (by omega) (by omega), h7, h8, h9, h10]
  exact q5 i hi
/-- the reference copies what it read -/
theorem Y_cprow {st : Nat} (hst : st ≤ 12) (t : XS) : ∃ u, lo2 (p_Model_procedure_B161 (nI st)) fuelN 0 t = lq (sM u 0 18 (0 : Int32)) (fun s2 => lq (sM s2 0 21 (-1 : Int32)) (fun s3 => bind1 (p_Model_begins s3) (fun s6 => some ((gM s6 0 9), s6)))) ∧ gJ u = gJ t ∧ (∀ c, ¬ (7 ≤ c ∧ c ≤ 10) → gM u c = gM t c) ∧ ∀ j, j < st → gM u 7 j = gM t 11 j ∧ gM u 8 j = gM t 12 j ∧ gM u 9 j = gM t 13 j ∧ gM u 10 j = gM t 14 j := by
  have key : ∀ (m i f : Nat) (w : XS), i + m = st → m < f → gJ w = gJ t → (∀ c, ¬ (7 ≤ c ∧ c ≤ 10) → gM w c = gM t c) → (∀ j, j < i → gM w 7 j = gM t 11 j ∧ gM w 8 j = gM t 12 j ∧ gM w 9 j = gM t 13 j ∧ gM w 10 j = gM t 14 j) → ∃ u, lo2 (p_Model_procedure_B161 (nI st)) f (nI i) w = lq (sM u 0 18 (0 : Int32)) (fun s2 => lq (sM s2 0 21 (-1 : Int32)) (fun s3 => bind1 (p_Model_begins s3) (fun s6 => some ((gM s6 0 9), s6)))) ∧ gJ u = gJ t ∧ (∀ c, ¬ (7 ≤ c ∧ c ≤ 10) → gM u c = gM t c) ∧ ∀ j, j < st → gM u 7 j = gM t 11 j ∧ gM u 8 j = gM t 12 j ∧ gM u 9 j = gM t 13 j ∧ gM u 10 j = gM t 14 j := by
    intro m
    induction m with
    | zero =>
      intro i f w hi hf h1 h2 h3
      obtain ⟨f, rfl⟩ : ∃ g, f = g + 1 := ⟨f - 1, by omega⟩
      refine ⟨w, ?_, h1, h2, fun j hj => h3 j (by omega)⟩
      show p_Model_procedure_B161 _ _ (nI i) w = _
      unfold p_Model_procedure_B161
      rw [if_pos (nI_le (by omega) (by omega))]
    | succ m ih =>
      intro i f w hi hf h1 h2 h3
      obtain ⟨f, rfl⟩ : ∃ g, f = g + 1 := ⟨f - 1, by omega⟩
      have g13 : gIn (nI i) 13 = true := gIn_t (by omega) (by omega)
      have g12 : gIn (nI i) 12 = true := gIn_t (by omega) (by omega)
      have ih := ih (i + 1) f (sM (sM (sM (sM w 7 i (gM w 11 i)) 8 i (gM w 12 i)) 9 i (gM w 13 i)) 10 i (gM w 14 i)) (by omega) (by omega) h1 (fun c hc => by rw [gM_o (by omega), gM_o (by omega), gM_o (by omega), gM_o (by omega)]; exact h2 c hc) (fun j hj => by
        by_cases e : j = i
        · subst e
          refine ⟨?_, ?_, ?_, ?_⟩
          · rw [gM_o (by omega), gM_o (by omega), gM_o (by omega), gM_sM, if_pos rfl, if_pos rfl, h2 11 (by omega)]
          · rw [gM_o (by omega), gM_o (by omega), gM_sM, if_pos rfl, if_pos rfl, h2 12 (by omega)]
          · rw [gM_o (by omega), gM_sM, if_pos rfl, if_pos rfl, h2 13 (by omega)]
          · rw [gM_sM, if_pos rfl, if_pos rfl, h2 14 (by omega)]
        · have h4 := h3 j (by omega)
          refine ⟨?_, ?_, ?_, ?_⟩
          · rw [gM_o (by omega), gM_o (by omega), gM_o (by omega), gM_sM, if_pos rfl, if_neg e]; exact h4.1
          · rw [gM_o (by omega), gM_o (by omega), gM_sM, if_pos rfl, if_neg e, gM_o (by omega)]; exact h4.2.1
          · rw [gM_o (by omega), gM_sM, if_pos rfl, if_neg e, gM_o (by omega), gM_o (by omega)]; exact h4.2.2.1
          · rw [gM_sM, if_pos rfl, if_neg e, gM_o (by omega), gM_o (by omega), gM_o (by omega)]; exact h4.2.2.2)
      show ∃ u, p_Model_procedure_B161 (nI st) (lo2 (p_Model_procedure_B161 (nI st)) f) (nI i) w = _ ∧ _
      generalize lo2 (p_Model_procedure_B161 (nI st)) f = K at ih ⊢
      unfold p_Model_procedure_B161
      rw [if_neg (nI_ge (by omega) (by omega)), if_pos g13, if_pos g12, ix_nI (by omega), lq_e, if_pos g13, if_pos g12, lq_e, if_pos g13, if_pos g12, lq_e, if_pos g13, if_pos g12, lq_e, nI_1]
      exact ih
  exact key st 0 fuelN t (by omega) (by unfold fuelN; omega) rfl (fun _ _ => rfl) (fun j hj => absurd hj (Nat.not_lt_zero j))
theorem gG_lt {s : XS} {c0 j0 x : Nat} (h : ∀ c j, gG s c j < 2) (hx : x < 2) (c j : Nat) : gG (sG s c0 j0 x) c j < 2 := by
  rw [gG_sG]
  split
  · split
    · exact hx
    · exact h c j
  · exact h c j
theorem S_procedure : sim_procedure Rel := by
  intro a b hR
  obtain ⟨n, ho, pa, pr, ye, ki, np, st, kd, sz, vt, lm, dn, BL, hc, hX, hY, hT, hL, hB, hO, hp, hP, hS⟩ := id hR
  obtain ⟨tl, v, ht, t1, t2, t3⟩ := id hT
  have hk : gG a 0 7 < 2 := hO.2.1 0 7
  have hkk : gG a 14 7 < 2 := hO.2.1 14 7
  have hne : ¬ gG a 14 7 = gG a 0 7 := hP.1
  have hn := hc.1
  have h12 := hP.2.1
  have h13 := hS.1
  have hTX : TX a tl v := ⟨ht, t1, fun i hi => ⟨(t3 i hi).1, (t3 i hi).2.1⟩⟩
  have hTY : TY b tl v := ⟨ht, t2, fun i hi => ⟨(t3 i hi).1, (t3 i hi).2.2⟩⟩
  have hRX0 : RX (gG a 0 7) a (sM (sM (sM (sM a 9 1 0) 9 2 0) 9 3 0) (19 + 5 * gG a 0 7) 4 0) := ⟨rfl, rfl, fun c z1 z2 => (gM_o (by omega)).trans ((gM_o z1).trans ((gM_o z1).trans (gM_o z1)))⟩
  have hQZ0 : QZ b (sM (sM (sM b 0 25 0) 0 26 0) 0 32 41) := ⟨rfl, fun c z1 z2 z3 => (gM_o z1).trans ((gM_o z1).trans (gM_o z1)), fun j hj => by rw [gM_sM, if_pos rfl, if_neg (by omega), gM_sM, if_pos rfl, if_neg (by omega), gM_sM, if_pos rfl, if_neg (by omega)]⟩
  have eX0 : p_Reader_read (gG a 0 7) a = lo3 (p_Reader_read_B23 (gG a 0 7)) fuelN 1 (nI 0) (sM (sM (sM (sM a 9 1 0) 9 2 0) 9 3 0) (19 + 5 * gG a 0 7) 4 0) := by
    unfold p_Reader_read p_Plan_clear
    rw [lq_e, lq_e, lq_e, lq_e, bind1_s]; rfl
  have eY0 : p_Model_procedure b = lo4 (p_Model_procedure_B22) fuelN (nI 0) 1 1 (sM (sM (sM b 0 25 0) 0 26 0) 0 32 41) := by
    unfold p_Model_procedure
    rw [lq_e, lq_e, lq_e]; rfl
  have hmain := read_loop (s0 := a) (t0 := b) hk hTX hTY 12 0 fuelN fuelN _ _ 0 0 41 (fun _ => 0) (fun _ => 0) (fun _ => 0) (fun _ => 0) (by omega) (by unfold fuelN; omega) (by unfold fuelN; omega) hRX0 hQZ0 (Nat.zero_le _) (by rw [gM_o (by omega)]; rfl) (by rw [gM_o (by omega)]; rfl) (by rw [gM_o (by omega)]; rfl) (by omega) (by rw [gM_sM, if_pos rfl, if_pos rfl]; rfl) rfl rfl rfl (fun z => absurd z (by omega)) (fun j hj => absurd hj (Nat.not_lt_zero j)) (fun j hj => absurd hj (Nat.not_lt_zero j))
  rw [← eX0, ← eY0] at hmain
  rcases hmain with ⟨F, s', t', z1, z2, z3, z4, z5, z6⟩ | ⟨st', kd', sz', vt', lm', s', t', z1, z2, z3, z4, z5, z6, z7, z8, z9⟩
  · have e71 : gM s' 7 1 = nI tl := by rw [z4.2.2 7 (by omega) (by omega)]; exact t1
    have xo : ∀ c, ¬ c = 7 → ¬ c = 9 → ¬ (19 + 5 * gG a 0 7 ≤ c ∧ c ≤ 23 + 5 * gG a 0 7) → gM (sM s' 7 1 0) c = gM a c := fun c y1 y2 y3 => (gM_o y1).trans (z4.2.2 c y2 y3)
    have yo : ∀ c, ¬ c = 0 → ¬ (11 ≤ c ∧ c ≤ 14) → ¬ c = 18 → gM (sM t' 0 8 0) c = gM b c := fun c y1 y2 y3 => (gM_o y1).trans (z5.2.1 c y1 y2 y3)
    have y0 : ∀ j, j < 8 ∨ (8 < j ∧ j < 25) ∨ 32 < j → gM (sM t' 0 8 0) 0 j = gM b 0 j := fun j hj => by
      rw [gM_sM, if_pos rfl, if_neg (by omega)]; exact z5.2.2 j (by omega)
    refine ⟨(-2 : Int32) - nI F, sM s' 7 1 0, sM t' 0 8 0, ?_, z6, n, ho, pa, pr, ye, ki, np, st, kd, sz, vt, lm, dn, BL, hc, hX.fr (fun c h1 h2 => xo c (by omega) (by omega) (by omega)) (by show gJ s' 6 = _; rw [z4.2.1]), hY.fr (y0 0 (by omega)) (y0 5 (by omega)) (fun c h1 h2 => yo c (by omega) (by omega) (by omega)), ⟨0, v, by omega, rfl, rfl, fun i hi => absurd hi (Nat.not_lt_zero i)⟩, hL.fr (xo 10 (by omega) (by omega) (by omega)) (xo 11 (by omega) (by omega) (by omega)) (y0 23 (by omega)) (y0 24 (by omega)) (yo 17 (by omega) (by omega) (by omega)), hB.fr (xo 12 (by omega) (by omega) (by omega)) (xo 13 (by omega) (by omega) (by omega)) (y0 33 (by omega)) (y0 34 (by omega)) (y0 35 (by omega)) (y0 36 (by omega)) (yo 19 (by omega) (by omega) (by omega)), hO.fr z4.1 (fun c _ _ => by show gJ s' c = _; rw [z4.2.1]) (by rw [xo 29 (by omega) (by omega) (by omega)]) (y0 46 (by omega)) (by show gJ t' 25 = _; rw [z5.1]), hp, hP.fr' z4.1 (fun c h1 h2 => xo c (by omega) (by omega) (by omega)) (y0 9 (by omega)) (yo 7 (by omega) (by omega) (by omega)) (yo 8 (by omega) (by omega) (by omega)) (yo 9 (by omega) (by omega) (by omega)) (yo 10 (by omega) (by omega) (by omega)), hS.fr h12 (by rw [xo 14 (by omega) (by omega) (by omega)]) (by rw [xo 14 (by omega) (by omega) (by omega)]) (xo 16 (by omega) (by omega) (by omega)) (fun c h1 h2 => xo c (by omega) (by omega) (by omega)) (y0 18 (by omega)) (y0 21 (by omega)) (yo 15 (by omega) (by omega) (by omega)) (yo 16 (by omega) (by omega) (by omega))⟩
    unfold p_House_procedure p_Tape_cut
    rw [z3, bind2_s, if_neg (show ¬ (0 : Int32) < 0 by decide), e71, if_pos (show (0 : Int32) ≤ nI tl from nI_le (a := 0) (Nat.zero_le _) (by omega)), lq_e, bind2_s, if_neg (nI_ne0 (by omega) (by omega))]
  · have e71 : gM s' 7 1 = nI tl := by rw [z5.2.2 7 (by omega) (by omega)]; exact t1
    obtain ⟨u, u1, u2, u3, u4⟩ := Y_cprow z2 (sM (sM t' 0 8 0) 0 9 (nI st'))
    have uo : ∀ c, ¬ c = 0 → ¬ (11 ≤ c ∧ c ≤ 14) → ¬ c = 18 → ¬ (7 ≤ c ∧ c ≤ 10) → gM u c = gM b c := fun c y1 y2 y3 y4 => (u3 c y4).trans ((gM_o y1).trans ((gM_o y1).trans (z7.2.1 c y1 y2 y3)))
    have u0 : ∀ j, j < 8 ∨ (9 < j ∧ j < 25) ∨ 32 < j → gM u 0 j = gM b 0 j := fun j hj => by
      rw [u3 0 (by omega), gM_sM, if_pos rfl, if_neg (by omega), gM_sM, if_pos rfl, if_neg (by omega)]; exact z7.2.2 j (by omega)
    have u09 : gM u 0 9 = nI st' := by rw [u3 0 (by omega)]; rfl
    have u08 : gM u 0 8 = 0 := by rw [u3 0 (by omega)]; rfl
    have ug : ∀ j, j < st' → gM u 7 j = nI (kd' j) ∧ gM u 8 j = nI (sz' j) ∧ gM u 9 j = nI (vt' j) ∧ gM u 10 j = nI (lm' j) := fun j hj => by
      have h1 := u4 j hj
      have h2 := z8 j hj
      rw [h1.1, h1.2.1, h1.2.2.1, h1.2.2.2, gM_o (show ¬ 11 = 0 by omega), gM_o (show ¬ 11 = 0 by omega), gM_o (show ¬ 12 = 0 by omega), gM_o (show ¬ 12 = 0 by omega), gM_o (show ¬ 13 = 0 by omega), gM_o (show ¬ 13 = 0 by omega), gM_o (show ¬ 14 = 0 by omega), gM_o (show ¬ 14 = 0 by omega)]
      exact ⟨h2.2.1, h2.2.2.2.1, h2.2.2.2.2.2.1, h2.2.2.2.2.2.2.2⟩
    have w0 : ∀ j, ¬ j = 18 → ¬ j = 21 → gM (sM (sM u 0 18 0) 0 21 (-1)) 0 j = gM u 0 j := fun j y1 y2 => by rw [gM_sM, if_pos rfl, if_neg y2, gM_sM, if_pos rfl, if_neg y1]
    have wo : ∀ c, ¬ c = 0 → gM (sM (sM u 0 18 0) 0 21 (-1)) c = gM u c := fun c y1 => (gM_o y1).trans (gM_o y1)
    have sG0 : gG s' = gG a := z5.1
    have xo : ∀ c, ¬ c = 7 → ¬ c = 9 → ¬ c = 14 → ¬ (19 + 5 * gG a 0 7 ≤ c ∧ c ≤ 23 + 5 * gG a 0 7) → gM (sG (sM (sM (sG (sM s' 7 1 0) 14 7 (gG a 0 7)) 14 8 0) 14 9 (-1)) 0 7 (gG a 14 7)) c = gM a c := fun c y1 y2 y3 y4 => (gM_o y3).trans ((gM_o y3).trans ((gM_o y1).trans (z5.2.2 c y2 y4)))
    have xp : ∀ c, 19 ≤ c → c < 29 → gM (sG (sM (sM (sG (sM s' 7 1 0) 14 7 (gG a 0 7)) 14 8 0) 14 9 (-1)) 0 7 (gG a 14 7)) c = gM s' c := fun c y1 y2 => (gM_o (by omega)).trans ((gM_o (by omega)).trans (gM_o (by omega)))
    have xG : gG (sG (sM (sM (sG (sM s' 7 1 0) 14 7 (gG a 0 7)) 14 8 0) 14 9 (-1)) 0 7 (gG a 14 7)) 14 7 = gG a 0 7 := rfl
    have xG0 : gG (sG (sM (sM (sG (sM s' 7 1 0) 14 7 (gG a 0 7)) 14 8 0) 14 9 (-1)) 0 7 (gG a 14 7)) 0 7 = gG a 14 7 := rfl
    have xGo : ∀ c, ¬ c = 0 → ¬ c = 14 → ∀ j, gG (sG (sM (sM (sG (sM s' 7 1 0) 14 7 (gG a 0 7)) 14 8 0) 14 9 (-1)) 0 7 (gG a 14 7)) c j = gG a c j := fun c y1 y2 j => by
      rw [gG_sG, if_neg y1]
      show gG (sG (sM s' 7 1 0) 14 7 (gG a 0 7)) c j = _
      rw [gG_sG, if_neg y2]
      show gG s' c j = _
      rw [sG0]
    have xGb : ∀ c j, gG (sG (sM (sM (sG (sM s' 7 1 0) 14 7 (gG a 0 7)) 14 8 0) 14 9 (-1)) 0 7 (gG a 14 7)) c j < 2 := fun c j => by
      refine gG_lt (fun c j => ?_) hkk c j
      refine gG_lt (fun c j => ?_) hk c j
      show gG s' c j < 2
      rw [sG0]; exact hO.2.1 c j
    have xJ : gJ (sG (sM (sM (sG (sM s' 7 1 0) 14 7 (gG a 0 7)) 14 8 0) 14 9 (-1)) 0 7 (gG a 14 7)) = gJ a := z5.2.1
    obtain ⟨w, b1, b2, b3⟩ := begin_rel (a := sG (sM (sM (sG (sM s' 7 1 0) 14 7 (gG a 0 7)) 14 8 0) 14 9 (-1)) 0 7 (gG a 14 7)) (b := sM (sM u 0 18 0) 0 21 (-1)) (n := n) (ho := ho) (pa := pa) (pr := pr) (ye := ye) (ki := ki) (np := np) (st := st') (kd := kd') (sz := sz') (vt := vt') (lm := lm') (dn := 0) (BL := BL) hc (hX.fr (fun c h1 h2 => xo c (by omega) (by omega) (by omega) (by omega)) (by rw [xJ])) (hY.fr (by rw [w0 0 (by omega) (by omega)]; exact u0 0 (by omega)) (by rw [w0 5 (by omega) (by omega)]; exact u0 5 (by omega)) (fun c h1 h2 => (wo c (by omega)).trans (uo c (by omega) (by omega) (by omega) (by omega)))) ⟨0, v, by omega, rfl, by rw [w0 8 (by omega) (by omega)]; exact u08, fun i hi => absurd hi (Nat.not_lt_zero i)⟩ (hL.fr (xo 10 (by omega) (by omega) (by omega) (by omega)) (xo 11 (by omega) (by omega) (by omega) (by omega)) (by rw [w0 23 (by omega) (by omega)]; exact u0 23 (by omega)) (by rw [w0 24 (by omega) (by omega)]; exact u0 24 (by omega)) ((wo 17 (by omega)).trans (uo 17 (by omega) (by omega) (by omega) (by omega)))) (hB.fr (xo 12 (by omega) (by omega) (by omega) (by omega)) (xo 13 (by omega) (by omega) (by omega) (by omega)) (by rw [w0 33 (by omega) (by omega)]; exact u0 33 (by omega)) (by rw [w0 34 (by omega) (by omega)]; exact u0 34 (by omega)) (by rw [w0 35 (by omega) (by omega)]; exact u0 35 (by omega)) (by rw [w0 36 (by omega) (by omega)]; exact u0 36 (by omega)) ((wo 19 (by omega)).trans (uo 19 (by omega) (by omega) (by omega) (by omega)))) (by
        unfold RO
        rw [xJ, xGo 29 (by omega) (by omega) 11, xGo 29 (by omega) (by omega) 12, xGo 29 (by omega) (by omega) 13, xGo 29 (by omega) (by omega) 14, xo 29 (by omega) (by omega) (by omega) (by omega), w0 46 (by omega) (by omega), u0 46 (by omega)]
        have e25 : gJ (sM (sM u 0 18 0) 0 21 (-1)) 25 = gJ b 25 := by
          show gJ u 25 = _
          rw [u2]
          show gJ t' 25 = _
          rw [z7.1]
        rw [e25]
        exact ⟨hO.1, xGb, hO.2.2⟩) z3 (by
        unfold RP
        rw [xG, xG0]
        refine ⟨fun q => hne q.symm, z2, by rw [xp _ (by omega) (by omega)]; exact z6, by rw [w0 9 (by omega) (by omega)]; exact u09, fun i hi => ?_⟩
        have h1 := ug i hi
        have h2 := z8 i hi
        rw [xp _ (by omega) (by omega), xp _ (by omega) (by omega), xp _ (by omega) (by omega), xp _ (by omega) (by omega), wo 7 (by omega), wo 8 (by omega), wo 9 (by omega), wo 10 (by omega)]
        exact ⟨h2.1, h1.1, h2.2.2.1, h1.2.1, h2.2.2.2.2.1, h1.2.2.1, h2.2.2.2.2.2.2.1, h1.2.2.2⟩) (Nat.zero_le _) rfl rfl rfl (fun r h1 h2 => absurd h2 (by omega))
    refine ⟨nI st', _, w, ?_, ?_, b3⟩
    · have eG7 : gG (sM s' 7 1 0) 0 7 = gG a 0 7 := by show gG s' 0 7 = _; rw [sG0]
      have eG14 : gG (sM s' 7 1 0) 14 7 = gG a 14 7 := by show gG s' 14 7 = _; rw [sG0]
      unfold p_House_procedure p_Tape_cut p_Sess_begin p_Sess_stepsInAll p_Plan_length
      rw [z4, bind2_s, if_neg (show ¬ (0 : Int32) < 0 by decide), e71, if_pos (show (0 : Int32) ≤ nI tl from nI_le (a := 0) (Nat.zero_le _) (by omega)), lq_e, bind2_s, if_pos (show nI 0 = 0 from rfl), eG7, lq_e, lq_e, lq_e, bind2_s, eG14, if_pos (decide_eq_true hkk), lq_e, xG, bind1_s, bind1_s, xp _ (by omega) (by omega), z6]
    · rw [z9]
      unfold p_Model_procedure_K136
      rw [lq_e, if_neg one_ne, lq_e, u1, lq_e, lq_e, b1, bind1_s, b2 0 (by omega) (by omega), w0 9 (by omega) (by omega), u09]
