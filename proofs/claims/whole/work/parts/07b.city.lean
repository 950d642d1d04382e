/-! THE CITY: what its reads answer, on both sides -/
theorem tz_0 : ((0 : Int32) = 0) := rfl
theorem nI_1e : (1 : Int32) = nI 1 := rfl
theorem nI_0e : (0 : Int32) = nI 0 := rfl
theorem b01 {b : Bool} : (if b then nI 1 else nI 0) = nI (if b then 1 else 0) := by cases b <;> rfl
section CITYX
variable {a : XS} {n : Nat} {ho pa pr ye : Nat → Nat} {ki : Nat → Nat → Bool} {np : Nat}
theorem X_has_t (h : XC a n ho pa pr ye ki np) (hn : n ≤ 40) {i : Nat} (hi : i < n) : p_City_has (nI i) a = some 1 := by
  unfold p_City_has
  rw [h.1, if_neg (nI_pos (by omega)), if_neg (nI_ge hi (by omega)), if_neg (show ¬ (40 : Int32) ≤ nI i from nI_ge (b := 40) (by omega) (by omega))]
theorem X_has_f (h : XC a n ho pa pr ye ki np) (hn : n ≤ 40) {x : Int32} (hx : ∀ i, i < n → x ≠ nI i) : p_City_has x a = some 0 := by
  unfold p_City_has
  by_cases h0 : x < 0
  · rw [if_pos h0]
  · rw [if_neg h0, h.1]
    obtain ⟨j, hj, e⟩ := nI_of h0
    subst e
    have : n ≤ j := Nat.not_lt.mp (fun q => hx j q rfl)
    rw [if_pos (nI_le this hj)]
/-- a number is a citizen's, or it is not -/
theorem cit_cases (n : Nat) (x : Int32) : (∃ i, i < n ∧ x = nI i) ∨ ∀ i, i < n → x ≠ nI i := by
  by_cases h : ∃ i, i < n ∧ x = nI i
  · exact Or.inl h
  · exact Or.inr (fun i hi e => h ⟨i, hi, e⟩)
theorem X_isThere_t (h : XC a n ho pa pr ye ki np) (hc : CC n ho pa pr ye ki np) {i : Nat} (hi : i < n) : p_City_isThere (nI i) a = some (nI (pr i)) := by
  have hn := hc.1
  have hp := (hc.2.2.1 i hi).2.2
  unfold p_City_isThere
  rw [X_has_t h hn hi, bind1_s, if_neg (by decide), if_pos (gIn_t (by omega) (by omega)), ix_nI (by omega), (h.2.2.1 i hi).2.2]
  rcases (show pr i = 0 ∨ pr i = 1 by omega) with e | e
  · rw [e, if_pos (show nI 0 = 0 from rfl)]; rfl
  · rw [e, if_neg (by decide)]; rfl
theorem X_houseOf (h : XC a n ho pa pr ye ki np) (hc : CC n ho pa pr ye ki np) {i : Nat} (hi : i < n) : p_City_houseOf (nI i) a = some (nI (ho i)) := by
  have hn := hc.1
  unfold p_City_houseOf
  rw [X_has_t h hn hi, bind1_s, if_neg (by decide), if_pos (gIn_t (by omega) (by omega)), ix_nI (by omega), (h.2.2.1 i hi).1]
theorem X_partyOf (h : XC a n ho pa pr ye ki np) (hc : CC n ho pa pr ye ki np) {i : Nat} (hi : i < n) : p_City_partyOf (nI i) a = some (nI (pa i)) := by
  have hn := hc.1
  unfold p_City_partyOf
  rw [X_has_t h hn hi, bind1_s, if_neg (by decide), if_pos (gIn_t (by omega) (by omega)), ix_nI (by omega), (h.2.2.1 i hi).2.1]
theorem isParty_t {p : Nat} (h : p < 4) : p_City_isParty (nI p) = some 1 := by
  unfold p_City_isParty
  rw [if_neg (nI_pos (by omega)), if_neg (show ¬ (4 : Int32) ≤ nI p from nI_ge (b := 4) (by omega) (by omega))]
theorem isHouse_t {p : Nat} (h : p < 12) : p_City_isHouse (nI p) = some 1 := by
  unfold p_City_isHouse
  rw [if_neg (nI_pos (by omega)), if_neg (show ¬ (12 : Int32) ≤ nI p from nI_ge (b := 12) (by omega) (by omega))]
theorem isParty_f {x : Int32} (h : ∀ p, p < 4 → x ≠ nI p) : p_City_isParty x = some 0 := by
  unfold p_City_isParty
  by_cases h0 : x < 0
  · rw [if_pos h0]
  · obtain ⟨j, hj, e⟩ := nI_of h0
    subst e
    have : 4 ≤ j := Nat.not_lt.mp (fun q => h j q rfl)
    rw [if_neg h0, if_pos (show (4 : Int32) ≤ nI j from nI_le (a := 4) this hj)]
theorem isHouse_f {x : Int32} (h : ∀ p, p < 12 → x ≠ nI p) : p_City_isHouse x = some 0 := by
  unfold p_City_isHouse
  by_cases h0 : x < 0
  · rw [if_pos h0]
  · obtain ⟨j, hj, e⟩ := nI_of h0
    subst e
    have : 12 ≤ j := Nat.not_lt.mp (fun q => h j q rfl)
    rw [if_neg h0, if_pos (show (12 : Int32) ≤ nI j from nI_le (a := 12) this hj)]
/-- the reference's in(x, 0, k - 1) -/
theorem Y_in_t {i k : Nat} (h : i < k) (hk : k < 2 ^ 31) : p_Model_in (nI i) 0 (nI k - 1) = some 1 := by
  unfold p_Model_in
  rw [if_neg (nI_pos (by omega)), show nI k - 1 = nI (k - 1) from pk_sub (b := 1) (by omega), if_neg (nI_nlt (by omega) (by omega))]
theorem Y_in_f {x : Int32} {k : Nat} (hk : k < 2 ^ 31) (h : ∀ i, i < k → x ≠ nI i) : p_Model_in x 0 (nI k - 1) = some 0 := by
  unfold p_Model_in
  by_cases h0 : x < 0
  · rw [if_pos h0]
  · obtain ⟨j, hj, e⟩ := nI_of h0
    subst e
    have hkj : k ≤ j := Nat.not_lt.mp (fun q => h j q rfl)
    rw [if_neg h0]
    rcases Nat.eq_zero_or_pos k with e | e
    · subst e
      rw [if_pos (by
        rw [Int32.lt_iff_toInt_lt, nI_toInt hj]
        have : (nI 0 - 1 : Int32).toInt = -1 := by decide
        omega)]
    · rw [show nI k - 1 = nI (k - 1) from pk_sub (b := 1) (by omega), if_pos (nI_lt (by omega) (by omega))]
theorem Y_in3_t {p k : Nat} {K : Int32} (eK : K = nI (k - 1)) (h : p < k) (hk : k < 2 ^ 31) : p_Model_in (nI p) 0 K = some 1 := by
  unfold p_Model_in
  rw [eK, if_neg (nI_pos (by omega)), if_neg (nI_nlt (by omega) (by omega))]
theorem Y_in3_f {x : Int32} {k : Nat} {K : Int32} (eK : K = nI (k - 1)) (hk0 : 0 < k) (hk : k < 2 ^ 31) (h : ∀ p, p < k → x ≠ nI p) : p_Model_in x 0 K = some 0 := by
  unfold p_Model_in
  by_cases h0 : x < 0
  · rw [if_pos h0]
  · obtain ⟨j, hj, e⟩ := nI_of h0
    subst e
    have hkj : k ≤ j := Nat.not_lt.mp (fun q => h j q rfl)
    rw [if_neg h0, eK, if_pos (nI_lt (by omega) (by omega))]
end CITYX
section CITYY
variable {b : XS} {n : Nat} {ho pa pr ye : Nat → Nat} {ki : Nat → Nat → Bool} {np : Nat}
theorem Y_cit_t (h : YC b n ho pa pr ye ki np) (hn : n ≤ 40) {i : Nat} (hi : i < n) : p_Model_isCitizen (nI i) b = some 1 := by
  unfold p_Model_isCitizen
  rw [h.1, Y_in_t hi (by omega), bind1_s, if_pos (by decide)]
theorem Y_cit_f (h : YC b n ho pa pr ye ki np) (hn : n ≤ 40) {x : Int32} (hx : ∀ i, i < n → x ≠ nI i) : p_Model_isCitizen x b = some 0 := by
  unfold p_Model_isCitizen
  rw [h.1, Y_in_f (by omega) hx, bind1_s, if_pos (by decide)]
end CITYY
/-! a long's bit, by shift and mask -/
theorem lcmp0 (x : Int64) : lg_cmp x 0 = 0 ↔ x = 0 := by
  unfold lg_cmp
  constructor
  · intro h
    split at h
    · cases h
    · split at h
      · assumption
      · cases h
  · intro h
    subst h
    decide
theorem sh_63 : ∀ j : Nat, j < 64 → ((nI j).toInt64.toUInt64 &&& Int64.toUInt64 63) = UInt64.ofNat j := by
  decide +kernel
theorem ts_bit {w : Int64} {s : UInt64} {j : Nat} (hj : j < 64) (hs : s.toNat = j) : ((w.toUInt64 >>> s).toInt64 &&& 1) = 0 ↔ w.toBitVec.getLsbD j = false := by
  have e : (w.toUInt64 >>> s).toInt64.toBitVec = w.toBitVec >>> j := by
    apply BitVec.eq_of_toNat_eq
    show (w.toUInt64 >>> s).toNat = _
    rw [UInt64.toNat_shiftRight, hs, Nat.mod_eq_of_lt hj, BitVec.toNat_ushiftRight]
    rfl
  rw [← Int64.toBitVec_inj, Int64.toBitVec_and, e]
  show w.toBitVec >>> j &&& 1#64 = 0#64 ↔ _
  constructor
  · intro h
    have t := congrArg (fun x => x.getLsbD 0) h
    simpa using t
  · intro h
    apply BitVec.eq_of_getLsbD_eq
    intro i hi
    cases i with
    | zero => simp [h]
    | succ i => simp
theorem bit_read (w : Int64) {j : Nat} (hj : j < 64) : (lg_cmp ((w.toUInt64 >>> ((nI j).toInt64.toUInt64 &&& Int64.toUInt64 63)).toInt64 &&& (1 : Int64)) (0 : Int64) = 0) ↔ w.toBitVec.getLsbD j = false := by
  rw [lcmp0, sh_63 j hj]
  exact ts_bit hj (UInt64.toNat_ofNat_of_lt (Nat.lt_trans hj (by decide)))
theorem sh_one : ∀ j : Nat, j < 64 → ((1 : Int64) <<< ((nI j).toInt64 &&& 63)).toBitVec = BitVec.twoPow 64 j := by
  decide +kernel
theorem bit_set (w : Int64) {i j : Nat} (hi : i < 64) (hj : j < 64) : (w ||| ((1 : Int64) <<< ((nI j).toInt64 &&& 63))).toBitVec.getLsbD i = (w.toBitVec.getLsbD i || decide (i = j)) := by
  rw [Int64.toBitVec_or, sh_one j hj, BitVec.getLsbD_or, BitVec.getLsbD_twoPow]
  by_cases e : j = i
  · subst e; simp [hi]
  · simp [e, Ne.symm e]
section CITYX2
variable {a : XS} {n : Nat} {ho pa pr ye : Nat → Nat} {ki : Nat → Nat → Bool} {np : Nat}
theorem X_wasTold (h : XC a n ho pa pr ye ki np) {i j : Nat} (hi : i < 40) (hj : j < 40) : p_City_wasTold (nI i) (nI j) a = some (nI (if ki i j then 1 else 0)) := by
  unfold p_City_wasTold
  rw [if_pos (gIn_t hi (by omega)), ix_nI (by omega)]
  have hk := h.2.2.2.2 i j hi hj
  cases e : ki i j with
  | false =>
    rw [if_pos ((bit_read _ (by omega)).mpr (by rw [hk, e]))]; rfl
  | true =>
    rw [if_neg (fun q => by have := (bit_read _ (by omega)).mp q; rw [hk, e] at this; cases this)]; rfl
theorem X_areKin (h : XC a n ho pa pr ye ki np) (hc : CC n ho pa pr ye ki np) {i j : Nat} (hi : i < n) (hj : j < n) : p_City_areKin (nI i) (nI j) a = some (nI (if i ≠ j ∧ (ho i = ho j ∨ ki i j = true) then 1 else 0)) := by
  have hn := hc.1
  have hoi := (hc.2.2.1 i hi).1
  have hoj := (hc.2.2.1 j hj).1
  unfold p_City_areKin
  rw [X_has_t h hn hi, bind1_s, if_neg (by decide), X_has_t h hn hj, bind1_s, if_neg (by decide)]
  by_cases e : i = j
  · subst e
    rw [if_pos rfl, if_neg (fun q => q.1 rfl)]; rfl
  · rw [if_neg (fun q => e ((nI_eq (by omega) (by omega)).mp q)), if_pos (gIn_t (by omega) (by omega)), if_pos (gIn_t (by omega) (by omega)), ix_nI (by omega), ix_nI (by omega), (h.2.2.1 i hi).1, (h.2.2.1 j hj).1]
    by_cases e2 : ho i = ho j
    · rw [if_pos (by rw [e2]), if_pos ⟨e, Or.inl e2⟩]; rfl
    · rw [if_neg (fun q => e2 ((nI_eq (by omega) (by omega)).mp q)), X_wasTold h (by omega) (by omega), bind1_s]
      cases e3 : ki i j with
      | false => rw [if_pos (by rfl), if_neg (fun q => by rcases q.2 with q | q; exact e2 q; cases q)]; rfl
      | true => rw [if_neg (by decide), if_pos ⟨e, Or.inr rfl⟩]; rfl
theorem X_saysYes (h : XC a n ho pa pr ye ki np) (hc : CC n ho pa pr ye ki np) {i j : Nat} (hi : i < 4) (hj : j < 4) : p_City_saysYes (nI i) (nI j) a = some (nI (ye (i * 4 + j))) := by
  have hy := hc.2.2.2.1 (i * 4 + j) (by omega)
  unfold p_City_saysYes
  rw [isParty_t hi, bind1_s, if_neg (by decide), isParty_t hj, bind1_s, if_neg (by decide), show nI i * (4 : Int32) + nI j = nI (i * 4 + j) from by rw [show (4 : Int32) = nI 4 from rfl, pk_mul, nI_add], if_pos (gIn_t (by omega) (by omega)), ix_nI (by omega), h.2.2.2.1 _ (by omega)]
  rcases (show ye (i * 4 + j) = 0 ∨ ye (i * 4 + j) = 1 by omega) with e | e
  · rw [e, if_pos (show nI 0 = 0 from rfl)]; rfl
  · rw [e, if_neg (by decide)]; rfl
/-! counts over the citizens -/
theorem X_kinOf_loop (h : XC a n ho pa pr ye ki np) (hc : CC n ho pa pr ye ki np) {c : Nat} (hcn : c < n) (P : Nat → Bool) (hP : ∀ o, P o = decide (c ≠ o ∧ (ho c = ho o ∨ ki c o = true))) : ∀ (m i f : Nat), i + m = n → m < f → lo2 (p_City_kinOf_B4 (nI c) a) f (nI (cnt P i)) (nI i) = some (nI (cnt P n)) := by
  have hn := hc.1
  intro m
  induction m with
  | zero =>
    intro i f hi hf
    obtain ⟨f, rfl⟩ : ∃ g, f = g + 1 := ⟨f - 1, by omega⟩
    show p_City_kinOf_B4 (nI c) a _ _ (nI i) = _
    unfold p_City_kinOf_B4
    rw [h.1, if_pos (nI_le (by omega) (by omega)), show i = n by omega]
  | succ m ih =>
    intro i f hi hf
    obtain ⟨f, rfl⟩ : ∃ g, f = g + 1 := ⟨f - 1, by omega⟩
    have ih := ih (i + 1) f (by omega) (by omega)
    show p_City_kinOf_B4 (nI c) a (lo2 (p_City_kinOf_B4 (nI c) a) f) _ (nI i) = _
    generalize lo2 (p_City_kinOf_B4 (nI c) a) f = k at ih ⊢
    unfold p_City_kinOf_B4
    rw [h.1, if_neg (nI_ge (by omega) (by omega)), X_areKin h hc hcn (by omega), bind1_s, show nI i + (1 : Int32) = nI (i + 1) from nI_1 i, show nI (cnt P i) + (1 : Int32) = nI (cnt P i + 1) from nI_1 _]
    by_cases e : c ≠ i ∧ (ho c = ho i ∨ ki c i = true)
    · rw [if_pos e, if_neg (by decide), show cnt P i + 1 = cnt P (i + 1) from by show _ = cnt P i + _; rw [hP i, if_pos (decide_eq_true e)]]
      exact ih
    · rw [if_neg e, if_pos (by rfl), show nI (cnt P i) = nI (cnt P (i + 1)) from by show _ = nI (cnt P i + _); rw [hP i, if_neg (by simpa using e)]; rfl]
      exact ih
theorem X_kinOf (h : XC a n ho pa pr ye ki np) (hc : CC n ho pa pr ye ki np) {c : Nat} (hcn : c < n) : p_City_kinOf (nI c) a = some (nI (cnt (fun o => decide (c ≠ o ∧ (ho c = ho o ∨ ki c o = true))) n)) :=
  X_kinOf_loop h hc hcn _ (fun _ => rfl) n 0 fuelN (by omega) (by have := hc.1; unfold fuelN; omega)
theorem X_sizeThere (h : XC a n ho pa pr ye ki np) (hc : CC n ho pa pr ye ki np) : p_City_sizeThere a = some (nI (cnt (fun o => pr o == 1) n)) := by
  have hn := hc.1
  have key : ∀ (m i f : Nat), i + m = n → m < f → lo2 (p_City_sizeThere_B4 a) f (nI (cnt (fun o => pr o == 1) i)) (nI i) = some (nI (cnt (fun o => pr o == 1) n)) := by
    intro m
    induction m with
    | zero =>
      intro i f hi hf
      obtain ⟨f, rfl⟩ : ∃ g, f = g + 1 := ⟨f - 1, by omega⟩
      show p_City_sizeThere_B4 a _ _ (nI i) = _
      unfold p_City_sizeThere_B4
      rw [h.1, if_pos (nI_le (by omega) (by omega)), show i = n by omega]
    | succ m ih =>
      intro i f hi hf
      obtain ⟨f, rfl⟩ : ∃ g, f = g + 1 := ⟨f - 1, by omega⟩
      have ih := ih (i + 1) f (by omega) (by omega)
      have hp := (hc.2.2.1 i (by omega)).2.2
      show p_City_sizeThere_B4 a (lo2 (p_City_sizeThere_B4 a) f) _ (nI i) = _
      generalize lo2 (p_City_sizeThere_B4 a) f = k at ih ⊢
      unfold p_City_sizeThere_B4
      rw [h.1, if_neg (nI_ge (by omega) (by omega)), X_isThere_t h hc (by omega), bind1_s, show nI i + (1 : Int32) = nI (i + 1) from nI_1 i, nI_1]
      rcases (show pr i = 0 ∨ pr i = 1 by omega) with e | e
      · have e2 : cnt (fun o => pr o == 1) (i + 1) = cnt (fun o => pr o == 1) i := by show _ + _ = _; simp [e]
        rw [e2] at ih
        rw [e, if_pos (by rfl)]; exact ih
      · have e2 : cnt (fun o => pr o == 1) (i + 1) = cnt (fun o => pr o == 1) i + 1 := by show _ + _ = _; simp [e]
        rw [e2] at ih
        rw [e, if_neg (by decide)]; exact ih
  exact key n 0 fuelN (by omega) (by unfold fuelN; omega)
end CITYX2
