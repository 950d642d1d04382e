def yesY0 : Nat → Int32 := (upd (upd (upd (upd (upd (upd (upd (upd (upd (upd (upd (upd (upd (upd (upd (upd (fun _ => 0) ((0 : Int32)).toNatClampNeg (vp_nar .boolean (1 : Int32))) ((1 : Int32)).toNatClampNeg (vp_nar .boolean (0 : Int32))) ((2 : Int32)).toNatClampNeg (vp_nar .boolean (0 : Int32))) ((3 : Int32)).toNatClampNeg (vp_nar .boolean (0 : Int32))) ((4 : Int32)).toNatClampNeg (vp_nar .boolean (0 : Int32))) ((5 : Int32)).toNatClampNeg (vp_nar .boolean (1 : Int32))) ((6 : Int32)).toNatClampNeg (vp_nar .boolean (0 : Int32))) ((7 : Int32)).toNatClampNeg (vp_nar .boolean (0 : Int32))) ((8 : Int32)).toNatClampNeg (vp_nar .boolean (0 : Int32))) ((9 : Int32)).toNatClampNeg (vp_nar .boolean (0 : Int32))) ((10 : Int32)).toNatClampNeg (vp_nar .boolean (1 : Int32))) ((11 : Int32)).toNatClampNeg (vp_nar .boolean (0 : Int32))) ((12 : Int32)).toNatClampNeg (vp_nar .boolean (0 : Int32))) ((13 : Int32)).toNatClampNeg (vp_nar .boolean (0 : Int32))) ((14 : Int32)).toNatClampNeg (vp_nar .boolean (0 : Int32))) ((15 : Int32)).toNatClampNeg (vp_nar .boolean (1 : Int32)))
def sYf (y : Nat → Int32) : XS := (fun _ _ => 0, fun c => if c = 0 then (fun j => if j = 21 then -1 else if j = 33 then -1 else 0) else if c = 5 then y else (fun _ => 0), fun _ _ => 0)
def sY0 : XS := sYf yesY0
set_option maxHeartbeats 2000000 in
set_option maxRecDepth 100000 in
theorem litY (Z : ZT) (h0 : Nat) (u : Nat → Nat) (y0 : Nat → Int32) : [(h0, .inr (10, [.int 0, .ref (u 0), .ref (u 1), .ref (u 2), .ref (u 3), .int 0, .ref (u 4), .ref (u 5), .int 0, .int 0, .ref (u 6), .ref (u 7), .ref (u 8), .ref (u 9), .ref (u 10), .ref (u 11), .ref (u 12), .ref (u 13), .int 0, .ref (u 14), .ref (u 15), .int (-1 : Int32), .ref (u 16), .int 0, .int 0, .int 0, .int 0, .int 0, .int 0, .int 0, .int 0, .ref (u 17), .int 0, .int (-1 : Int32), .int 0, .int 0, .int 0, .ref (u 18), .ref (u 19), .int 0, .ref (u 20), .ref (u 21), .int 0, .ref (u 22), .ref (u 23), .ref (u 24), .int 0, .long 0, .ref (u 25), .int 0])), ((u 0), .inl (Z.2.1 1, 40, .inl (fun _ => 0))), ((u 1), .inl (Z.2.1 1, 40, .inl (fun _ => 0))), ((u 2), .inl (Z.2.1 3, 40, .inl (fun _ => 0))), ((u 3), .inl (Z.2.1 3, 1600, .inl (fun _ => 0))), ((u 4), .inl (Z.2.1 3, 16, .inl y0)), ((u 5), .inl (Z.2.1 0, 300, .inl (fun _ => 0))), ((u 6), .inl (Z.2.1 1, 12, .inl (fun _ => 0))), ((u 7), .inl (Z.2.1 1, 12, .inl (fun _ => 0))), ((u 8), .inl (Z.2.1 1, 12, .inl (fun _ => 0))), ((u 9), .inl (Z.2.1 1, 12, .inl (fun _ => 0))), ((u 10), .inl (Z.2.1 1, 13, .inl (fun _ => 0))), ((u 11), .inl (Z.2.1 1, 13, .inl (fun _ => 0))), ((u 12), .inl (Z.2.1 1, 13, .inl (fun _ => 0))), ((u 13), .inl (Z.2.1 1, 13, .inl (fun _ => 0))), ((u 14), .inl (Z.2.1 1, 13, .inl (fun _ => 0))), ((u 15), .inl (Z.2.1 1, 520, .inl (fun _ => 0))), ((u 16), .inl (Z.2.1 1, 500, .inl (fun _ => 0))), ((u 17), .inl (Z.2.1 1, 6, .inl (fun _ => 0))), ((u 18), .inl (Z.2.1 1, 40, .inl (fun _ => 0))), ((u 19), .inl (Z.2.1 1, 40, .inl (fun _ => 0))), ((u 20), .inl (Z.2.1 1, 600, .inl (fun _ => 0))), ((u 21), .inl (Z.2.1 2, 600, .inr (.inl (fun _ => 0)))), ((u 22), .inl (Z.2.1 1, 601, .inl (fun _ => 0))), ((u 23), .inl (Z.2.1 2, 601, .inr (.inl (fun _ => 0)))), ((u 24), .inl (Z.2.1 2, 42, .inr (.inl (fun _ => 0)))), ((u 25), .inl (Z.2.1 2, 40, .inr (.inl (fun _ => 0))))] = wY Z (fun k => if k = 0 then h0 else u (k - 1)) (sYf y0) := rfl
theorem w1_Model_eq (Z : ZT) (h0 : Nat) (u : Nat → Nat) : w1_Model Z h0 u = wY Z (fun k => if k = 0 then h0 else u (k - 1)) sY0 := litY Z h0 u yesY0
theorem gG_sX0 : ∀ a b, gG sX0 a b < 2 := by
  intro a b
  show (if a = 0 then (if b = 7 then 1 else 0) else if a = 29 then (if b = 12 then 1 else if b = 14 then 1 else 0) else 0) < 2
  repeat' split
  all_goals omega
theorem gG_sY0 : ∀ a b, gG sY0 a b < 2 := fun _ _ => (by decide : (0 : Nat) < 2)
theorem e_callH {p : Program} {l : Launch} {e : Env} {R : Room} {s0 : State} {m : MethodId} {args : Array Value} {below : List Frame} {meth : Method} {c : Code} {H : Heap} {locs : List Loc} {cells slots : Nat} {P : State → Prop} {cc : ByteArray} {pc : Nat} {ls : Array Slot} {rest st : List Value} {A : Nat → Prop} {Z : ZT} {Ts : List Cond} {own : String} {nL index : Nat} {y : MethodName} {ys : List Cond} {rm : Room} {b mc ms n maxL : Nat} {bytes : ByteArray} {w0 : va_W} (F : CallFix p m c cc nL s0 args Ts own) (hM : KCH l Z y ys rm [.ref b] w0 b mc ms) (cw : CallB R s0 args own index y bytes maxL none ys rm mc ms n ∧ y.name = "<init>" ∧ (Cond.instanceMethod y).before args s0 = true) (h : HE Z A s0 H locs w0) (hn : ([] : List Value).length = n) (hls : ls.size = nL) (hst : st = .ref b :: rest) (hroom : (rest.map fun v => v.category).sum ≤ 8) (hcs : cells + mc ≤ R.cells ∧ slots + ms ≤ R.slots) (hdg : decode cc pc = .ok (.invokespecial index, 3))
    (kk : ∀ (u : Nat → Nat) (H1 : Heap) (locs1 : List Loc), u 0 = b → HE Z A s0 H1 locs1 (wX Z u sX0) → W p l e R s0 m args below meth c H1 locs1 (cells + mc) (slots + ms) P (F0 m (pc + 3) ls rest)) : W p l e R s0 m args below meth c H locs cells slots P (F0 m pc ls st) := by
  have hF : ∀ q, va_A w0 H.size q → A q := HE.free (wa := []) h
  refine va_callv (va_runI (As := []) (rest := rest) (b := b) F (hM H.size) cw ⟨preE_blind, fun U hU hW => ⟨rfl, by rw [hU], by rw [hU]; exact h.2.1, va_K.moved hW.alike h.1, h.2.2.1.weaken (fun _ _ _ _ => trivial), h.2.2.2.2.2.warm hW⟩⟩ rfl hn hls hst (lv_room hroom) hdg hcs) h.2.2.2.1 (fun q _ z => hF q z) hF (fun u t H1 locs1 ht hvm hw hB hz1 hk1 hS => ?_)
  obtain ⟨b1, b2, b3⟩ := hB
  rw [ht] at b1
  exact kk u H1 locs1 hw ⟨h.1, b1, b3.weaken (fun _ _ _ z => hF _ z), hS, h.2.2.2.2.1, h.2.2.2.2.2⟩
theorem arr_K {s : State} {args : Array Value} {ty : FieldType} (h : (Cond.arrayClass ty).before args s = true) : ∃ cA : ClassId, ArrOfT s cA ty ∧ s.vm.findClass ("[" ++ ty.toString) = some cA := by
  obtain ⟨cA, kA, comp, hfind, hk, hkind⟩ := Cond.arrayClass_spec h
  exact ⟨cA, fun n z => ⟨fun k h => (by cases h), kA, hk, comp, hkind⟩, hfind⟩
theorem arr_AA {s : State} {args : Array Value} (h : (Cond.arrayOver (.array .int)).before args s = true) : ∃ cA : ClassId, ArrOfT s cA (.array .int) ∧ s.vm.findClass ("[" ++ (FieldType.array .int).toString) = some cA := by
  obtain ⟨comp, c, k, h1, h2, h3, h4, h5⟩ := arrayOver_specB h
  exact ⟨c, fun n z => ⟨fun k h => (by cases h), k, h3, comp, h4⟩, h5⟩
set_option maxHeartbeats 4000000 in
set_option maxRecDepth 100000 in
theorem out_start {s : State} {b : Nat} {A : Nat → Prop} (hts : ∀ w ∈ lw_tbl, w.before #[Value.ref b] s = true) (hgv : (Jvm.Cond.and given_1 narrow_1).before #[Value.ref b] s = true) (hA : ∀ a : Nat, a < s.heap.size → ¬ A a) : ∃ adK adV : Nat → Nat, ∀ (G : va_G) (cl : Nat → ClassId), OUT (G, cl, adK, adV) A s s.heap := by
  have hs := flat_of_before _ hgv
  obtain ⟨adK, adV, h1, h2⟩ := vk_Sof (args := #[Value.ref b]) (s := s) (N := 5) (tm := fun i => Term.string "ElectionHouse$Reader" (strIdx.getD i 0)) (len := strLen) (byt := strByt) (A := A)
    (fun i hi => strLen_lt hi)
    (fun i hi => by rcases (show i = 0 ∨ i = 1 ∨ i = 2 ∨ i = 3 ∨ i = 4 by omega) with rfl | rfl | rfl | rfl | rfl <;> exact hs _ (by decide +kernel))
    (fun i hi => by rcases (show i = 0 ∨ i = 1 ∨ i = 2 ∨ i = 3 ∨ i = 4 by omega) with rfl | rfl | rfl | rfl | rfl <;> exact hs _ (by decide +kernel))
    (fun i hi => by rcases (show i = 0 ∨ i = 1 ∨ i = 2 ∨ i = 3 ∨ i = 4 by omega) with rfl | rfl | rfl | rfl | rfl <;> exact hs _ (by decide +kernel))
    (fun i hi => by rcases (show i = 0 ∨ i = 1 ∨ i = 2 ∨ i = 3 ∨ i = 4 by omega) with rfl | rfl | rfl | rfl | rfl <;> exact hs _ (by decide +kernel))
    (fun i hi j hj => by
      rcases (show i = 0 ∨ i = 1 ∨ i = 2 ∨ i = 3 ∨ i = 4 by omega) with rfl | rfl | rfl | rfl | rfl
      · have hj : j < 4 := hj
        rcases (show j = 0 ∨ j = 1 ∨ j = 2 ∨ j = 3 by omega) with rfl | rfl | rfl | rfl <;> exact hs _ (by decide +kernel)
      · have hj : j < 6 := hj
        rcases (show j = 0 ∨ j = 1 ∨ j = 2 ∨ j = 3 ∨ j = 4 ∨ j = 5 by omega) with rfl | rfl | rfl | rfl | rfl | rfl <;> exact hs _ (by decide +kernel)
      · have hj : j < 5 := hj
        rcases (show j = 0 ∨ j = 1 ∨ j = 2 ∨ j = 3 ∨ j = 4 by omega) with rfl | rfl | rfl | rfl | rfl <;> exact hs _ (by decide +kernel)
      · have hj : j < 2 := hj
        rcases (show j = 0 ∨ j = 1 by omega) with rfl | rfl <;> exact hs _ (by decide +kernel)
      · have hj : j < 5 := hj
        rcases (show j = 0 ∨ j = 1 ∨ j = 2 ∨ j = 3 ∨ j = 4 by omega) with rfl | rfl | rfl | rfl | rfl <;> exact hs _ (by decide +kernel))
    (fun i j hi hj hne => by
      rcases (show i = 0 ∨ i = 1 ∨ i = 2 ∨ i = 3 ∨ i = 4 by omega) with rfl | rfl | rfl | rfl | rfl <;> rcases (show j = 0 ∨ j = 1 ∨ j = 2 ∨ j = 3 ∨ j = 4 by omega) with rfl | rfl | rfl | rfl | rfl <;> first | exact absurd rfl hne | exact Or.inl (hs _ (by decide +kernel)) | exact Or.inr (hs _ (by decide +kernel))) hA
  refine ⟨adK, adV, fun G cl => ⟨h1, ?_, ?_, ?_⟩⟩
  · exact va_Zof (hts (.laysStatic "java/lang/String" "COMPACT_STRINGS" "Z") (by decide +kernel)) (hts (.initialized "java/lang/String") (by decide +kernel)) (va_eqi (hs (.eq (.static "java/lang/String" "COMPACT_STRINGS" "Z") (.int 1)) (by decide +kernel))) hA
  · exact va_Zqof (hts (.laysStatic "jdk/internal/util/Preconditions" "SIOOBE_FORMATTER" "Ljava/util/function/BiFunction;") (by decide +kernel)) (hts (.initialized "jdk/internal/util/Preconditions") (by decide +kernel)) (hs (.isRef (.static "jdk/internal/util/Preconditions" "SIOOBE_FORMATTER" "Ljava/util/function/BiFunction;")) (by decide +kernel)) hA
  · intro i hi
    refine vk_R.of (A := #[Value.ref b]) ?_ (h2 i hi)
    rcases (show i = 0 ∨ i = 1 ∨ i = 2 ∨ i = 3 ∨ i = 4 by omega) with rfl | rfl | rfl | rfl | rfl <;> exact hts _ (by decide +kernel)
theorem nst_start {s : State} {b : Nat} (hts : ∀ w ∈ lw_tbl, w.before #[Value.ref b] s = true) : NST s :=
  ⟨va_Nw.of rfl (hts _ (by decide +kernel)), va_Nw.of rfl (hts _ (by decide +kernel)), va_Nw.of rfl (hts _ (by decide +kernel)), va_Nw.of rfl (hts _ (by decide +kernel)), va_Nw.of rfl (hts _ (by decide +kernel)), va_Nw.of rfl (hts _ (by decide +kernel)), hts (.arrayOver (.array .int)) (by decide +kernel)⟩
set_option maxHeartbeats 8000000 in
set_option maxRecDepth 100000 in
theorem whole_open {p : Program} {e : Env} {s : State} {m : MethodId} {below : List Frame} {meth : Method} {c : Code} (l : Launch) {b L : Nat} {xs : Nat → Int32} {Rel : XS → XS → Prop} (hsim : SIM Rel) (hR0 : Rel sX0 sY0) (hL : L ≤ 3072) (C0 : lw_At p s m meth c b L xs) : W p l e room_1 s m #[Value.ref b] below meth c s.heap [] 0 0 (lw_Z below #[Value.ref b] s) (entryFrame m ([Value.ref b] : List Value).toArray 4) := by
  obtain ⟨hx, hb, hr, hml, hown, hts, hX, hbl, hlocks, hgv⟩ := id C0
  have F : CallFix p m c cL_law 4 s #[Value.ref b] lw_tbl RL := ⟨hx, hb, hml, hown, hts⟩
  have hA : ∀ q : Nat, s.heap.size ≤ q → (fun q : Nat => s.heap.size ≤ q) q := fun _ h => h
  obtain ⟨c0, i0, k0⟩ := u_known (C := RX0) (T := TX0) (N := 7) (n := 7) hts (fun w h => (hg_wsX00 w h).1) (hts (.instantiable RX0 7) (by decide +kernel))
  obtain ⟨c1, i1, k1⟩ := u_known (C := RX1) (T := TX1) (N := 4) (n := 4) hts (fun w h => (hg_wsX10 w h).1) (hts (.instantiable RX1 4) (by decide +kernel))
  obtain ⟨c2, i2, k2⟩ := u_known (C := RX2) (T := TX2) (N := 16) (n := 16) hts (fun w h => (hg_wsX20 w h).1) (hts (.instantiable RX2 16) (by decide +kernel))
  obtain ⟨c3, i3, k3⟩ := u_known (C := RX3) (T := TX3) (N := 5) (n := 5) hts (fun w h => (hg_wsX30 w h).1) (hts (.instantiable RX3 5) (by decide +kernel))
  obtain ⟨c4, i4, k4⟩ := u_known (C := RX4) (T := TX4) (N := 5) (n := 5) hts (fun w h => (hg_wsX40 w h).1) (hts (.instantiable RX4 5) (by decide +kernel))
  obtain ⟨c5, i5, k5⟩ := u_known (C := RX5) (T := TX5) (N := 4) (n := 4) hts (fun w h => (hg_wsX50 w h).1) (hts (.instantiable RX5 4) (by decide +kernel))
  obtain ⟨c6, i6, k6⟩ := u_known (C := RX6) (T := TX6) (N := 10) (n := 10) hts (fun w h => (hg_wsX60 w h).1) (hts (.instantiable RX6 10) (by decide +kernel))
  obtain ⟨c7, i7, k7⟩ := u_known (C := RX7) (T := TX7) (N := 4) (n := 4) hts (fun w h => (hg_wsX70 w h).1) (hts (.instantiable RX7 4) (by decide +kernel))
  obtain ⟨c8, i8, k8⟩ := u_known (C := RX8) (T := TX8) (N := 2) (n := 2) hts (fun w h => (hg_wsX80 w h).1) (hts (.instantiable RX8 2) (by decide +kernel))
  obtain ⟨c9, i9, k9⟩ := u_known (C := RX9) (T := TX9) (N := 8) (n := 8) hts (fun w h => (hg_wsX90 w h).1) (hts (.instantiable RX9 8) (by decide +kernel))
  obtain ⟨c10, i10, k10⟩ := u_known (C := RX10) (T := TX10) (N := 50) (n := 50) hts (fun w h => (hg_wsX100 w h).1) (hts (.instantiable RX10 50) (by decide +kernel))
  obtain ⟨dC, dI, hKc⟩ : ∃ (dC : Nat → ClassId) (dI : Nat → Nat → Nat), ∀ (k : Nat) (q : vw_C), vwCl[k]? = some q → u_Kn s q.1 q.2.1 q.2.2 (dC k) (dI k) := by
    refine ⟨fun k => [c0, c1, c2, c3, c4, c5, c6, c7, c8, c9, c10].getD k c0, fun k => [i0, i1, i2, i3, i4, i5, i6, i7, i8, i9, i10].getD k i0, ?_⟩
    intro k q hq
    match k, hq with
    | 0, hq => cases hq; exact k0
    | 1, hq => cases hq; exact k1
    | 2, hq => cases hq; exact k2
    | 3, hq => cases hq; exact k3
    | 4, hq => cases hq; exact k4
    | 5, hq => cases hq; exact k5
    | 6, hq => cases hq; exact k6
    | 7, hq => cases hq; exact k7
    | 8, hq => cases hq; exact k8
    | 9, hq => cases hq; exact k9
    | 10, hq => cases hq; exact k10
    | k + 11, hq => simp [vwCl] at hq
  obtain ⟨cB, aB, fB⟩ := arr_K (hts (.arrayClass .byte) (by decide +kernel))
  obtain ⟨cI, aI, fI⟩ := arr_K (hts (.arrayClass .int) (by decide +kernel))
  obtain ⟨cJ, aJ, fJ⟩ := arr_K (hts (.arrayClass .long) (by decide +kernel))
  obtain ⟨cZ, aZ, fZ⟩ := arr_K (hts (.arrayClass .boolean) (by decide +kernel))
  obtain ⟨cA, aA, fA⟩ := arr_AA (hts (.arrayOver (.array .int)) (by decide +kernel))
  obtain ⟨adK, adV, hO⟩ := out_start (A := fun q : Nat => s.heap.size ≤ q) hts hgv (fun a h => Nat.not_le.mpr h)
  obtain ⟨Z, eZ⟩ : ∃ Z : ZT, Z = ((dC, dI), (fun k => [cB, cI, cJ, cZ, cA].getD k cB), adK, adV) := ⟨_, rfl⟩
  have hO : OUT Z (fun q : Nat => s.heap.size ≤ q) s s.heap := by rw [eZ]; exact hO _ _
  have hK : va_K Z.1 vwCl (tyZ Z) s := by
    rw [eZ]
    refine ⟨hKc, fun k q hq => ?_⟩
    match k, hq with
    | 0, hq => cases hq; exact ⟨aB, fB⟩
    | 1, hq => cases hq; exact ⟨aI, fI⟩
    | 2, hq => cases hq; exact ⟨aJ, fJ⟩
    | 3, hq => cases hq; exact ⟨aZ, fZ⟩
    | 4, hq => cases hq; exact ⟨aA, fA⟩
    | k + 5, hq => simp at hq
  clear eZ
  obtain ⟨H, eH⟩ : ∃ z, z = s.heap := ⟨_, rfl⟩
  obtain ⟨locs, eL⟩ : ∃ z : List Loc, z = [] := ⟨_, rfl⟩
  have h : HE Z (fun q : Nat => s.heap.size ≤ q) s H locs [] := by
    rw [eH, eL]
    exact ⟨hK, fun k q h => by simp at h, ⟨fun i j p q h => by simp at h, fun k q h => by simp at h⟩, va_S.rf, hA, nst_start hts⟩
  have hl := lv_entry ([.ref b]) (n := 4) (Nat.le_of_ble_eq_true rfl)
  rw [lg_entry_eq]
  generalize (lg_sl ([.ref b]) ++ List.replicate (4 - (lg_sl ([.ref b])).length) Slot.unset).toArray = ls at hl ⊢
  have hl : lv_has ls 4 [(0, .ref b)] := hl
  rw [← eH, ← eL]
  refine e_new (ci := 9) (fs := [.null, .null, .null, .null, .null, .null, .null, .null]) (C := RX9) (T := TX9) (N := 8) F (fun w h => (hg_wsX90 w h).1) tyX9 tyX9_ok (hts (.classLink RL 7 RX9) (by decide +kernel)) (hts (.instantiable RX9 8) (by decide +kernel)) (hts (.initialized RX9) (by decide +kernel)) h rfl (fun j hj => by rcases (show j = 0 ∨ j = 1 ∨ j = 2 ∨ j = 3 ∨ j = 4 ∨ j = 5 ∨ j = 6 ∨ j = 7 by omega) with rfl | rfl | rfl | rfl | rfl | rfl | rfl | rfl <;> rfl) (Nat.le_of_ble_eq_true rfl) (Nat.le_of_ble_eq_true rfl) dL_law_0 (fun q0 H h => ?_)
  have h : HE Z (fun q : Nat => s.heap.size ≤ q) s H locs [(q0, .inr (9, [.null, .null, .null, .null, .null, .null, .null, .null]))] := h
  refine lv_dup hx hb dL_law_3 rfl ?_
  refine e_callH F (c_House_init l Z q0) (cwI 0 hts hL_X9_init rfl rfl rfl (hts (.initialized RX9) (by decide +kernel)) (hts (.methodLink RL 9 yX9_init) (by decide +kernel)) (hts (.instanceMethod yX9_init) (by decide +kernel)) rfl (by decide +kernel) ⟨Nat.le_of_ble_eq_true rfl, Nat.le_of_ble_eq_true rfl⟩) h rfl hl.1 rfl (Nat.le_of_ble_eq_true rfl) ⟨Nat.le_of_ble_eq_true rfl, Nat.le_of_ble_eq_true rfl⟩ dL_law_4 (fun Q1 H locs eq0 hh => ?_)
  subst eq0
  have h := hh
  refine lv_astore_n (lv' := [(1, .ref (Q1 0)), (0, .ref b)]) hx hb dL_law_7 rfl hl (by decide) rfl (fun ls hl => ?_)
  refine e_new (ci := 10) (fs := [.int 0, .null, .null, .null, .null, .int 0, .null, .null, .int 0, .int 0, .null, .null, .null, .null, .null, .null, .null, .null, .int 0, .null, .null, .int 0, .null, .int 0, .int 0, .int 0, .int 0, .int 0, .int 0, .int 0, .int 0, .null, .int 0, .int 0, .int 0, .int 0, .int 0, .null, .null, .int 0, .null, .null, .int 0, .null, .null, .null, .int 0, .long 0, .null, .int 0]) (C := RX10) (T := TX10) (N := 50) F (fun w h => (hg_wsX100 w h).1) tyX10 tyX10_ok (hts (.classLink RL 10 RX10) (by decide +kernel)) (hts (.instantiable RX10 50) (by decide +kernel)) (hts (.initialized RX10) (by decide +kernel)) h rfl (fun j hj => by rcases (show j = 0 ∨ j = 1 ∨ j = 2 ∨ j = 3 ∨ j = 4 ∨ j = 5 ∨ j = 6 ∨ j = 7 ∨ j = 8 ∨ j = 9 ∨ j = 10 ∨ j = 11 ∨ j = 12 ∨ j = 13 ∨ j = 14 ∨ j = 15 ∨ j = 16 ∨ j = 17 ∨ j = 18 ∨ j = 19 ∨ j = 20 ∨ j = 21 ∨ j = 22 ∨ j = 23 ∨ j = 24 ∨ j = 25 ∨ j = 26 ∨ j = 27 ∨ j = 28 ∨ j = 29 ∨ j = 30 ∨ j = 31 ∨ j = 32 ∨ j = 33 ∨ j = 34 ∨ j = 35 ∨ j = 36 ∨ j = 37 ∨ j = 38 ∨ j = 39 ∨ j = 40 ∨ j = 41 ∨ j = 42 ∨ j = 43 ∨ j = 44 ∨ j = 45 ∨ j = 46 ∨ j = 47 ∨ j = 48 ∨ j = 49 by omega) with rfl | rfl | rfl | rfl | rfl | rfl | rfl | rfl | rfl | rfl | rfl | rfl | rfl | rfl | rfl | rfl | rfl | rfl | rfl | rfl | rfl | rfl | rfl | rfl | rfl | rfl | rfl | rfl | rfl | rfl | rfl | rfl | rfl | rfl | rfl | rfl | rfl | rfl | rfl | rfl | rfl | rfl | rfl | rfl | rfl | rfl | rfl | rfl | rfl | rfl <;> rfl) (Nat.le_of_ble_eq_true rfl) (Nat.le_of_ble_eq_true rfl) dL_law_8 (fun q1 H h => ?_)
  refine lv_dup hx hb dL_law_11 rfl ?_
  refine e_callI F (c_Model_init l Z q1) (cwI 0 hts hL_X10_init rfl rfl rfl (hts (.initialized RX10) (by decide +kernel)) (hts (.methodLink RL 12 yX10_init) (by decide +kernel)) (hts (.instanceMethod yX10_init) (by decide +kernel)) rfl (by decide +kernel) ⟨Nat.le_of_ble_eq_true rfl, Nat.le_of_ble_eq_true rfl⟩) h rfl hl.1 rfl (Nat.le_of_ble_eq_true rfl) ⟨Nat.le_of_ble_eq_true rfl, Nat.le_of_ble_eq_true rfl⟩ dL_law_12 (fun u2 H locs h => ?_)
  rw [w1_Model_eq] at h
  obtain ⟨Q2, eQ2⟩ : ∃ z : Nat → Nat, z = (fun k => if k = 0 then q1 else u2 (k - 1)) := ⟨_, rfl⟩
  rw [← eQ2] at h
  have e20 : Q2 0 = q1 := by rw [eQ2]; rfl
  refine lv_astore_n (lv' := [(2, .ref q1), (1, .ref (Q1 0)), (0, .ref b)]) hx hb dL_law_15 rfl hl (by decide) rfl (fun ls hl => ?_)
  rw [← e20] at hl
  refine lv_iconst (v := 0) hx hb dL_law_16 (by decide) ?_
  refine lv_istore_n (lv' := [(3, .int 0), (2, .ref (Q2 0)), (1, .ref (Q1 0)), (0, .ref b)]) hx hb dL_law_17 rfl hl (by decide) rfl (fun ls hl => ?_)
  refine W.widen (k := 600000) (n := 7302250) (Nat.le_of_ble_eq_true rfl) (Nat.le_of_ble_eq_true rfl) ?_
  exact law_loop hsim hL C0 (L + 1) 0 (Nat.zero_le L) (by omega) sX0 sY0 H locs ls hR0 ⟨h.1, h.2.1, h.2.2.1, h.2.2.2.1, h.2.2.2.2.1, gG_sX0, gG_sY0, hO⟩ (lv_sub hl [3, 2, 1, 0] rfl)
