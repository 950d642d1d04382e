/-! WORLDS WRITTEN OUT (constructors), and the frame of a call that sees the last cells alone -/
def HE (Z : ZT) (A : Nat → Prop) (s0 : State) (H : Heap) (locs : List Loc) (ws : va_W) : Prop :=
  va_K Z.1 vwCl (tyZ Z) s0 ∧ va_P Z.1 vwCl ws H ∧ va_D A ws ∧ va_S A s0.heap H locs ∧ (∀ q : Nat, s0.heap.size ≤ q → A q) ∧ NST s0
def preE (Z : ZT) (sz : Nat) (ws : va_W) (U : State) : Prop :=
  U.heap.size = sz ∧ va_P Z.1 vwCl ws U.heap ∧ va_K Z.1 vwCl (tyZ Z) U ∧ va_D (fun _ => True) ws ∧ NST U
def postE (Z : ZT) (A : Nat → Prop) (w1 : (Nat → Nat) → va_W) (u : Nat → Nat) (t : State) : Prop :=
  va_P Z.1 vwCl (w1 u) t.heap ∧ va_K Z.1 vwCl (tyZ Z) t ∧ va_D A (w1 u)
abbrev QcE (Z : ZT) (A : Nat → Prop) (w1 : (Nat → Nat) → va_W) : Array Value → State → Outcome → State → Prop := va_Qv (fun _ : Nat → Nat => True) (postE Z A w1) A
def KC (l : Launch) (Z : ZT) (y : MethodName) (ws : List Cond) (rm : Room) (av : List Value) (w0 : va_W) (w1 : (Nat → Nat) → va_W) (mc ms : Nat) : Prop :=
  ∀ sz : Nat, Met l y ws rm (va_Pc av (preE Z sz w0)) (QcE Z (va_A w0 sz) w1) mc ms (va_A w0 sz)
theorem app_l {α : Type} {a b : List α} {k : Nat} {q : α} (h : a[k]? = some q) : (a ++ b)[k]? = some q := by
  rw [List.getElem?_append_left (List.getElem?_eq_some_iff.mp h).1]; exact h
theorem app_r {α : Type} {a b : List α} {k : Nat} {q : α} (h : b[k]? = some q) : (a ++ b)[a.length + k]? = some q := by
  rw [List.getElem?_append_right (Nat.le_add_right _ _), Nat.add_sub_cancel_left]; exact h
theorem frame2 {A0 : Nat → Prop} {D : va_G} {cl : List vw_C} {wa wc w1 : va_W} {H H1 : Heap} (hP : va_P D cl (wa ++ wc) H) (hD : va_D A0 (wa ++ wc)) (hk : ∀ q : Nat, q < H.size → ¬ va_A wc H.size q → H1[q]? = H[q]?) (hF : ∀ q, va_A wc H.size q → A0 q) (hP1 : va_P D cl w1 H1) (hD1 : va_D (va_A wc H.size) w1) : va_P D cl (wa ++ w1) H1 ∧ va_D A0 (wa ++ w1) := by
  have hPa : va_P D cl wa H := fun k q h => hP k q (app_l h)
  have hno : ∀ (k : Nat) (q : Nat × va_E), wa[k]? = some q → ¬ va_A wc H.size q.1 := by
    intro k q h hq
    rcases hq with ⟨k', e, he⟩ | hq
    · have h2 := hD.1 k (wa.length + k') q (q.1, e) (app_l h) (app_r he) rfl
      have h3 := (List.getElem?_eq_some_iff.mp h).1
      omega
    · have h2 := (hPa k q h).lt
      omega
  refine ⟨va_P.app (fun k q h => (hPa k q h).kept (hk q.1 (hPa k q h).lt (hno k q h))) hP1, va_D.app ⟨fun i j p q h1 h2 e => hD.1 i j p q (app_l h1) (app_l h2) e, fun k q h => hD.2 k q (app_l h)⟩ (hD1.weaken (fun _ _ _ z => hF _ z)) ?_⟩
  intro i j p q h1 h2 e
  exact hno i p h1 (e ▸ hD1.2 j q h2)
section FRM
variable {p : Program} {l : Launch} {e : Env} {R : Room} {s0 : State} {m : MethodId} {args : Array Value} {below : List Frame} {meth : Method} {c : Code} {H : Heap} {locs : List Loc} {cells slots : Nat} {P : State → Prop}
variable {cc : ByteArray} {pc : Nat} {ls : Array Slot} {rest st : List Value} {A : Nat → Prop} {Z : ZT} {ws : va_W} {Ts : List Cond} {own : String} {nL index : Nat}
theorem newa_cls {cA : ClassId} {ty : FieldType} (k : Nat) {cB : ClassId} (hZ : (tyZ Z)[k]? = some (cB, ty)) (hr : ∀ s : State, va_RA s cA ty → s.vm.findClass ("[" ++ ty.toString) = some cA) (hr2 : ∀ s : State, va_RA s cB ty → s.vm.findClass ("[" ++ ty.toString) = some cB) (h0 : va_K Z.1 vwCl (tyZ Z) s0) (h : va_K Z.1 vwCl (tyZ Z ++ [(cA, ty)]) s0) : cA = cB := by
  have h1 := (h.2 5 (cA, ty) rfl).2
  have h2 := (h0.2 k (cB, ty) hZ).2
  exact Option.some.inj ((hr s0 h1).symm.trans (hr2 s0 h2))
theorem e_newI (F : CallFix p m c cc nL s0 args Ts own) (harr : (Cond.arrayClass .int).before args s0 = true) (h : HE Z A s0 H locs ws) {n : Int32} {N : Nat} (hn : ¬ n < 0) (hN : n.toNatClampNeg = N) (hby : N * 4 ≤ 536870912) (hcells : cells + 1 ≤ R.cells) (hslots : slots + N ≤ R.slots) (hdg : decode cc pc = .ok (.newarray .int, 2)) (kk : ∀ (q : Nat) (H1 : Heap), HE Z A s0 H1 locs (ws ++ [(q, .inl (Z.2.1 1, N, .inl (fun _ => 0)))]) → W p l e R s0 m args below meth c H1 locs (cells + 1) (slots + N) P (F0 m (pc + 2) ls (.ref q :: rest))) : W p l e R s0 m args below meth c H locs cells slots P (F0 m pc ls (.int n :: rest)) := by
  refine va_newa (atype := .int) (ty := .int) (a0 := (N, .inl (fun _ => 0))) F.1 F.2.1 harr rfl h.1 h.2.1 h.2.2.1 h.2.2.2.1 h.2.2.2.2.1 (fun _ => rfl) hn hN hby hcells hslots hdg (fun q cA H1 hK hP hD hS => ?_)
  have e1 : cA = Z.2.1 1 := newa_cls 1 rfl (fun _ z => z) (fun _ z => z) h.1 hK
  subst e1
  exact kk q H1 ⟨h.1, hP, hD, hS, h.2.2.2.2.1, h.2.2.2.2.2⟩
theorem e_newZ (F : CallFix p m c cc nL s0 args Ts own) (harr : (Cond.arrayClass .boolean).before args s0 = true) (h : HE Z A s0 H locs ws) {n : Int32} {N : Nat} (hn : ¬ n < 0) (hN : n.toNatClampNeg = N) (hby : N * 1 ≤ 536870912) (hcells : cells + 1 ≤ R.cells) (hslots : slots + N ≤ R.slots) (hdg : decode cc pc = .ok (.newarray .boolean, 2)) (kk : ∀ (q : Nat) (H1 : Heap), HE Z A s0 H1 locs (ws ++ [(q, .inl (Z.2.1 3, N, .inl (fun _ => 0)))]) → W p l e R s0 m args below meth c H1 locs (cells + 1) (slots + N) P (F0 m (pc + 2) ls (.ref q :: rest))) : W p l e R s0 m args below meth c H locs cells slots P (F0 m pc ls (.int n :: rest)) := by
  refine va_newa (atype := .boolean) (ty := .boolean) (a0 := (N, .inl (fun _ => 0))) F.1 F.2.1 harr rfl h.1 h.2.1 h.2.2.1 h.2.2.2.1 h.2.2.2.2.1 (fun _ => rfl) hn hN hby hcells hslots hdg (fun q cA H1 hK hP hD hS => ?_)
  have e1 : cA = Z.2.1 3 := newa_cls 3 rfl (fun _ z => z) (fun _ z => z) h.1 hK
  subst e1
  exact kk q H1 ⟨h.1, hP, hD, hS, h.2.2.2.2.1, h.2.2.2.2.2⟩
theorem e_newB (F : CallFix p m c cc nL s0 args Ts own) (harr : (Cond.arrayClass .byte).before args s0 = true) (h : HE Z A s0 H locs ws) {n : Int32} {N : Nat} (hn : ¬ n < 0) (hN : n.toNatClampNeg = N) (hby : N * 1 ≤ 536870912) (hcells : cells + 1 ≤ R.cells) (hslots : slots + N ≤ R.slots) (hdg : decode cc pc = .ok (.newarray .byte, 2)) (kk : ∀ (q : Nat) (H1 : Heap), HE Z A s0 H1 locs (ws ++ [(q, .inl (Z.2.1 0, N, .inl (fun _ => 0)))]) → W p l e R s0 m args below meth c H1 locs (cells + 1) (slots + N) P (F0 m (pc + 2) ls (.ref q :: rest))) : W p l e R s0 m args below meth c H locs cells slots P (F0 m pc ls (.int n :: rest)) := by
  refine va_newa (atype := .byte) (ty := .byte) (a0 := (N, .inl (fun _ => 0))) F.1 F.2.1 harr rfl h.1 h.2.1 h.2.2.1 h.2.2.2.1 h.2.2.2.2.1 (fun _ => rfl) hn hN hby hcells hslots hdg (fun q cA H1 hK hP hD hS => ?_)
  have e1 : cA = Z.2.1 0 := newa_cls 0 rfl (fun _ z => z) (fun _ z => z) h.1 hK
  subst e1
  exact kk q H1 ⟨h.1, hP, hD, hS, h.2.2.2.2.1, h.2.2.2.2.2⟩
theorem e_newJ (F : CallFix p m c cc nL s0 args Ts own) (harr : (Cond.arrayClass .long).before args s0 = true) (h : HE Z A s0 H locs ws) {n : Int32} {N : Nat} (hn : ¬ n < 0) (hN : n.toNatClampNeg = N) (hby : N * 8 ≤ 536870912) (hcells : cells + 1 ≤ R.cells) (hslots : slots + N ≤ R.slots) (hdg : decode cc pc = .ok (.newarray .long, 2)) (kk : ∀ (q : Nat) (H1 : Heap), HE Z A s0 H1 locs (ws ++ [(q, .inl (Z.2.1 2, N, .inr (.inl (fun _ => 0))))]) → W p l e R s0 m args below meth c H1 locs (cells + 1) (slots + N) P (F0 m (pc + 2) ls (.ref q :: rest))) : W p l e R s0 m args below meth c H locs cells slots P (F0 m pc ls (.int n :: rest)) := by
  refine va_newa (atype := .long) (ty := .long) (a0 := (N, .inr (.inl (fun _ => 0)))) F.1 F.2.1 harr rfl h.1 h.2.1 h.2.2.1 h.2.2.2.1 h.2.2.2.2.1 (fun _ => rfl) hn hN hby hcells hslots hdg (fun q cA H1 hK hP hD hS => ?_)
  have e1 : cA = Z.2.1 2 := newa_cls 2 rfl (fun _ z => z) (fun _ z => z) h.1 hK
  subst e1
  exact kk q H1 ⟨h.1, hP, hD, hS, h.2.2.2.2.1, h.2.2.2.2.2⟩
theorem e_new {C : String} {T : u_T} {N ci : Nat} {fs : List Value} (F : CallFix p m c cc nL s0 args Ts own) (hin : ∀ w ∈ u_ws C T N, w ∈ Ts) (ty : Nat → FieldType) (hty : ∀ k, k < N → parseFieldDescriptor (T k).2.2.1 = some (ty k)) (hcl : (Cond.classLink own index C).before args s0 = true) (hinst : (Cond.instantiable C N).before args s0 = true) (hini : (Cond.initialized C).before args s0 = true) (h : HE Z A s0 H locs ws) (hc : vwCl[ci]? = some (C, T, N)) (hfs : ∀ j, j < N → defaultValue (ty j) = vp_V fs j) (hcells : cells + 1 ≤ R.cells) (hslots : slots + N ≤ R.slots) (hdg : decode cc pc = .ok (.new index, 3)) (kk : ∀ (q : Nat) (H1 : Heap), HE Z A s0 H1 locs (ws ++ [(q, .inr (ci, fs))]) → W p l e R s0 m args below meth c H1 locs (cells + 1) (slots + N) P (F0 m (pc + 3) ls (.ref q :: rest))) : W p l e R s0 m args below meth c H locs cells slots P (F0 m pc ls rest) :=
  va_new F.1 F.2.1 F.2.2.2.2 hin ty hty F.2.2.2.1 hcl hinst hini h.1 h.2.1 h.2.2.1 h.2.2.2.1 h.2.2.2.2.1 hc hfs hcells hslots hdg (fun q H1 hP hD hS => kk q H1 ⟨h.1, hP, hD, hS, h.2.2.2.2.1, h.2.2.2.2.2⟩)
theorem e_putF {C : String} {T : u_T} {N ci a : Nat} {fs : List Value} {v : Value} {ty : FieldType} (F : CallFix p m c cc nL s0 args Ts own) (hnm0 : meth.name = "<init>") (hin : ∀ w ∈ u_ws C T N, w ∈ Ts) (ty0 : Nat → FieldType) (hty : ∀ k, k < N → parseFieldDescriptor (T k).2.2.1 = some (ty0 k)) (hnm : ∀ a, a < N → ∀ b, b < N → a ≠ b → (T a).2.1 ≠ (T b).2.1) (h : HE Z A s0 H locs ws) (q0 : Nat) (he : ws[q0]? = some (a, .inr (ci, fs))) (hc : vwCl[ci]? = some (C, T, N)) (k : Nat) (hk : k < N) (hlink : (Cond.fieldLink own index (T k).1 (T k).2.1 (T k).2.2.1).before args s0 = true) (hfin : (T k).2.2.2 = true) (hdecl : (T k).1 = own) (hd : parseFieldDescriptor (T k).2.2.1 = some ty) (hn : narrow ty v = v) (hfit : fits ty v = true) (hl : k < fs.length) (hdg : decode cc pc = .ok (.putfield index, 3)) (kk : ∀ (H1 : Heap) (locs1 : List Loc), HE Z A s0 H1 locs1 (ws.set q0 (a, .inr (ci, fs.set k v))) → W p l e R s0 m args below meth c H1 locs1 cells slots P (F0 m (pc + 3) ls rest)) : W p l e R s0 m args below meth c H locs cells slots P (F0 m pc ls (v :: .ref a :: rest)) :=
  va_putF F.1 F.2.1 F.2.2.2.2 hin ty0 hty hnm F.2.2.2.1 h.1 h.2.1 h.2.2.1 h.2.2.2.1 q0 he hc k hk hlink (fun _ h9 => h9) hfin hnm0 hdecl hd hn hfit hl hdg (fun H1 locs1 hP hD hS => kk H1 locs1 ⟨h.1, hP, hD, hS, h.2.2.2.2.1, h.2.2.2.2.2⟩)
theorem e_put {C : String} {T : u_T} {N ci a : Nat} {fs : List Value} {v : Value} {ty : FieldType} (F : CallFix p m c cc nL s0 args Ts own) (hin : ∀ w ∈ u_ws C T N, w ∈ Ts) (ty0 : Nat → FieldType) (hty : ∀ k, k < N → parseFieldDescriptor (T k).2.2.1 = some (ty0 k)) (hnm : ∀ a, a < N → ∀ b, b < N → a ≠ b → (T a).2.1 ≠ (T b).2.1) (h : HE Z A s0 H locs ws) (q0 : Nat) (he : ws[q0]? = some (a, .inr (ci, fs))) (hc : vwCl[ci]? = some (C, T, N)) (k : Nat) (hk : k < N) (hlink : (Cond.fieldLink own index (T k).1 (T k).2.1 (T k).2.2.1).before args s0 = true) (hfin : (T k).2.2.2 = false) (hd : parseFieldDescriptor (T k).2.2.1 = some ty) (hn : narrow ty v = v) (hfit : fits ty v = true) (hl : k < fs.length) (hdg : decode cc pc = .ok (.putfield index, 3)) (kk : ∀ (H1 : Heap) (locs1 : List Loc), HE Z A s0 H1 locs1 (ws.set q0 (a, .inr (ci, fs.set k v))) → W p l e R s0 m args below meth c H1 locs1 cells slots P (F0 m (pc + 3) ls rest)) : W p l e R s0 m args below meth c H locs cells slots P (F0 m pc ls (v :: .ref a :: rest)) :=
  va_put F.1 F.2.1 F.2.2.2.2 hin ty0 hty hnm F.2.2.2.1 h.1 h.2.1 h.2.2.1 h.2.2.2.1 q0 he hc k hk hlink (fun _ h9 => h9) hfin hd hn hfit hl hdg (fun H1 locs1 hP hD hS => kk H1 locs1 ⟨h.1, hP, hD, hS, h.2.2.2.2.1, h.2.2.2.2.2⟩)
theorem e_get {C : String} {T : u_T} {N ci a : Nat} {fs : List Value} {v : Value} (F : CallFix p m c cc nL s0 args Ts own) (hin : ∀ w ∈ u_ws C T N, w ∈ Ts) (h : HE Z A s0 H locs ws) (q0 : Nat) (he : ws[q0]? = some (a, .inr (ci, fs))) (hc : vwCl[ci]? = some (C, T, N)) (k : Nat) (hk : k < N) (hlink : (Cond.fieldLink own index (T k).1 (T k).2.1 (T k).2.2.1).before args s0 = true) (hv : fs[k]? = some v) (hdg : decode cc pc = .ok (.getfield index, 3)) (kk : W p l e R s0 m args below meth c H locs cells slots P (F0 m (pc + 3) ls (v :: rest))) : W p l e R s0 m args below meth c H locs cells slots P (F0 m pc ls (.ref a :: rest)) :=
  va_get F.1 F.2.1 F.2.2.2.2 hin F.2.2.2.1 h.1 h.2.1 q0 he hc k hk hlink (fun _ h9 => h9) hv hdg kk
theorem HE.free {wc : va_W} {wa : va_W} (h : HE Z A s0 H locs (wa ++ wc)) : ∀ q, va_A wc H.size q → A q := by
  intro q hq
  rcases hq with ⟨k, e, he⟩ | hq
  · exact h.2.2.1.2 _ _ (app_r he)
  · exact h.2.2.2.2.1 q (Nat.le_trans h.2.2.2.1.1 hq)
theorem preE_blind {sz : Nat} {av : List Value} : FrameBlind (va_Pc av (preE Z sz ws)) := by
  intro a U g mk q
  obtain ⟨q0, q1, q2, q3, q4, q5⟩ := q
  exact ⟨q0, q1, q2, va_K.moved (u := U) (U := U.calling g mk a) (Vm.Alike.refl U.vm) q3, q4, q5.same (s := U) (U := U.calling g mk a) rfl⟩
theorem e_callI {y : MethodName} {ys : List Cond} {rm : Room} {As : List Value} {b mc ms n maxL : Nat} {bytes : ByteArray} {wa w0 : va_W} {w1 : (Nat → Nat) → va_W} (F : CallFix p m c cc nL s0 args Ts own) (hM : KC l Z y ys rm (.ref b :: As) w0 w1 mc ms) (cw : CallB R s0 args own index y bytes maxL none ys rm mc ms n ∧ y.name = "<init>" ∧ (Cond.instanceMethod y).before args s0 = true) (h : HE Z A s0 H locs (wa ++ w0)) (hn : As.length = n) (hls : ls.size = nL) (hst : st = As.reverse ++ .ref b :: rest) (hroom : (rest.map fun v => v.category).sum ≤ 8) (hcs : cells + mc ≤ R.cells ∧ slots + ms ≤ R.slots) (hdg : decode cc pc = .ok (.invokespecial index, 3))
    (kk : ∀ (u : Nat → Nat) (H1 : Heap) (locs1 : List Loc), HE Z A s0 H1 locs1 (wa ++ w1 u) → W p l e R s0 m args below meth c H1 locs1 (cells + mc) (slots + ms) P (F0 m (pc + 3) ls rest)) : W p l e R s0 m args below meth c H locs cells slots P (F0 m pc ls st) := by
  have hF := h.free
  have hD2 : va_D (fun _ => True) w0 := ⟨fun i j p q h1 h2 e => by have := h.2.2.1.1 _ _ p q (app_r (a := wa) h1) (app_r (a := wa) h2) e; omega, fun _ _ _ => trivial⟩
  refine va_callv (va_runI (As := As) (rest := rest) (b := b) F (hM H.size) cw ⟨preE_blind, fun U hU hW => ⟨rfl, by rw [hU], by rw [hU]; exact fun k q hk => h.2.1 _ q (app_r hk), va_K.moved hW.alike h.1, hD2, h.2.2.2.2.2.warm hW⟩⟩ rfl hn hls hst (lv_room hroom) hdg hcs) h.2.2.2.1 (fun q _ z => hF q z) hF (fun u t H1 locs1 ht hvm hw hB hz1 hk1 hS => ?_)
  obtain ⟨b1, b2, b3⟩ := hB
  rw [ht] at b1
  have hh := frame2 h.2.1 h.2.2.1 hk1 hF b1 b3
  exact kk u H1 locs1 ⟨h.1, hh.1, hh.2, hS, h.2.2.2.2.1, h.2.2.2.2.2⟩
theorem e_callIN {y : MethodName} {ys : List Cond} {rm : Room} {As : List Value} {b mc ms n maxL : Nat} {bytes : ByteArray} {host : String} {wa w0 : va_W} {w1 : (Nat → Nat) → va_W} (F : CallFix p m c cc nL s0 args Ts own) (hM : KC l Z y ys rm (.ref b :: As) w0 w1 mc ms) (cw : va_CN R s0 args own index y host bytes maxL none ys rm mc ms n ∧ y.name = "<init>" ∧ (Cond.instanceMethod y).before args s0 = true) (h : HE Z A s0 H locs (wa ++ w0)) (hn : As.length = n) (hls : ls.size = nL) (hst : st = As.reverse ++ .ref b :: rest) (hroom : (rest.map fun v => v.category).sum ≤ 8) (hcs : cells + mc ≤ R.cells ∧ slots + ms ≤ R.slots) (hdg : decode cc pc = .ok (.invokespecial index, 3))
    (kk : ∀ (u : Nat → Nat) (H1 : Heap) (locs1 : List Loc), HE Z A s0 H1 locs1 (wa ++ w1 u) → W p l e R s0 m args below meth c H1 locs1 (cells + mc) (slots + ms) P (F0 m (pc + 3) ls rest)) : W p l e R s0 m args below meth c H locs cells slots P (F0 m pc ls st) := by
  have hF := h.free
  have hD2 : va_D (fun _ => True) w0 := ⟨fun i j p q h1 h2 e => by have := h.2.2.1.1 _ _ p q (app_r (a := wa) h1) (app_r (a := wa) h2) e; omega, fun _ _ _ => trivial⟩
  refine va_callv (va_runIN (As := As) (rest := rest) (b := b) F (hM H.size) cw ⟨preE_blind, fun U hU hW => ⟨rfl, by rw [hU], by rw [hU]; exact fun k q hk => h.2.1 _ q (app_r hk), va_K.moved hW.alike h.1, hD2, h.2.2.2.2.2.warm hW⟩⟩ rfl hn hls hst (lv_room hroom) hdg hcs) h.2.2.2.1 (fun q _ z => hF q z) hF (fun u t H1 locs1 ht hvm hw hB hz1 hk1 hS => ?_)
  obtain ⟨b1, b2, b3⟩ := hB
  rw [ht] at b1
  have hh := frame2 h.2.1 h.2.2.1 hk1 hF b1 b3
  exact kk u H1 locs1 ⟨h.1, hh.1, hh.2, hS, h.2.2.2.2.1, h.2.2.2.2.2⟩
theorem ctor_entry {y : MethodName} {ys ys' : List Cond} {rm : Room} {av : List Value} {w0 : va_W} {w1 : (Nat → Nat) → va_W} {mc ms maxL : Nat} {A : Nat → Prop} (hy : plainName y.cls = true) (hini : y.name = "<init>") (hw : ys = Cond.code y cc maxL none :: ys') (hn : (lg_sl av).length ≤ maxL) (sz : Nat) (eA : va_A w0 sz = A)
    (body : ∀ (p : Program) (e : Env) (s0 : State) (m : MethodId) (args : Array Value) (below : List Frame) (meth : Method) (c : Code) (ls : Array Slot), CallFix p m c cc maxL s0 args ys y.cls → meth.sig.returnType = none → meth.locks = false → meth.name = "<init>" → HE Z A s0 s0.heap [] w0 → lv_has ls maxL (lv_args 0 av) →
      W p l e rm s0 m args below meth c s0.heap [] 0 0 (MQ below (QcE Z A w1) args s0 mc ms A) (F0 m 0 ls [])) : Met l y ys rm (va_Pc av (preE Z sz w0)) (QcE Z A w1) mc ms A := by
  refine Met.ofW (cc := cc) (maxL := maxL) (ret := none) hy hw ?_
  intro p e s0 m args below meth c s₁ B hml hv
  obtain ⟨rfl, hsz, hP, hK, hD0, hN⟩ := hv
  have hts := atoms_spec (ws := ys) B.pre
  have hown : s0.vm.findClass y.cls = some m.cls := findClass_of_methodNamed B.named
  have hnn : meth.name = "<init>" := by rw [← hini]; exact (name_of_methodNamed B.named B.method).1
  subst hsz
  subst eA
  have hD := hD0.self (sz := s0.heap.size)
  have hl := lv_entry av (n := maxL) hn
  rw [lg_entry_eq]
  exact body p e s0 m av.toArray below meth c _ ⟨B.exec, B.bytes, hml, hown, hts⟩ B.returns B.notSynchronized hnn ⟨hK, hP, hD, va_S.rf, fun q h => Or.inr h, hN⟩ hl
theorem ctor_ret {w1 : (Nat → Nat) → va_W} {mc ms : Nat} (u : Nat → Nat) (F : CallFix p m c cc nL s0 args Ts own) (hr : meth.sig.returnType = none) (hlocks : meth.locks = false) (h : HE Z A s0 H locs (w1 u)) (hdg : decode cc pc = .ok (.return_, 1)) : W p l e R s0 m args below meth c H locs mc ms (MQ below (QcE Z A w1) args s0 mc ms A) (F0 m pc ls []) :=
  W.vret F.1 F.2.1 hr (fun t ht hW => ⟨⟨u, rfl, trivial, by rw [ht]; exact h.2.1, va_K.moved hW.alike h.1, h.2.2.1⟩, h.2.2.2.1.F ht⟩) h.2.2.2.1.2.2 hdg hlocks
end FRM
