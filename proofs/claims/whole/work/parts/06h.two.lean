/-! TWO WORLDS SIDE BY SIDE (the law's) -/
def HL (Z : ZT) (V1 V2 : XS → va_W) (A : Nat → Prop) (s0 : State) (H : Heap) (locs : List Loc) (s1 s2 : XS) : Prop :=
  va_K Z.1 vwCl (tyZ Z) s0 ∧ va_P Z.1 vwCl (V1 s1 ++ V2 s2) H ∧ va_D A (V1 s1 ++ V2 s2) ∧ va_S A s0.heap H locs ∧ (∀ q : Nat, s0.heap.size ≤ q → A q) ∧ (∀ a b, gG s1 a b < 2) ∧ (∀ a b, gG s2 a b < 2) ∧ OUT Z A s0 s0.heap
theorem HL.swap {Z : ZT} {V1 V2 : XS → va_W} {A : Nat → Prop} {s0 : State} {H : Heap} {locs : List Loc} {s1 s2 : XS} (h : HL Z V1 V2 A s0 H locs s1 s2) : HL Z V2 V1 A s0 H locs s2 s1 := by
  obtain ⟨a1, a2, a3, a4, a5, a6, a7, a8⟩ := h
  have b2 : va_P Z.1 vwCl (([] ++ V1 s1) ++ V2 s2) H := a2
  have b3 : va_D A (([] ++ V1 s1) ++ V2 s2) := a3
  exact ⟨a1, va_P.swap b2, va_D.swap b3, a4, a5, a7, a6, a8⟩
theorem HL.snd {Z : ZT} {V1 V2 : XS → va_W} {A : Nat → Prop} {s0 : State} {H : Heap} {locs : List Loc} {s1 s2 : XS} (h : HL Z V1 V2 A s0 H locs s1 s2) : HW Z V2 A s0 H locs s2 := by
  obtain ⟨a1, a2, a3, a4, a5, a6, a7, a8⟩ := h
  exact ⟨a1, fun k q hk => a2 _ q (app_r hk), ⟨fun i j p q h1 h2 e => by have := a3.1 _ _ p q (app_r (a := V1 s1) h1) (app_r (a := V1 s1) h2) e; omega, fun k q hk => a3.2 _ q (app_r hk)⟩, a4, a5, a7, a8⟩
theorem HL.fst {Z : ZT} {V1 V2 : XS → va_W} {A : Nat → Prop} {s0 : State} {H : Heap} {locs : List Loc} {s1 s2 : XS} (h : HL Z V1 V2 A s0 H locs s1 s2) : HW Z V1 A s0 H locs s1 := h.swap.snd
theorem HL.after {Z : ZT} {V1 V2 : XS → va_W} {A : Nat → Prop} {s0 t : State} {H H1 : Heap} {locs locs1 : List Loc} {s1 s2 s2' : XS} (h : HL Z V1 V2 A s0 H locs s1 s2) (ht : t.heap = H1) (hB : postW Z V2 (va_A (V2 s2) H.size) s2' t) (hk : ∀ q : Nat, q < H.size → ¬ va_A (V2 s2) H.size q → H1[q]? = H[q]?) (hS : va_S A s0.heap H1 locs1) : HL Z V1 V2 A s0 H1 locs1 s1 s2' := by
  have hF := h.snd.free
  obtain ⟨a1, a2, a3, a4, a5, a6, a7, a8⟩ := h
  obtain ⟨b1, b2, b3, b4⟩ := hB
  rw [ht] at b1
  have hh := frame2 a2 a3 hk hF b1 b3
  exact ⟨a1, hh.1, hh.2, hS, a5, a6, b4, a8⟩
section TWO
variable {p : Program} {l : Launch} {e : Env} {R : Room} {s0 : State} {m : MethodId} {args : Array Value} {below : List Frame} {meth : Method} {c : Code} {H : Heap} {locs : List Loc} {cells slots : Nat} {Q : State → Prop}
variable {cc : ByteArray} {pc : Nat} {ls : Array Slot} {rest st : List Value} {A : Nat → Prop} {Z : ZT} {V1 V2 : XS → va_W} {s1 s2 s2' : XS} {Ts : List Cond} {own : String} {nL : Nat}
variable {y : MethodName} {ws : List Cond} {rm : Room} {As : List Value} {maxL index n : Nat} {ret : Option FieldType} {bytes : ByteArray} {C : String} {b : Nat}
theorem two_VI {r : Int32} (F : CallFix p m c cc nL s0 args Ts own) (hM : KI l Z V2 y ws rm (.ref b :: As) s2 r s2') (cw : CallW R s0 args own C index y bytes maxL ret ws rm 0 0 n) (h : HL Z V1 V2 A s0 H locs s1 s2) (hrc : ∃ cell : Cell, H[b]? = some cell ∧ cell.vm.isStatics = false ∧ s0.vm.findClass C = some cell.cls) (hn : As.length = n) (hls : ls.size = nL) (hst : st = As.reverse ++ .ref b :: rest) (hroom : (rest.map fun v => v.category).sum ≤ 8) (hcs : cells ≤ R.cells ∧ slots ≤ R.slots) (hdg : decode cc pc = .ok (.invokevirtual index, 3))
    (kk : ∀ (H1 : Heap) (locs1 : List Loc), HL Z V1 V2 A s0 H1 locs1 s1 s2' → W p l e R s0 m args below meth c H1 locs1 cells slots Q (F0 m (pc + 3) ls (.int r :: rest))) : W p l e R s0 m args below meth c H locs cells slots Q (F0 m pc ls st) := by
  refine va_calli (va_runV (As := As) (rest := rest) (b := b) F (hM H.size) cw ⟨preW_blind, hrc, h.snd.pre⟩ rfl hn hls hst (lv_room hroom) hdg hcs) h.2.2.2.1 (fun q _ z => h.snd.free q z) h.snd.free (fun x u t H1 locs1 ht hvm hw hB hz1 hk1 hS => ?_)
  obtain ⟨rfl, rfl⟩ := hw
  exact kk H1 locs1 (h.after ht hB hk1 hS)
theorem two_VL {r : Int64} (F : CallFix p m c cc nL s0 args Ts own) (hM : KL l Z V2 y ws rm (.ref b :: As) s2 r s2') (cw : CallW R s0 args own C index y bytes maxL ret ws rm 0 0 n) (h : HL Z V1 V2 A s0 H locs s1 s2) (hrc : ∃ cell : Cell, H[b]? = some cell ∧ cell.vm.isStatics = false ∧ s0.vm.findClass C = some cell.cls) (hn : As.length = n) (hls : ls.size = nL) (hst : st = As.reverse ++ .ref b :: rest) (hroom : (rest.map fun v => v.category).sum ≤ 8) (hcs : cells ≤ R.cells ∧ slots ≤ R.slots) (hdg : decode cc pc = .ok (.invokevirtual index, 3))
    (kk : ∀ (H1 : Heap) (locs1 : List Loc), HL Z V1 V2 A s0 H1 locs1 s1 s2' → W p l e R s0 m args below meth c H1 locs1 cells slots Q (F0 m (pc + 3) ls (.long r :: rest))) : W p l e R s0 m args below meth c H locs cells slots Q (F0 m pc ls st) := by
  refine va_calll (va_runV (As := As) (rest := rest) (b := b) F (hM H.size) cw ⟨preW_blind, hrc, h.snd.pre⟩ rfl hn hls hst (lv_room hroom) hdg hcs) h.2.2.2.1 (fun q _ z => h.snd.free q z) h.snd.free (fun x u t H1 locs1 ht hvm hw hB hz1 hk1 hS => ?_)
  obtain ⟨rfl, rfl⟩ := hw
  exact kk H1 locs1 (h.after ht hB hk1 hS)
end TWO
