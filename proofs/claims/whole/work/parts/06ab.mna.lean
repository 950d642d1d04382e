theorem outer_fix (r g : Nat → Nat) : (fun i => if i < 13 then some (r i) else none) = (fun i : Nat => if i < 13 then some ((fun k => if k < 13 then r k else g k) i) else none) := by
  funext i
  by_cases h : i < 13
  · simp [h]
  · simp [h]
theorem outer_fix2 (u g : Nat → Nat) : (fun i => if i < 13 then some (u i) else none) = (fun i : Nat => if i < 13 then some ((fun k => if k < 48 then g k else u (k - 48)) (48 + i)) else none) := by
  funext i
  have h2 : ¬ 48 + i < 48 := by omega
  by_cases h : i < 13
  · simp [h, h2]
  · simp [h]
set_option maxHeartbeats 4000000 in
theorem e_mna {p : Program} {l : Launch} {e : Env} {R : Room} {s0 : State} {m : MethodId} {args : Array Value} {below : List Frame} {meth : Method} {c : Code} {H : Heap} {locs : List Loc} {cells slots : Nat} {P : State → Prop} {cc : ByteArray} {pc : Nat} {ls : Array Slot} {rest : List Value} {A : Nat → Prop} {Z : ZT} {ws : va_W} {Ts : List Cond} {own : String} {nL index : Nat}
    (F : CallFix p m c cc nL s0 args Ts own) (hcl : (Cond.classLink own index "[[I").before args s0 = true) (harr : (Cond.arrayClass .int).before args s0 = true) (h : HE Z A s0 H locs ws) (hcells : cells + 14 ≤ R.cells) (hslots : slots + 533 ≤ R.slots) (hdg : decode cc pc = .ok (.multianewarray index 2, 4))
    (kk : ∀ (q : Nat) (r : Nat → Nat) (H1 : Heap), HE Z A s0 H1 locs ((ws ++ [(q, .inl (Z.2.1 4, 13, .inr (.inr (.inr (.inr (fun i => if i < 13 then some (r i) else none))))))]) ++ (List.range 13).map (fun i => ((r i, .inl (Z.2.1 1, 40, .inl (fun _ => 0))) : Nat × va_E))) → W p l e R s0 m args below meth c H1 locs (cells + 14) (slots + 533) P (F0 m (pc + 4) ls (.ref q :: rest))) : W p l e R s0 m args below meth c H locs cells slots P (F0 m pc ls (.int 40 :: .int 13 :: rest)) := by
  have hcy : s0.vm.findClass (FieldType.array .int).toString = some (Z.2.1 1) := (h.1.2 1 (Z.2.1 1, .int) rfl).2
  refine va_mna (X := ws) (L := []) (f := fun _ => .inr (0, [])) (ty := .int) (cy := Z.2.1 1) (n := 13) (k := 40) (N' := 13) (K' := 40) (z := (40, .inl (fun _ => 0))) F.1 F.2.1 F.2.2.2.1 hcl h.2.2.2.2.2.2.2.2.2.2.2 harr hcy h.1 (by show va_P Z.1 vwCl (ws ++ []) H; rw [List.append_nil]; exact h.2.1) (by show va_D A (ws ++ []); rw [List.append_nil]; exact h.2.2.1) h.2.2.2.1 h.2.2.2.2.1 (by decide) (by decide) (by decide) (by decide) (by decide) (by decide) (by decide) rfl rfl hcells hslots (fun _ => (arrV_new _ _ _)) hdg (fun q r cA H1 hi hn hK hP hD hS => ?_)
  have e1 : cA = Z.2.1 4 := newa_cls 4 rfl (fun _ z => z) (fun _ z => z) h.1 hK
  subst e1
  rw [← vr_rows (fun a _ => List.not_mem_nil)] at hP hD
  refine kk q r H1 ⟨h.1, ?_, ?_, hS, h.2.2.2.2.1, h.2.2.2.2.2⟩
  · have hP2 : va_P Z.1 vwCl ((ws ++ [(q, .inl (Z.2.1 4, 13, .inr (.inr (.inr (.inr (fun i => if i < 13 then some (r i) else none))))))]) ++ ([] ++ ((List.range 13).map r).map (fun a => ((a, .inl (Z.2.1 1, 40, .inl (fun _ => 0))) : Nat × va_E)))) H1 := hP
    rw [List.nil_append, List.map_map] at hP2
    exact hP2
  · have hD2 : va_D A ((ws ++ [(q, .inl (Z.2.1 4, 13, .inr (.inr (.inr (.inr (fun i => if i < 13 then some (r i) else none))))))]) ++ ([] ++ ((List.range 13).map r).map (fun a => ((a, .inl (Z.2.1 1, 40, .inl (fun _ => 0))) : Nat × va_E)))) := hD
    rw [List.nil_append, List.map_map] at hD2
    exact hD2
