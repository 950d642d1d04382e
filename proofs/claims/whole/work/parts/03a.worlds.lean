theorem gZ_n {x : Int32} (h : gZ x = true) : narrow .boolean (.int x) = .int x := by
  rcases of_decide_eq_true h with q | q <;> subst q <;> rfl
theorem gZ_f {x : Int32} (h : gZ x = true) : fits .boolean (.int x) = true := by
  rcases of_decide_eq_true h with q | q <;> subst q <;> rfl
theorem sG_ok {s : XS} {a b x : Nat} (h : ∀ c d, gG s c d < 2) (hx : x < 2) : ∀ c d, gG (sG s a b x) c d < 2 := by
  intro c d
  show (up2 s.1 a b x) c d < 2
  unfold up2 up1
  by_cases e : c = a
  · rw [if_pos e]
    show (if d = b then x else s.1 c d) < 2
    by_cases e2 : d = b
    · rw [if_pos e2]; exact hx
    · rw [if_neg e2]; exact h c d
  · rw [if_neg e]; exact h c d
section GENR
variable {p : Program} {l : Launch} {e : Env} {R : Room} {s0 : State} {m : MethodId} {args : Array Value} {below : List Frame} {meth : Method} {c : Code} {H : Heap} {locs : List Loc} {cells slots : Nat} {P : State → Prop}
variable {cc : ByteArray} {pc : Nat} {ls : Array Slot} {rest : List Value} {A : Nat → Prop} {Z : ZT} {V : XS → va_W} {s s' : XS} {Ts : List Cond} {own : String} {nL index : Nat}
theorem gen_get {a ci N : Nat} {C : String} {T : u_T} {fs : List Value} {v : Value} (F : CallFix p m c cc nL s0 args Ts own) (h : HW Z V A s0 H locs s) (q0 : Nat) (he : (V s)[q0]? = some (a, .inr (ci, fs))) (hc : vwCl[ci]? = some (C, T, N)) (k : Nat) (hk : k < N) (hin : ∀ w ∈ u_ws C T N, w ∈ Ts) (hlink : (Cond.fieldLink own index (T k).1 (T k).2.1 (T k).2.2.1).before args s0 = true) (hv : fs[k]? = some v) (hdg : decode cc pc = .ok (.getfield index, 3)) (kk : W p l e R s0 m args below meth c H locs cells slots P (F0 m (pc + 3) ls (v :: rest))) : W p l e R s0 m args below meth c H locs cells slots P (F0 m pc ls (.ref a :: rest)) :=
  va_get F.1 F.2.1 F.2.2.2.2 hin F.2.2.2.1 h.1 h.2.1 q0 he hc k hk hlink (fun _ h9 => h9) hv hdg kk
theorem gen_put {a ci N : Nat} {C : String} {T : u_T} {fs : List Value} {v : Value} {ty : FieldType} (F : CallFix p m c cc nL s0 args Ts own) (h : HW Z V A s0 H locs s) (q0 : Nat) (he : (V s)[q0]? = some (a, .inr (ci, fs))) (hc : vwCl[ci]? = some (C, T, N)) (k : Nat) (hk : k < N) (hin : ∀ w ∈ u_ws C T N, w ∈ Ts) (ty0 : Nat → FieldType) (hty : ∀ k, k < N → parseFieldDescriptor (T k).2.2.1 = some (ty0 k)) (hnm : ∀ a, a < N → ∀ b, b < N → a ≠ b → (T a).2.1 ≠ (T b).2.1) (hlink : (Cond.fieldLink own index (T k).1 (T k).2.1 (T k).2.2.1).before args s0 = true) (hfin : (T k).2.2.2 = false) (hd : parseFieldDescriptor (T k).2.2.1 = some ty) (hn : narrow ty v = v) (hfit : fits ty v = true) (hl : k < fs.length) (hset : (V s).set q0 (a, .inr (ci, fs.set k v)) = V s') (hG : ∀ a b, gG s' a b < 2) (hdg : decode cc pc = .ok (.putfield index, 3)) (kk : ∀ (H1 : Heap) (locs1 : List Loc), HW Z V A s0 H1 locs1 s' → W p l e R s0 m args below meth c H1 locs1 cells slots P (F0 m (pc + 3) ls rest)) : W p l e R s0 m args below meth c H locs cells slots P (F0 m pc ls (v :: .ref a :: rest)) :=
  va_put F.1 F.2.1 F.2.2.2.2 hin ty0 hty hnm F.2.2.2.1 h.1 h.2.1 h.2.2.1 h.2.2.2.1 q0 he hc k hk hlink (fun _ h9 => h9) hfin hd hn hfit hl hdg (fun H1 locs1 hP hD hS => kk H1 locs1 ⟨h.1, hset ▸ hP, hset ▸ hD, hS, h.2.2.2.2.1, hG, h.2.2.2.2.2.2⟩)
theorem gen_aald {a n v : Nat} {cA : ClassId} {f : Nat → Option Nat} {i : Int32} (F : CallFix p m c cc nL s0 args Ts own) (h : HW Z V A s0 H locs s) (q0 t0 : Nat) (ha : (V s)[q0]? = some (a, .inl (cA, n, .inr (.inr (.inr (.inr f)))))) (ht : (tyZ Z)[t0]? = some (cA, .array .int)) (hin : vp_in i n) (hv : f i.toNatClampNeg = some v) (hdg : decode cc pc = .ok (.aaload, 1)) (kk : W p l e R s0 m args below meth c H locs cells slots P (F0 m (pc + 1) ls (.ref v :: rest))) : W p l e R s0 m args below meth c H locs cells slots P (F0 m pc ls (.int i :: .ref a :: rest)) := by
  have hlt : i.toNatClampNeg < n := Nat.not_le.mp fun q => hin (Or.inr q)
  exact W.aald (v := va_rf (f i.toNatClampNeg)) F.1 F.2.1 (h.2.1 q0 _ ha) ((h.1.2 t0 _ ht).1 n (fun j => va_rf (f j))) rfl (fun q => by cases q) (by show ¬ (i < 0 ∨ (arrV _ _ _).slots.size ≤ _); rw [arrV_size]; exact hin) (by show (arrV _ _ _).slots[_]? = _; rw [arrV_read _ _ hlt]) rfl rfl hdg (by rw [hv]; exact kk)
end GENR
def wX (Z : ZT) (Q : Nat → Nat) (s : XS) : va_W := [
  (Q 0, .inr (9, [.ref (Q 1), .ref (Q 7), .ref (Q 9), .ref (Q 10), .ref (Q 12), .ref (Q 14), .ref (Q 29), .ref (Q (19 + 5 * (gG s 0 7)))])),
  (Q 1, .inr (0, [.ref (Q 2), .ref (Q 3), .ref (Q 4), .ref (Q 5), .ref (Q 6), .int (gM s 1 5), .int (gM s 1 6)])),
  (Q 2, .inl (Z.2.1 1, 40, .inl (gM s 2))),
  (Q 3, .inl (Z.2.1 1, 40, .inl (gM s 3))),
  (Q 4, .inl (Z.2.1 3, 40, .inl (gM s 4))),
  (Q 5, .inl (Z.2.1 3, 16, .inl (gM s 5))),
  (Q 6, .inl (Z.2.1 2, 40, .inr (.inl (gJ s 6)))),
  (Q 7, .inr (8, [.ref (Q 8), .int (gM s 7 1)])),
  (Q 8, .inl (Z.2.1 1, 300, .inl (gM s 8))),
  (Q 9, .inr (5, [.ref (Q 7), .int (gM s 9 1), .int (gM s 9 2), .int (gM s 9 3)])),
  (Q 10, .inr (1, [.ref (Q 11), .int (gM s 10 1), .int (gM s 10 2), .int (gM s 10 3)])),
  (Q 11, .inl (Z.2.1 1, 500, .inl (gM s 11))),
  (Q 12, .inr (4, [.ref (Q 13), .int (gM s 12 1), .int (gM s 12 2), .int (gM s 12 3), .int (gM s 12 4)])),
  (Q 13, .inl (Z.2.1 1, 40, .inl (gM s 13))),
  (Q 14, .inr (6, [.ref (Q 1), .ref (Q 10), .ref (Q 12), .ref (Q 15), .ref (Q 16), .ref (Q 17), .ref (Q 18), .ref (Q (19 + 5 * (gG s 14 7))), .int (gM s 14 8), .int (gM s 14 9)])),
  (Q 15, .inl (Z.2.1 4, 13, .inr (.inr (.inr (.inr (fun i => if i < 13 then some (Q (48 + i)) else none)))))),
  (Q 16, .inl (Z.2.1 1, 13, .inl (gM s 16))),
  (Q 17, .inl (Z.2.1 1, 40, .inl (gM s 17))),
  (Q 18, .inl (Z.2.1 1, 12, .inl (gM s 18))),
  (Q 19, .inr (3, [.ref (Q 20), .ref (Q 21), .ref (Q 22), .ref (Q 23), .int (gM s 19 4)])),
  (Q 20, .inl (Z.2.1 1, 12, .inl (gM s 20))),
  (Q 21, .inl (Z.2.1 1, 12, .inl (gM s 21))),
  (Q 22, .inl (Z.2.1 1, 12, .inl (gM s 22))),
  (Q 23, .inl (Z.2.1 1, 12, .inl (gM s 23))),
  (Q 24, .inr (3, [.ref (Q 25), .ref (Q 26), .ref (Q 27), .ref (Q 28), .int (gM s 24 4)])),
  (Q 25, .inl (Z.2.1 1, 12, .inl (gM s 25))),
  (Q 26, .inl (Z.2.1 1, 12, .inl (gM s 26))),
  (Q 27, .inl (Z.2.1 1, 12, .inl (gM s 27))),
  (Q 28, .inl (Z.2.1 1, 12, .inl (gM s 28))),
  (Q 29, .inr (2, [.ref (Q 1), .ref (Q 14), .ref (Q 30), .ref (Q 31), .ref (Q 32), .ref (Q 33), .ref (Q 34), .ref (Q 35), .ref (Q 36), .ref (Q 37), .int (gM s 29 10), .ref (Q (38 + (gG s 29 11))), .ref (Q (38 + (gG s 29 12))), .ref (Q (40 + 4 * (gG s 29 13))), .ref (Q (40 + 4 * (gG s 29 14))), .int (gM s 29 15)])),
  (Q 30, .inl (Z.2.1 2, 1681, .inr (.inl (gJ s 30)))),
  (Q 31, .inl (Z.2.1 2, 12, .inr (.inl (gJ s 31)))),
  (Q 32, .inl (Z.2.1 1, 4, .inl (gM s 32))),
  (Q 33, .inl (Z.2.1 1, 4, .inl (gM s 33))),
  (Q 34, .inl (Z.2.1 3, 4, .inl (gM s 34))),
  (Q 35, .inl (Z.2.1 1, 40, .inl (gM s 35))),
  (Q 36, .inl (Z.2.1 1, 40, .inl (gM s 36))),
  (Q 37, .inl (Z.2.1 1, 16, .inl (gM s 37))),
  (Q 38, .inl (Z.2.1 2, 42, .inr (.inl (gJ s 38)))),
  (Q 39, .inl (Z.2.1 2, 42, .inr (.inl (gJ s 39)))),
  (Q 40, .inr (7, [.ref (Q 41), .ref (Q 42), .ref (Q 43), .int (gM s 40 3)])),
  (Q 41, .inl (Z.2.1 1, 600, .inl (gM s 41))),
  (Q 42, .inl (Z.2.1 2, 600, .inr (.inl (gJ s 42)))),
  (Q 43, .inl (Z.2.1 1, 1024, .inl (gM s 43))),
  (Q 44, .inr (7, [.ref (Q 45), .ref (Q 46), .ref (Q 47), .int (gM s 44 3)])),
  (Q 45, .inl (Z.2.1 1, 600, .inl (gM s 45))),
  (Q 46, .inl (Z.2.1 2, 600, .inr (.inl (gJ s 46)))),
  (Q 47, .inl (Z.2.1 1, 1024, .inl (gM s 47))),
  (Q 48, .inl (Z.2.1 1, 40, .inl (gM s 48))),
  (Q 49, .inl (Z.2.1 1, 40, .inl (gM s 49))),
  (Q 50, .inl (Z.2.1 1, 40, .inl (gM s 50))),
  (Q 51, .inl (Z.2.1 1, 40, .inl (gM s 51))),
  (Q 52, .inl (Z.2.1 1, 40, .inl (gM s 52))),
  (Q 53, .inl (Z.2.1 1, 40, .inl (gM s 53))),
  (Q 54, .inl (Z.2.1 1, 40, .inl (gM s 54))),
  (Q 55, .inl (Z.2.1 1, 40, .inl (gM s 55))),
  (Q 56, .inl (Z.2.1 1, 40, .inl (gM s 56))),
  (Q 57, .inl (Z.2.1 1, 40, .inl (gM s 57))),
  (Q 58, .inl (Z.2.1 1, 40, .inl (gM s 58))),
  (Q 59, .inl (Z.2.1 1, 40, .inl (gM s 59))),
  (Q 60, .inl (Z.2.1 1, 40, .inl (gM s 60)))]
def wY (Z : ZT) (Q : Nat → Nat) (s : XS) : va_W := [
  (Q 0, .inr (10, [.int (gM s 0 0), .ref (Q 1), .ref (Q 2), .ref (Q 3), .ref (Q 4), .int (gM s 0 5), .ref (Q 5), .ref (Q 6), .int (gM s 0 8), .int (gM s 0 9), .ref (Q 7), .ref (Q 8), .ref (Q 9), .ref (Q 10), .ref (Q 11), .ref (Q 12), .ref (Q 13), .ref (Q 14), .int (gM s 0 18), .ref (Q 15), .ref (Q 16), .int (gM s 0 21), .ref (Q 17), .int (gM s 0 23), .int (gM s 0 24), .int (gM s 0 25), .int (gM s 0 26), .int (gM s 0 27), .int (gM s 0 28), .int (gM s 0 29), .int (gM s 0 30), .ref (Q 18), .int (gM s 0 32), .int (gM s 0 33), .int (gM s 0 34), .int (gM s 0 35), .int (gM s 0 36), .ref (Q 19), .ref (Q 20), .int (gM s 0 39), .ref (Q 21), .ref (Q 22), .int (gM s 0 42), .ref (Q 23), .ref (Q 24), .ref (Q 25), .int (gM s 0 46), .long (gJ s 0 47), .ref (Q 26), .int (gM s 0 49)])),
  (Q 1, .inl (Z.2.1 1, 40, .inl (gM s 1))),
  (Q 2, .inl (Z.2.1 1, 40, .inl (gM s 2))),
  (Q 3, .inl (Z.2.1 3, 40, .inl (gM s 3))),
  (Q 4, .inl (Z.2.1 3, 1600, .inl (gM s 4))),
  (Q 5, .inl (Z.2.1 3, 16, .inl (gM s 5))),
  (Q 6, .inl (Z.2.1 0, 300, .inl (gM s 6))),
  (Q 7, .inl (Z.2.1 1, 12, .inl (gM s 7))),
  (Q 8, .inl (Z.2.1 1, 12, .inl (gM s 8))),
  (Q 9, .inl (Z.2.1 1, 12, .inl (gM s 9))),
  (Q 10, .inl (Z.2.1 1, 12, .inl (gM s 10))),
  (Q 11, .inl (Z.2.1 1, 13, .inl (gM s 11))),
  (Q 12, .inl (Z.2.1 1, 13, .inl (gM s 12))),
  (Q 13, .inl (Z.2.1 1, 13, .inl (gM s 13))),
  (Q 14, .inl (Z.2.1 1, 13, .inl (gM s 14))),
  (Q 15, .inl (Z.2.1 1, 13, .inl (gM s 15))),
  (Q 16, .inl (Z.2.1 1, 520, .inl (gM s 16))),
  (Q 17, .inl (Z.2.1 1, 500, .inl (gM s 17))),
  (Q 18, .inl (Z.2.1 1, 6, .inl (gM s 18))),
  (Q 19, .inl (Z.2.1 1, 40, .inl (gM s 19))),
  (Q 20, .inl (Z.2.1 1, 40, .inl (gM s 20))),
  (Q 21, .inl (Z.2.1 1, 600, .inl (gM s 21))),
  (Q 22, .inl (Z.2.1 2, 600, .inr (.inl (gJ s 22)))),
  (Q 23, .inl (Z.2.1 1, 601, .inl (gM s 23))),
  (Q 24, .inl (Z.2.1 2, 601, .inr (.inl (gJ s 24)))),
  (Q 25, .inl (Z.2.1 2, 42, .inr (.inl (gJ s 25)))),
  (Q 26, .inl (Z.2.1 2, 40, .inr (.inl (gJ s 26))))]
