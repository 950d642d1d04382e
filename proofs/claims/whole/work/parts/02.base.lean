/-! The state of a system: slot j of cell c (pointers among a family of two, ints, longs); pure functions are over it. -/
abbrev XS : Type := (Nat → Nat → Nat) × (Nat → Nat → Int32) × (Nat → Nat → Int64)
abbrev ZT : Type := va_G × (Nat → ClassId) × (Nat → Nat) × (Nat → Nat)
def gG (s : XS) : Nat → Nat → Nat := s.1
def gM (s : XS) : Nat → Nat → Int32 := s.2.1
def gJ (s : XS) : Nat → Nat → Int64 := s.2.2
def up1 {α : Type} (f : Nat → α) (k : Nat) (x : α) : Nat → α := fun j => if j = k then x else f j
def up2 {α : Type} (f : Nat → Nat → α) (c j : Nat) (x : α) : Nat → Nat → α := fun a => if a = c then up1 (f a) j x else f a
def upR {α : Type} (f : Nat → Nat → α) (c : Nat) (g : Nat → α) : Nat → Nat → α := fun a => if a = c then g else f a
def sG (s : XS) (c j v : Nat) : XS := (up2 s.1 c j v, s.2)
def sM (s : XS) (c j : Nat) (v : Int32) : XS := (s.1, up2 s.2.1 c j v, s.2.2)
def sJ (s : XS) (c j : Nat) (v : Int64) : XS := (s.1, s.2.1, up2 s.2.2 c j v)
def sMR (s : XS) (c : Nat) (g : Nat → Int32) : XS := (s.1, upR s.2.1 c g, s.2.2)
def sJR (s : XS) (c : Nat) (g : Nat → Int64) : XS := (s.1, s.2.1, upR s.2.2 c g)
abbrev tyZ (Z : ZT) : List (ClassId × FieldType) := [(Z.2.1 0, .byte), (Z.2.1 1, .int), (Z.2.1 2, .long), (Z.2.1 3, .boolean), (Z.2.1 4, .array .int)]
/-! pure functions: guards, binds, loops -/
def gIn (i : Int32) (n : Nat) : Bool := decide (¬ (i < 0) ∧ i.toNatClampNeg < n)
theorem gIn_vp {i : Int32} {n : Nat} (h : gIn i n = true) : vp_in i n := by
  have h2 := of_decide_eq_true h
  intro q
  rcases q with q | q
  · exact h2.1 q
  · exact absurd h2.2 (Nat.not_lt.mpr q)
def gZ (x : Int32) : Bool := decide (x = 0 ∨ x = 1)
abbrev ix (i : Int32) : Nat := i.toNatClampNeg
def gCpy (sp dp n : Int32) (a b : Nat) : Bool := decide (¬ sp < 0 ∧ ¬ dp < 0 ∧ ¬ n < 0 ∧ ix sp + ix n ≤ a ∧ ix dp + ix n ≤ b)
def lq {α β : Type} (x : α) (g : α → Option β) : Option β := g x
theorem olq {α β : Type} {x : α} {g : α → Option β} {z : β} (h : lq x g = some z) : ∃ a, a = x ∧ g a = some z := ⟨x, rfl, h⟩
def bind1 {α γ : Type} (x : Option α) (g : α → Option γ) : Option γ := match x with
  | some a => g a
  | none => none
def bind2 {α β γ : Type} (x : Option (α × β)) (g : α → β → Option γ) : Option γ := match x with
  | some a => g a.1 a.2
  | none => none
theorem ob1 {α γ : Type} {x : Option α} {g : α → Option γ} {z : γ} (h : bind1 x g = some z) : ∃ a, x = some a ∧ g a = some z := by
  cases x with
  | none => cases h
  | some a => exact ⟨a, rfl, h⟩
theorem ob2 {α β γ : Type} {x : Option (α × β)} {g : α → β → Option γ} {z : γ} (h : bind2 x g = some z) : ∃ a b, x = some (a, b) ∧ g a b = some z := by
  cases x with
  | none => cases h
  | some a => exact ⟨a.1, a.2, rfl, h⟩
theorem og {α : Type} {b : Bool} {k : Option α} {z : α} (h : (if b = true then k else none) = some z) : b = true ∧ k = some z := by
  cases b with
  | false => cases h
  | true => exact ⟨rfl, h⟩
theorem og0 {α : Type} {y : Int32} {k : Option α} {z : α} (h : (if y = 0 then none else k) = some z) : ¬ y = 0 ∧ k = some z := by
  by_cases q : y = 0
  · rw [if_pos q] at h; cases h
  · rw [if_neg q] at h; exact ⟨q, h⟩
theorem og0l {α : Type} {y : Int64} {k : Option α} {z : α} (h : (if y = 0 then none else k) = some z) : ¬ y = 0 ∧ k = some z := by
  by_cases q : y = 0
  · rw [if_pos q] at h; cases h
  · rw [if_neg q] at h; exact ⟨q, h⟩
theorem ip {α : Type} {c : Prop} [Decidable c] {a b r : α} (h : c) (e : (if c then a else b) = r) : a = r := by rw [if_pos h] at e; exact e
theorem im {α : Type} {c : Prop} [Decidable c] {a b r : α} (h : ¬ c) (e : (if c then a else b) = r) : b = r := by rw [if_neg h] at e; exact e
def fuelN : Nat := 4096
def lo1 {A R : Type} (f : (A → Option R) → A → Option R) : Nat → A → Option R
  | 0, _ => none
  | n + 1, a => f (lo1 f n) a
def lo2 {A B R : Type} (f : (A → B → Option R) → A → B → Option R) : Nat → A → B → Option R
  | 0, _, _ => none
  | n + 1, a, b => f (lo2 f n) a b
def lo3 {A B C R : Type} (f : (A → B → C → Option R) → A → B → C → Option R) : Nat → A → B → C → Option R
  | 0, _, _, _ => none
  | n + 1, a, b, c => f (lo3 f n) a b c
def lo4 {A B C D R : Type} (f : (A → B → C → D → Option R) → A → B → C → D → Option R) : Nat → A → B → C → D → Option R
  | 0, _, _, _, _ => none
  | n + 1, a, b, c, d => f (lo4 f n) a b c d
def lo5 {A B C D E R : Type} (f : (A → B → C → D → E → Option R) → A → B → C → D → E → Option R) : Nat → A → B → C → D → E → Option R
  | 0, _, _, _, _, _ => none
  | n + 1, a, b, c, d, e => f (lo5 f n) a b c d e
def lo6 {A B C D E F R : Type} (f : (A → B → C → D → E → F → Option R) → A → B → C → D → E → F → Option R) : Nat → A → B → C → D → E → F → Option R
  | 0, _, _, _, _, _, _ => none
  | n + 1, a, b, c, d, e, g => f (lo6 f n) a b c d e g
def lo7 {A B C D E F G R : Type} (f : (A → B → C → D → E → F → G → Option R) → A → B → C → D → E → F → G → Option R) : Nat → A → B → C → D → E → F → G → Option R
  | 0, _, _, _, _, _, _, _ => none
  | n + 1, a, b, c, d, e, g, h => f (lo7 f n) a b c d e g h
def lo8 {A B C D E F G H R : Type} (f : (A → B → C → D → E → F → G → H → Option R) → A → B → C → D → E → F → G → H → Option R) : Nat → A → B → C → D → E → F → G → H → Option R
  | 0, _, _, _, _, _, _, _, _ => none
  | n + 1, a, b, c, d, e, g, h, i => f (lo8 f n) a b c d e g h i
def lo9 {A B C D E F G H I R : Type} (f : (A → B → C → D → E → F → G → H → I → Option R) → A → B → C → D → E → F → G → H → I → Option R) : Nat → A → B → C → D → E → F → G → H → I → Option R
  | 0, _, _, _, _, _, _, _, _, _ => none
  | n + 1, a, b, c, d, e, g, h, i, j => f (lo9 f n) a b c d e g h i j
theorem lo1_z {A R : Type} {f : (A → Option R) → A → Option R} {a0 : A} {z : R} : ¬ lo1 f 0 a0 = some z := fun h => by cases h
theorem lo1_s {A R : Type} {f : (A → Option R) → A → Option R} {a0 : A} {n : Nat} {z : R} (h : lo1 f (n + 1) a0 = some z) : f (lo1 f n) a0 = some z := h
theorem lo2_z {A B R : Type} {f : (A → B → Option R) → A → B → Option R} {a0 : A} {a1 : B} {z : R} : ¬ lo2 f 0 a0 a1 = some z := fun h => by cases h
theorem lo2_s {A B R : Type} {f : (A → B → Option R) → A → B → Option R} {a0 : A} {a1 : B} {n : Nat} {z : R} (h : lo2 f (n + 1) a0 a1 = some z) : f (lo2 f n) a0 a1 = some z := h
theorem lo3_z {A B C R : Type} {f : (A → B → C → Option R) → A → B → C → Option R} {a0 : A} {a1 : B} {a2 : C} {z : R} : ¬ lo3 f 0 a0 a1 a2 = some z := fun h => by cases h
theorem lo3_s {A B C R : Type} {f : (A → B → C → Option R) → A → B → C → Option R} {a0 : A} {a1 : B} {a2 : C} {n : Nat} {z : R} (h : lo3 f (n + 1) a0 a1 a2 = some z) : f (lo3 f n) a0 a1 a2 = some z := h
theorem lo4_z {A B C D R : Type} {f : (A → B → C → D → Option R) → A → B → C → D → Option R} {a0 : A} {a1 : B} {a2 : C} {a3 : D} {z : R} : ¬ lo4 f 0 a0 a1 a2 a3 = some z := fun h => by cases h
theorem lo4_s {A B C D R : Type} {f : (A → B → C → D → Option R) → A → B → C → D → Option R} {a0 : A} {a1 : B} {a2 : C} {a3 : D} {n : Nat} {z : R} (h : lo4 f (n + 1) a0 a1 a2 a3 = some z) : f (lo4 f n) a0 a1 a2 a3 = some z := h
theorem lo5_z {A B C D E R : Type} {f : (A → B → C → D → E → Option R) → A → B → C → D → E → Option R} {a0 : A} {a1 : B} {a2 : C} {a3 : D} {a4 : E} {z : R} : ¬ lo5 f 0 a0 a1 a2 a3 a4 = some z := fun h => by cases h
theorem lo5_s {A B C D E R : Type} {f : (A → B → C → D → E → Option R) → A → B → C → D → E → Option R} {a0 : A} {a1 : B} {a2 : C} {a3 : D} {a4 : E} {n : Nat} {z : R} (h : lo5 f (n + 1) a0 a1 a2 a3 a4 = some z) : f (lo5 f n) a0 a1 a2 a3 a4 = some z := h
theorem lo6_z {A B C D E F R : Type} {f : (A → B → C → D → E → F → Option R) → A → B → C → D → E → F → Option R} {a0 : A} {a1 : B} {a2 : C} {a3 : D} {a4 : E} {a5 : F} {z : R} : ¬ lo6 f 0 a0 a1 a2 a3 a4 a5 = some z := fun h => by cases h
theorem lo6_s {A B C D E F R : Type} {f : (A → B → C → D → E → F → Option R) → A → B → C → D → E → F → Option R} {a0 : A} {a1 : B} {a2 : C} {a3 : D} {a4 : E} {a5 : F} {n : Nat} {z : R} (h : lo6 f (n + 1) a0 a1 a2 a3 a4 a5 = some z) : f (lo6 f n) a0 a1 a2 a3 a4 a5 = some z := h
theorem lo7_z {A B C D E F G R : Type} {f : (A → B → C → D → E → F → G → Option R) → A → B → C → D → E → F → G → Option R} {a0 : A} {a1 : B} {a2 : C} {a3 : D} {a4 : E} {a5 : F} {a6 : G} {z : R} : ¬ lo7 f 0 a0 a1 a2 a3 a4 a5 a6 = some z := fun h => by cases h
theorem lo7_s {A B C D E F G R : Type} {f : (A → B → C → D → E → F → G → Option R) → A → B → C → D → E → F → G → Option R} {a0 : A} {a1 : B} {a2 : C} {a3 : D} {a4 : E} {a5 : F} {a6 : G} {n : Nat} {z : R} (h : lo7 f (n + 1) a0 a1 a2 a3 a4 a5 a6 = some z) : f (lo7 f n) a0 a1 a2 a3 a4 a5 a6 = some z := h
theorem lo8_z {A B C D E F G H R : Type} {f : (A → B → C → D → E → F → G → H → Option R) → A → B → C → D → E → F → G → H → Option R} {a0 : A} {a1 : B} {a2 : C} {a3 : D} {a4 : E} {a5 : F} {a6 : G} {a7 : H} {z : R} : ¬ lo8 f 0 a0 a1 a2 a3 a4 a5 a6 a7 = some z := fun h => by cases h
theorem lo8_s {A B C D E F G H R : Type} {f : (A → B → C → D → E → F → G → H → Option R) → A → B → C → D → E → F → G → H → Option R} {a0 : A} {a1 : B} {a2 : C} {a3 : D} {a4 : E} {a5 : F} {a6 : G} {a7 : H} {n : Nat} {z : R} (h : lo8 f (n + 1) a0 a1 a2 a3 a4 a5 a6 a7 = some z) : f (lo8 f n) a0 a1 a2 a3 a4 a5 a6 a7 = some z := h
theorem lo9_z {A B C D E F G H I R : Type} {f : (A → B → C → D → E → F → G → H → I → Option R) → A → B → C → D → E → F → G → H → I → Option R} {a0 : A} {a1 : B} {a2 : C} {a3 : D} {a4 : E} {a5 : F} {a6 : G} {a7 : H} {a8 : I} {z : R} : ¬ lo9 f 0 a0 a1 a2 a3 a4 a5 a6 a7 a8 = some z := fun h => by cases h
theorem lo9_s {A B C D E F G H I R : Type} {f : (A → B → C → D → E → F → G → H → I → Option R) → A → B → C → D → E → F → G → H → I → Option R} {a0 : A} {a1 : B} {a2 : C} {a3 : D} {a4 : E} {a5 : F} {a6 : G} {a7 : H} {a8 : I} {n : Nat} {z : R} (h : lo9 f (n + 1) a0 a1 a2 a3 a4 a5 a6 a7 a8 = some z) : f (lo9 f n) a0 a1 a2 a3 a4 a5 a6 a7 a8 = some z := h
/-! what lies outside of every world: the text constants, one static of String -/
def strIdx : List Nat := [82, 88, 90, 92, 94]
def strTx : List String := ["draw", "choose", "elect", "by", "house"]
def strLen : List Nat := [4, 6, 5, 2, 5]
def strN (i : Nat) : Int32 := Int32.ofNat (strLen.getD i 0)
def strByt : List (List Int32) := [[100, 114, 97, 119], [99, 104, 111, 111, 115, 101], [101, 108, 101, 99, 116], [98, 121], [104, 111, 117, 115, 101]]
def strCh (i j : Nat) : Int32 := (((strByt.getD i []).getD j 0 &&& 255).toUInt32 % 65536).toInt32
def OUT (Z : ZT) (A : Nat → Prop) (U : State) (H : Heap) : Prop := vk_S 5 strLen strByt Z.2.2.1 Z.2.2.2 A U H ∧ va_Z "java/lang/String" "COMPACT_STRINGS" "Z" (.int 1) A U H ∧ va_Zq "jdk/internal/util/Preconditions" "SIOOBE_FORMATTER" "Ljava/util/function/BiFunction;" A U H ∧ ∀ i : Nat, i < 5 → vk_R "ElectionHouse$Reader" (strIdx.getD i 0) (strTx.getD i "") (Z.2.2.1 i) U
theorem OUT.go {Z : ZT} {A B : Nat → Prop} {s0 U : State} {H : Heap} {locs : List Loc} (h : OUT Z A s0 s0.heap) (hS : va_S A s0.heap H locs) (hAB : ∀ q, B q → A q) (hW : s0.WarmedH U.vm) : OUT Z B U H :=
  ⟨((h.1.kept hS.2.1).narrow hAB).moved hW.alike, ((h.2.1.kept hS.2.1).narrow hAB).moved hW.alike, ((h.2.2.1.kept hS.2.1).narrow hAB).moved hW.alike, fun i hi => (h.2.2.2 i hi).warm hW⟩
/-! the heap side of a walk, and contracts -/
def HW (Z : ZT) (V : XS → va_W) (A : Nat → Prop) (s0 : State) (H : Heap) (locs : List Loc) (s : XS) : Prop :=
  va_K Z.1 vwCl (tyZ Z) s0 ∧ va_P Z.1 vwCl (V s) H ∧ va_D A (V s) ∧ va_S A s0.heap H locs ∧ (∀ q : Nat, s0.heap.size ≤ q → A q) ∧ (∀ a b, gG s a b < 2) ∧ OUT Z A s0 s0.heap
def preW (Z : ZT) (V : XS → va_W) (sz : Nat) (s : XS) (U : State) : Prop :=
  U.heap.size = sz ∧ va_P Z.1 vwCl (V s) U.heap ∧ va_K Z.1 vwCl (tyZ Z) U ∧ va_D (fun _ => True) (V s) ∧ (∀ a b, gG s a b < 2) ∧ OUT Z (va_A (V s) sz) U U.heap
def postW (Z : ZT) (V : XS → va_W) (A : Nat → Prop) (s : XS) (t : State) : Prop :=
  va_P Z.1 vwCl (V s) t.heap ∧ va_K Z.1 vwCl (tyZ Z) t ∧ va_D A (V s) ∧ ∀ a b, gG s a b < 2
abbrev QcI (Z : ZT) (V : XS → va_W) (A : Nat → Prop) (r : Int32) (s' : XS) : Array Value → State → Outcome → State → Prop := va_Qi (fun (x : Int32) (u : XS) => x = r ∧ u = s') (postW Z V A) A
abbrev QcL (Z : ZT) (V : XS → va_W) (A : Nat → Prop) (r : Int64) (s' : XS) : Array Value → State → Outcome → State → Prop := va_Ql (fun (x : Int64) (u : XS) => x = r ∧ u = s') (postW Z V A) A
abbrev QcV (Z : ZT) (V : XS → va_W) (A : Nat → Prop) (s' : XS) : Array Value → State → Outcome → State → Prop := va_Qv (fun (u : XS) => u = s') (postW Z V A) A
abbrev QcR (Z : ZT) (V : XS → va_W) (A : Nat → Prop) (r : Nat) (s' : XS) : Array Value → State → Outcome → State → Prop := va_Qr (fun (u : XS) => u = s') (fun u a t => a = r ∧ postW Z V A u t) A
def KI (l : Launch) (Z : ZT) (V : XS → va_W) (y : MethodName) (ws : List Cond) (rm : Room) (av : List Value) (s : XS) (r : Int32) (s' : XS) : Prop :=
  ∀ sz : Nat, Met l y ws rm (va_Pc av (preW Z V sz s)) (QcI Z V (va_A (V s) sz) r s') 0 0 (va_A (V s) sz)
def KL (l : Launch) (Z : ZT) (V : XS → va_W) (y : MethodName) (ws : List Cond) (rm : Room) (av : List Value) (s : XS) (r : Int64) (s' : XS) : Prop :=
  ∀ sz : Nat, Met l y ws rm (va_Pc av (preW Z V sz s)) (QcL Z V (va_A (V s) sz) r s') 0 0 (va_A (V s) sz)
def KV (l : Launch) (Z : ZT) (V : XS → va_W) (y : MethodName) (ws : List Cond) (rm : Room) (av : List Value) (s : XS) (s' : XS) : Prop :=
  ∀ sz : Nat, Met l y ws rm (va_Pc av (preW Z V sz s)) (QcV Z V (va_A (V s) sz) s') 0 0 (va_A (V s) sz)
def KR (l : Launch) (Z : ZT) (V : XS → va_W) (y : MethodName) (ws : List Cond) (rm : Room) (av : List Value) (s : XS) (r : Nat) (s' : XS) : Prop :=
  ∀ sz : Nat, Met l y ws rm (va_Pc av (preW Z V sz s)) (QcR Z V (va_A (V s) sz) r s') 0 0 (va_A (V s) sz)
theorem preW_blind {Z : ZT} {V : XS → va_W} {sz : Nat} {s : XS} {av : List Value} : FrameBlind (va_Pc av (preW Z V sz s)) := by
  intro a U g mk q
  obtain ⟨q0, q1, q2, q3, q4, q5, q6⟩ := q
  exact ⟨q0, q1, q2, va_K.moved (u := U) (U := U.calling g mk a) (Vm.Alike.refl U.vm) q3, q4, q5, q6.1.moved (u := U) (U := U.calling g mk a) (Vm.Alike.refl U.vm), q6.2.1.moved (u := U) (U := U.calling g mk a) (Vm.Alike.refl U.vm), q6.2.2.1.moved (u := U) (U := U.calling g mk a) (Vm.Alike.refl U.vm), fun i hi => (q6.2.2.2 i hi).same (u := U) (U := U.calling g mk a) rfl⟩
theorem HW.free {Z : ZT} {V : XS → va_W} {A : Nat → Prop} {s0 : State} {H : Heap} {locs : List Loc} {s : XS} (h : HW Z V A s0 H locs s) : ∀ q, va_A (V s) H.size q → A q := by
  obtain ⟨hK, hP, hD, hS, hA, hG, hO⟩ := h
  intro q hq
  rcases hq with ⟨k, e, he⟩ | hq
  · exact hD.2 k _ he
  · exact hA q (Nat.le_trans hS.1 hq)
theorem HW.pre {Z : ZT} {V : XS → va_W} {A : Nat → Prop} {s0 : State} {H : Heap} {locs : List Loc} {s : XS} (h : HW Z V A s0 H locs s) {av : List Value} : ∀ U : State, U.heap = H → s0.WarmedH U.vm → va_Pc av (preW Z V H.size s) av.toArray U := by
  intro U hU hW
  have hF := h.free
  obtain ⟨hK, hP, hD, hS, hA, hG, hO⟩ := h
  exact ⟨rfl, by rw [hU], by rw [hU]; exact hP, va_K.moved hW.alike hK, hD.weaken (fun _ _ _ _ => trivial), hG, by rw [hU]; exact hO.go hS hF hW⟩
theorem HW.after {Z : ZT} {V : XS → va_W} {A : Nat → Prop} {s0 t : State} {H H1 : Heap} {locs locs1 : List Loc} {s s' : XS} (h : HW Z V A s0 H locs s) (ht : t.heap = H1) (hvm : s0.vm.Alike t.vm) (hB : postW Z V (va_A (V s) H.size) s' t) (hS : va_S A s0.heap H1 locs1) : HW Z V A s0 H1 locs1 s' := by
  have hF := h.free
  obtain ⟨hK, hP, hD, hS0, hA, hG, hO⟩ := h
  obtain ⟨b1, b2, b3, b4⟩ := hB
  rw [ht] at b1
  exact ⟨hK, b1, b3.weaken (fun _ _ _ z => hF _ z), hS, hA, b4, hO⟩
section BASE
variable {p : Program} {l : Launch} {e : Env} {R : Room} {s0 : State} {m : MethodId} {args : Array Value} {below : List Frame} {meth : Method} {c : Code} {H : Heap} {locs : List Loc} {cells slots : Nat} {Q : State → Prop}
variable {cc : ByteArray} {pc : Nat} {ls : Array Slot} {rest st : List Value} {A : Nat → Prop} {Z : ZT} {V : XS → va_W} {s s' : XS} {Ts : List Cond} {own : String} {nL : Nat}
variable {y : MethodName} {ws ws' : List Cond} {rm : Room} {av As : List Value} {maxL index n : Nat} {ret : Option FieldType} {bytes : ByteArray} {C : String} {b : Nat}
theorem met_entry {Qc : Array Value → State → Outcome → State → Prop} {A : Nat → Prop} (hy : plainName y.cls = true) (hw : ws = Cond.code y cc maxL ret :: ws') (hn : (lg_sl av).length ≤ maxL) (sz : Nat) (eA : va_A (V s) sz = A)
    (body : ∀ (p : Program) (e : Env) (s0 : State) (m : MethodId) (args : Array Value) (below : List Frame) (meth : Method) (c : Code) (ls : Array Slot), CallFix p m c cc maxL s0 args ws y.cls → meth.sig.returnType = ret → meth.locks = false → HW Z V A s0 s0.heap [] s → lv_has ls maxL (lv_args 0 av) →
      W p l e rm s0 m args below meth c s0.heap [] 0 0 (MQ below Qc args s0 0 0 A) (F0 m 0 ls [])) : Met l y ws rm (va_Pc av (preW Z V sz s)) Qc 0 0 A := by
  refine Met.ofW (cc := cc) (maxL := maxL) (ret := ret) hy hw ?_
  intro p e s0 m args below meth c s₁ B hml hv
  obtain ⟨rfl, hsz, hP, hK, hD0, hG, hO⟩ := hv
  have hts := atoms_spec (ws := ws) B.pre
  have hown : s0.vm.findClass y.cls = some m.cls := findClass_of_methodNamed B.named
  subst hsz
  subst eA
  have hD := hD0.self (sz := s0.heap.size)
  have hl := lv_entry av (n := maxL) hn
  rw [lg_entry_eq]
  exact body p e s0 m av.toArray below meth c _ ⟨B.exec, B.bytes, hml, hown, hts⟩ B.returns B.notSynchronized ⟨hK, hP, hD, va_S.rf, fun q h => Or.inr h, hG, hO⟩ hl
theorem ret_I {r : Int32} (F : CallFix p m c cc nL s0 args Ts own) (hr : meth.sig.returnType = some .int) (hlocks : meth.locks = false) (h : HW Z V A s0 H locs s) (hdg : decode cc pc = .ok (.ireturn, 1)) : W p l e R s0 m args below meth c H locs 0 0 (MQ below (QcI Z V A r s) args s0 0 0 A) (F0 m pc ls [.int r]) := by
  obtain ⟨hK, hP, hD, hS, hA, hG, hO⟩ := h
  exact W.iret F.1 F.2.1 hr (fun t ht hW => ⟨⟨r, s, rfl, ⟨rfl, rfl⟩, by rw [ht]; exact hP, va_K.moved hW.alike hK, hD, hG⟩, hS.F ht⟩) hS.2.2 hdg hlocks
theorem ret_Z {r : Int32} (F : CallFix p m c cc nL s0 args Ts own) (hr : meth.sig.returnType = some .boolean) (hlocks : meth.locks = false) (hz : gZ r = true) (h : HW Z V A s0 H locs s) (hdg : decode cc pc = .ok (.ireturn, 1)) : W p l e R s0 m args below meth c H locs 0 0 (MQ below (QcI Z V A r s) args s0 0 0 A) (F0 m pc ls [.int r]) := by
  obtain ⟨hK, hP, hD, hS, hA, hG, hO⟩ := h
  have hn : narrow .boolean (.int r) = .int r := by
    rcases of_decide_eq_true hz with q | q <;> subst q <;> rfl
  exact W.zret F.1 F.2.1 hr hn (fun t ht hW => ⟨⟨r, s, rfl, ⟨rfl, rfl⟩, by rw [ht]; exact hP, va_K.moved hW.alike hK, hD, hG⟩, hS.F ht⟩) hS.2.2 hdg hlocks
theorem ret_L {r : Int64} (F : CallFix p m c cc nL s0 args Ts own) (hr : meth.sig.returnType = some .long) (hlocks : meth.locks = false) (h : HW Z V A s0 H locs s) (hdg : decode cc pc = .ok (.lreturn, 1)) : W p l e R s0 m args below meth c H locs 0 0 (MQ below (QcL Z V A r s) args s0 0 0 A) (F0 m pc ls [.long r]) := by
  obtain ⟨hK, hP, hD, hS, hA, hG, hO⟩ := h
  exact W.lret F.1 F.2.1 hr (fun t ht hW => ⟨⟨r, s, rfl, ⟨rfl, rfl⟩, by rw [ht]; exact hP, va_K.moved hW.alike hK, hD, hG⟩, hS.F ht⟩) hS.2.2 hdg hlocks
theorem ret_V (F : CallFix p m c cc nL s0 args Ts own) (hr : meth.sig.returnType = none) (hlocks : meth.locks = false) (h : HW Z V A s0 H locs s) (hdg : decode cc pc = .ok (.return_, 1)) : W p l e R s0 m args below meth c H locs 0 0 (MQ below (QcV Z V A s) args s0 0 0 A) (F0 m pc ls []) := by
  obtain ⟨hK, hP, hD, hS, hA, hG, hO⟩ := h
  exact W.vret F.1 F.2.1 hr (fun t ht hW => ⟨⟨s, rfl, rfl, by rw [ht]; exact hP, va_K.moved hW.alike hK, hD, hG⟩, hS.F ht⟩) hS.2.2 hdg hlocks
theorem ret_R {r : Nat} {C : String} (F : CallFix p m c cc nL s0 args Ts own) (hr : meth.sig.returnType = some (.object C)) (hlocks : meth.locks = false) (h : HW Z V A s0 H locs s) (hdg : decode cc pc = .ok (.areturn, 1)) : W p l e R s0 m args below meth c H locs 0 0 (MQ below (QcR Z V A r s) args s0 0 0 A) (F0 m pc ls [.ref r]) := by
  obtain ⟨hK, hP, hD, hS, hA, hG, hO⟩ := h
  exact W.aret F.1 F.2.1 hr (Or.inl ⟨C, rfl⟩) (Or.inr ⟨r, rfl⟩) (fun t ht hW => ⟨⟨s, r, rfl, rfl, rfl, by rw [ht]; exact hP, va_K.moved hW.alike hK, hD, hG⟩, hS.F ht⟩) hS.2.2 hdg hlocks
theorem retE_I {r r1 : Int32} (F : CallFix p m c cc nL s0 args Ts own) (hr : meth.sig.returnType = some .int) (hlocks : meth.locks = false) (h : HW Z V A s0 H locs s) (hf : some (r1, s) = some (r, s')) (hdg : decode cc pc = .ok (.ireturn, 1)) : W p l e R s0 m args below meth c H locs 0 0 (MQ below (QcI Z V A r s') args s0 0 0 A) (F0 m pc ls [.int r1]) := by
  cases hf; exact ret_I F hr hlocks h hdg
theorem retE_Ir {r r1 : Int32} (F : CallFix p m c cc nL s0 args Ts own) (hr : meth.sig.returnType = some .int) (hlocks : meth.locks = false) (h : HW Z V A s0 H locs s) (hf : some r1 = some r) (hdg : decode cc pc = .ok (.ireturn, 1)) : W p l e R s0 m args below meth c H locs 0 0 (MQ below (QcI Z V A r s) args s0 0 0 A) (F0 m pc ls [.int r1]) := by
  cases hf; exact ret_I F hr hlocks h hdg
theorem retE_Z {r r1 : Int32} (F : CallFix p m c cc nL s0 args Ts own) (hr : meth.sig.returnType = some .boolean) (hlocks : meth.locks = false) (hz : gZ r1 = true) (h : HW Z V A s0 H locs s) (hf : some (r1, s) = some (r, s')) (hdg : decode cc pc = .ok (.ireturn, 1)) : W p l e R s0 m args below meth c H locs 0 0 (MQ below (QcI Z V A r s') args s0 0 0 A) (F0 m pc ls [.int r1]) := by
  cases hf; exact ret_Z F hr hlocks hz h hdg
theorem retE_Zr {r r1 : Int32} (F : CallFix p m c cc nL s0 args Ts own) (hr : meth.sig.returnType = some .boolean) (hlocks : meth.locks = false) (hz : gZ r1 = true) (h : HW Z V A s0 H locs s) (hf : some r1 = some r) (hdg : decode cc pc = .ok (.ireturn, 1)) : W p l e R s0 m args below meth c H locs 0 0 (MQ below (QcI Z V A r s) args s0 0 0 A) (F0 m pc ls [.int r1]) := by
  cases hf; exact ret_Z F hr hlocks hz h hdg
theorem retE_L {r r1 : Int64} (F : CallFix p m c cc nL s0 args Ts own) (hr : meth.sig.returnType = some .long) (hlocks : meth.locks = false) (h : HW Z V A s0 H locs s) (hf : some (r1, s) = some (r, s')) (hdg : decode cc pc = .ok (.lreturn, 1)) : W p l e R s0 m args below meth c H locs 0 0 (MQ below (QcL Z V A r s') args s0 0 0 A) (F0 m pc ls [.long r1]) := by
  cases hf; exact ret_L F hr hlocks h hdg
theorem retE_Lr {r r1 : Int64} (F : CallFix p m c cc nL s0 args Ts own) (hr : meth.sig.returnType = some .long) (hlocks : meth.locks = false) (h : HW Z V A s0 H locs s) (hf : some r1 = some r) (hdg : decode cc pc = .ok (.lreturn, 1)) : W p l e R s0 m args below meth c H locs 0 0 (MQ below (QcL Z V A r s) args s0 0 0 A) (F0 m pc ls [.long r1]) := by
  cases hf; exact ret_L F hr hlocks h hdg
theorem retE_V (F : CallFix p m c cc nL s0 args Ts own) (hr : meth.sig.returnType = none) (hlocks : meth.locks = false) (h : HW Z V A s0 H locs s) (hf : some s = some s') (hdg : decode cc pc = .ok (.return_, 1)) : W p l e R s0 m args below meth c H locs 0 0 (MQ below (QcV Z V A s') args s0 0 0 A) (F0 m pc ls []) := by
  cases hf; exact ret_V F hr hlocks h hdg
theorem retE_R {r0 r a : Nat} {C : String} (F : CallFix p m c cc nL s0 args Ts own) (hr : meth.sig.returnType = some (.object C)) (hlocks : meth.locks = false) (h : HW Z V A s0 H locs s) (ad : Nat → Nat) (ha : a = ad r0) (hf : some (r0, s) = some (r, s')) (hdg : decode cc pc = .ok (.areturn, 1)) : W p l e R s0 m args below meth c H locs 0 0 (MQ below (QcR Z V A (ad r) s') args s0 0 0 A) (F0 m pc ls [.ref a]) := by
  cases hf; subst ha; exact ret_R F hr hlocks h hdg
theorem retE_Rr {r0 r a : Nat} {C : String} (F : CallFix p m c cc nL s0 args Ts own) (hr : meth.sig.returnType = some (.object C)) (hlocks : meth.locks = false) (h : HW Z V A s0 H locs s) (ad : Nat → Nat) (ha : a = ad r0) (hf : some r0 = some r) (hdg : decode cc pc = .ok (.areturn, 1)) : W p l e R s0 m args below meth c H locs 0 0 (MQ below (QcR Z V A (ad r) s) args s0 0 0 A) (F0 m pc ls [.ref a]) := by
  cases hf; subst ha; exact ret_R F hr hlocks h hdg
theorem retN {r : Int32} {ty : FieldType} (F : CallFix p m c cc nL s0 args Ts own) (hr : meth.sig.returnType = some ty) (hlocks : meth.locks = false) (hn : narrow ty (.int r) = .int r) (h : HW Z V A s0 H locs s) (hdg : decode cc pc = .ok (.ireturn, 1)) : W p l e R s0 m args below meth c H locs 0 0 (MQ below (QcI Z V A r s) args s0 0 0 A) (F0 m pc ls [.int r]) := by
  obtain ⟨hK, hP, hD, hS, hA, hG, hO⟩ := h
  exact W.zret F.1 F.2.1 hr hn (fun t ht hW => ⟨⟨r, s, rfl, ⟨rfl, rfl⟩, by rw [ht]; exact hP, va_K.moved hW.alike hK, hD, hG⟩, hS.F ht⟩) hS.2.2 hdg hlocks
/-! calls -/
theorem call_VI {r : Int32} (F : CallFix p m c cc nL s0 args Ts own) (hM : KI l Z V y ws rm (.ref b :: As) s r s') (cw : CallW R s0 args own C index y bytes maxL ret ws rm 0 0 n) (h : HW Z V A s0 H locs s) (hrc : ∃ cell : Cell, H[b]? = some cell ∧ cell.vm.isStatics = false ∧ s0.vm.findClass C = some cell.cls) (hn : As.length = n) (hls : ls.size = nL) (hst : st = As.reverse ++ .ref b :: rest) (hroom : (rest.map fun v => v.category).sum ≤ 8) (hcs : cells ≤ R.cells ∧ slots ≤ R.slots) (hdg : decode cc pc = .ok (.invokevirtual index, 3))
    (kk : ∀ (H1 : Heap) (locs1 : List Loc), HW Z V A s0 H1 locs1 s' → W p l e R s0 m args below meth c H1 locs1 cells slots Q (F0 m (pc + 3) ls (.int r :: rest))) : W p l e R s0 m args below meth c H locs cells slots Q (F0 m pc ls st) := by
  refine va_calli (va_runV (As := As) (rest := rest) (b := b) F (hM H.size) cw ⟨preW_blind, hrc, h.pre⟩ rfl hn hls hst (lv_room hroom) hdg hcs) h.2.2.2.1 (fun q _ z => h.free q z) h.free (fun x u t H1 locs1 ht hvm hw hB hz1 hk1 hS => ?_)
  obtain ⟨rfl, rfl⟩ := hw
  exact kk H1 locs1 (h.after ht hvm hB hS)
theorem call_VL {r : Int64} (F : CallFix p m c cc nL s0 args Ts own) (hM : KL l Z V y ws rm (.ref b :: As) s r s') (cw : CallW R s0 args own C index y bytes maxL ret ws rm 0 0 n) (h : HW Z V A s0 H locs s) (hrc : ∃ cell : Cell, H[b]? = some cell ∧ cell.vm.isStatics = false ∧ s0.vm.findClass C = some cell.cls) (hn : As.length = n) (hls : ls.size = nL) (hst : st = As.reverse ++ .ref b :: rest) (hroom : (rest.map fun v => v.category).sum ≤ 8) (hcs : cells ≤ R.cells ∧ slots ≤ R.slots) (hdg : decode cc pc = .ok (.invokevirtual index, 3))
    (kk : ∀ (H1 : Heap) (locs1 : List Loc), HW Z V A s0 H1 locs1 s' → W p l e R s0 m args below meth c H1 locs1 cells slots Q (F0 m (pc + 3) ls (.long r :: rest))) : W p l e R s0 m args below meth c H locs cells slots Q (F0 m pc ls st) := by
  refine va_calll (va_runV (As := As) (rest := rest) (b := b) F (hM H.size) cw ⟨preW_blind, hrc, h.pre⟩ rfl hn hls hst (lv_room hroom) hdg hcs) h.2.2.2.1 (fun q _ z => h.free q z) h.free (fun x u t H1 locs1 ht hvm hw hB hz1 hk1 hS => ?_)
  obtain ⟨rfl, rfl⟩ := hw
  exact kk H1 locs1 (h.after ht hvm hB hS)
theorem call_VV (F : CallFix p m c cc nL s0 args Ts own) (hM : KV l Z V y ws rm (.ref b :: As) s s') (cw : CallW R s0 args own C index y bytes maxL ret ws rm 0 0 n) (h : HW Z V A s0 H locs s) (hrc : ∃ cell : Cell, H[b]? = some cell ∧ cell.vm.isStatics = false ∧ s0.vm.findClass C = some cell.cls) (hn : As.length = n) (hls : ls.size = nL) (hst : st = As.reverse ++ .ref b :: rest) (hroom : (rest.map fun v => v.category).sum ≤ 8) (hcs : cells ≤ R.cells ∧ slots ≤ R.slots) (hdg : decode cc pc = .ok (.invokevirtual index, 3))
    (kk : ∀ (H1 : Heap) (locs1 : List Loc), HW Z V A s0 H1 locs1 s' → W p l e R s0 m args below meth c H1 locs1 cells slots Q (F0 m (pc + 3) ls rest)) : W p l e R s0 m args below meth c H locs cells slots Q (F0 m pc ls st) := by
  refine va_callv (va_runV (As := As) (rest := rest) (b := b) F (hM H.size) cw ⟨preW_blind, hrc, h.pre⟩ rfl hn hls hst (lv_room hroom) hdg hcs) h.2.2.2.1 (fun q _ z => h.free q z) h.free (fun u t H1 locs1 ht hvm hw hB hz1 hk1 hS => ?_)
  subst hw
  exact kk H1 locs1 (h.after ht hvm hB hS)
theorem call_VR {r : Nat} (F : CallFix p m c cc nL s0 args Ts own) (hM : KR l Z V y ws rm (.ref b :: As) s r s') (cw : CallW R s0 args own C index y bytes maxL ret ws rm 0 0 n) (h : HW Z V A s0 H locs s) (hrc : ∃ cell : Cell, H[b]? = some cell ∧ cell.vm.isStatics = false ∧ s0.vm.findClass C = some cell.cls) (hn : As.length = n) (hls : ls.size = nL) (hst : st = As.reverse ++ .ref b :: rest) (hroom : (rest.map fun v => v.category).sum ≤ 8) (hcs : cells ≤ R.cells ∧ slots ≤ R.slots) (hdg : decode cc pc = .ok (.invokevirtual index, 3))
    (kk : ∀ (H1 : Heap) (locs1 : List Loc), HW Z V A s0 H1 locs1 s' → W p l e R s0 m args below meth c H1 locs1 cells slots Q (F0 m (pc + 3) ls (.ref r :: rest))) : W p l e R s0 m args below meth c H locs cells slots Q (F0 m pc ls st) := by
  refine va_callr (va_runV (As := As) (rest := rest) (b := b) F (hM H.size) cw ⟨preW_blind, hrc, h.pre⟩ rfl hn hls hst (lv_room hroom) hdg hcs) h.2.2.2.1 (fun q _ z => h.free q z) h.free (fun u a t H1 locs1 ht hvm hw hB hz1 hk1 hS => ?_)
  obtain ⟨rfl, hB⟩ := hB
  subst hw
  exact kk H1 locs1 (h.after ht hvm hB hS)
theorem call_SI {r : Int32} (F : CallFix p m c cc nL s0 args Ts own) (hM : KI l Z V y ws rm As s r s') (cw : CallB R s0 args own index y bytes maxL ret ws rm 0 0 n ∧ (Cond.static y).before args s0 = true) (h : HW Z V A s0 H locs s) (hn : As.length = n) (hls : ls.size = nL) (hst : st = As.reverse ++ rest) (hroom : (rest.map fun v => v.category).sum ≤ 8) (hcs : cells ≤ R.cells ∧ slots ≤ R.slots) (hdg : decode cc pc = .ok (.invokestatic index, 3))
    (kk : ∀ (H1 : Heap) (locs1 : List Loc), HW Z V A s0 H1 locs1 s' → W p l e R s0 m args below meth c H1 locs1 cells slots Q (F0 m (pc + 3) ls (.int r :: rest))) : W p l e R s0 m args below meth c H locs cells slots Q (F0 m pc ls st) := by
  refine va_calli (va_runS (As := As) (rest := rest) F (hM H.size) cw ⟨preW_blind, h.pre⟩ rfl hn hls hst (lv_room hroom) hdg hcs) h.2.2.2.1 (fun q _ z => h.free q z) h.free (fun x u t H1 locs1 ht hvm hw hB hz1 hk1 hS => ?_)
  obtain ⟨rfl, rfl⟩ := hw
  exact kk H1 locs1 (h.after ht hvm hB hS)
theorem call_SV (F : CallFix p m c cc nL s0 args Ts own) (hM : KV l Z V y ws rm As s s') (cw : CallB R s0 args own index y bytes maxL ret ws rm 0 0 n ∧ (Cond.static y).before args s0 = true) (h : HW Z V A s0 H locs s) (hn : As.length = n) (hls : ls.size = nL) (hst : st = As.reverse ++ rest) (hroom : (rest.map fun v => v.category).sum ≤ 8) (hcs : cells ≤ R.cells ∧ slots ≤ R.slots) (hdg : decode cc pc = .ok (.invokestatic index, 3))
    (kk : ∀ (H1 : Heap) (locs1 : List Loc), HW Z V A s0 H1 locs1 s' → W p l e R s0 m args below meth c H1 locs1 cells slots Q (F0 m (pc + 3) ls rest)) : W p l e R s0 m args below meth c H locs cells slots Q (F0 m pc ls st) := by
  refine va_callv (va_runS (As := As) (rest := rest) F (hM H.size) cw ⟨preW_blind, h.pre⟩ rfl hn hls hst (lv_room hroom) hdg hcs) h.2.2.2.1 (fun q _ z => h.free q z) h.free (fun u t H1 locs1 ht hvm hw hB hz1 hk1 hS => ?_)
  subst hw
  exact kk H1 locs1 (h.after ht hvm hB hS)
theorem call_SL {r : Int64} (F : CallFix p m c cc nL s0 args Ts own) (hM : KL l Z V y ws rm As s r s') (cw : CallB R s0 args own index y bytes maxL ret ws rm 0 0 n ∧ (Cond.static y).before args s0 = true) (h : HW Z V A s0 H locs s) (hn : As.length = n) (hls : ls.size = nL) (hst : st = As.reverse ++ rest) (hroom : (rest.map fun v => v.category).sum ≤ 8) (hcs : cells ≤ R.cells ∧ slots ≤ R.slots) (hdg : decode cc pc = .ok (.invokestatic index, 3))
    (kk : ∀ (H1 : Heap) (locs1 : List Loc), HW Z V A s0 H1 locs1 s' → W p l e R s0 m args below meth c H1 locs1 cells slots Q (F0 m (pc + 3) ls (.long r :: rest))) : W p l e R s0 m args below meth c H locs cells slots Q (F0 m pc ls st) := by
  refine va_calll (va_runS (As := As) (rest := rest) F (hM H.size) cw ⟨preW_blind, h.pre⟩ rfl hn hls hst (lv_room hroom) hdg hcs) h.2.2.2.1 (fun q _ z => h.free q z) h.free (fun x u t H1 locs1 ht hvm hw hB hz1 hk1 hS => ?_)
  obtain ⟨rfl, rfl⟩ := hw
  exact kk H1 locs1 (h.after ht hvm hB hS)
end BASE
