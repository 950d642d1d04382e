section RX
variable {p : Program} {l : Launch} {e : Env} {R : Room} {s0 : State} {m : MethodId} {args : Array Value} {below : List Frame} {meth : Method} {c : Code} {H : Heap} {locs : List Loc} {cells slots : Nat} {P : State → Prop}
variable {cc : ByteArray} {pc : Nat} {ls : Array Slot} {rest : List Value} {A : Nat → Prop} {Z : ZT} {Q : Nat → Nat} {s : XS} {Ts : List Cond} {own : String} {nL index : Nat}
set_option maxRecDepth 100000 in
set_option maxHeartbeats 4000000 in
theorem rcX_House (h : HW Z (wX Z Q) A s0 H locs s) : ∃ cell : Cell, H[(Q 0)]? = some cell ∧ cell.vm.isStatics = false ∧ s0.vm.findClass RX9 = some cell.cls := va_recv h.1 h.2.1 (ci := 9) (q0 := 0) rfl rfl
set_option maxRecDepth 100000 in
set_option maxHeartbeats 4000000 in
theorem gX_House_city (F : CallFix p m c cc nL s0 args Ts own) (h : HW Z (wX Z Q) A s0 H locs s) (hin : ∀ w ∈ wsX90, w ∈ Ts) (hlink : (Cond.fieldLink own index "ElectionHouse" "city" "LElectionHouse$City;").before args s0 = true) (hdg : decode cc pc = .ok (.getfield index, 3)) (kk : W p l e R s0 m args below meth c H locs cells slots P (F0 m (pc + 3) ls (.ref (Q 1) :: rest))) : W p l e R s0 m args below meth c H locs cells slots P (F0 m pc ls (.ref (Q 0) :: rest)) := gen_get (C := RX9) (T := TX9) (N := 8) F h 0 rfl rfl 0 (by decide) hin hlink rfl hdg kk
set_option maxRecDepth 100000 in
set_option maxHeartbeats 4000000 in
theorem gX_House_tape (F : CallFix p m c cc nL s0 args Ts own) (h : HW Z (wX Z Q) A s0 H locs s) (hin : ∀ w ∈ wsX90, w ∈ Ts) (hlink : (Cond.fieldLink own index "ElectionHouse" "tape" "LElectionHouse$Tape;").before args s0 = true) (hdg : decode cc pc = .ok (.getfield index, 3)) (kk : W p l e R s0 m args below meth c H locs cells slots P (F0 m (pc + 3) ls (.ref (Q 7) :: rest))) : W p l e R s0 m args below meth c H locs cells slots P (F0 m pc ls (.ref (Q 0) :: rest)) := gen_get (C := RX9) (T := TX9) (N := 8) F h 0 rfl rfl 1 (by decide) hin hlink rfl hdg kk
set_option maxRecDepth 100000 in
set_option maxHeartbeats 4000000 in
theorem gX_House_reader (F : CallFix p m c cc nL s0 args Ts own) (h : HW Z (wX Z Q) A s0 H locs s) (hin : ∀ w ∈ wsX90, w ∈ Ts) (hlink : (Cond.fieldLink own index "ElectionHouse" "reader" "LElectionHouse$Reader;").before args s0 = true) (hdg : decode cc pc = .ok (.getfield index, 3)) (kk : W p l e R s0 m args below meth c H locs cells slots P (F0 m (pc + 3) ls (.ref (Q 9) :: rest))) : W p l e R s0 m args below meth c H locs cells slots P (F0 m pc ls (.ref (Q 0) :: rest)) := gen_get (C := RX9) (T := TX9) (N := 8) F h 0 rfl rfl 2 (by decide) hin hlink rfl hdg kk
set_option maxRecDepth 100000 in
set_option maxHeartbeats 4000000 in
theorem gX_House_lots (F : CallFix p m c cc nL s0 args Ts own) (h : HW Z (wX Z Q) A s0 H locs s) (hin : ∀ w ∈ wsX90, w ∈ Ts) (hlink : (Cond.fieldLink own index "ElectionHouse" "lots" "LElectionHouse$LotRow;").before args s0 = true) (hdg : decode cc pc = .ok (.getfield index, 3)) (kk : W p l e R s0 m args below meth c H locs cells slots P (F0 m (pc + 3) ls (.ref (Q 10) :: rest))) : W p l e R s0 m args below meth c H locs cells slots P (F0 m pc ls (.ref (Q 0) :: rest)) := gen_get (C := RX9) (T := TX9) (N := 8) F h 0 rfl rfl 3 (by decide) hin hlink rfl hdg kk
set_option maxRecDepth 100000 in
set_option maxHeartbeats 4000000 in
theorem gX_House_poll (F : CallFix p m c cc nL s0 args Ts own) (h : HW Z (wX Z Q) A s0 H locs s) (hin : ∀ w ∈ wsX90, w ∈ Ts) (hlink : (Cond.fieldLink own index "ElectionHouse" "poll" "LElectionHouse$Poll;").before args s0 = true) (hdg : decode cc pc = .ok (.getfield index, 3)) (kk : W p l e R s0 m args below meth c H locs cells slots P (F0 m (pc + 3) ls (.ref (Q 12) :: rest))) : W p l e R s0 m args below meth c H locs cells slots P (F0 m pc ls (.ref (Q 0) :: rest)) := gen_get (C := RX9) (T := TX9) (N := 8) F h 0 rfl rfl 4 (by decide) hin hlink rfl hdg kk
set_option maxRecDepth 100000 in
set_option maxHeartbeats 4000000 in
theorem gX_House_session (F : CallFix p m c cc nL s0 args Ts own) (h : HW Z (wX Z Q) A s0 H locs s) (hin : ∀ w ∈ wsX90, w ∈ Ts) (hlink : (Cond.fieldLink own index "ElectionHouse" "session" "LElectionHouse$Session;").before args s0 = true) (hdg : decode cc pc = .ok (.getfield index, 3)) (kk : W p l e R s0 m args below meth c H locs cells slots P (F0 m (pc + 3) ls (.ref (Q 14) :: rest))) : W p l e R s0 m args below meth c H locs cells slots P (F0 m pc ls (.ref (Q 0) :: rest)) := gen_get (C := RX9) (T := TX9) (N := 8) F h 0 rfl rfl 5 (by decide) hin hlink rfl hdg kk
set_option maxRecDepth 100000 in
set_option maxHeartbeats 4000000 in
theorem gX_House_odds (F : CallFix p m c cc nL s0 args Ts own) (h : HW Z (wX Z Q) A s0 H locs s) (hin : ∀ w ∈ wsX90, w ∈ Ts) (hlink : (Cond.fieldLink own index "ElectionHouse" "odds" "LElectionHouse$Odds;").before args s0 = true) (hdg : decode cc pc = .ok (.getfield index, 3)) (kk : W p l e R s0 m args below meth c H locs cells slots P (F0 m (pc + 3) ls (.ref (Q 29) :: rest))) : W p l e R s0 m args below meth c H locs cells slots P (F0 m pc ls (.ref (Q 0) :: rest)) := gen_get (C := RX9) (T := TX9) (N := 8) F h 0 rfl rfl 6 (by decide) hin hlink rfl hdg kk
set_option maxRecDepth 100000 in
set_option maxHeartbeats 4000000 in
theorem gX_House_draft (F : CallFix p m c cc nL s0 args Ts own) (h : HW Z (wX Z Q) A s0 H locs s) (hin : ∀ w ∈ wsX90, w ∈ Ts) (hlink : (Cond.fieldLink own index "ElectionHouse" "draft" "LElectionHouse$Plan;").before args s0 = true) (hdg : decode cc pc = .ok (.getfield index, 3)) (kk : W p l e R s0 m args below meth c H locs cells slots P (F0 m (pc + 3) ls (.ref (Q (19 + 5 * (gG s 0 7))) :: rest))) : W p l e R s0 m args below meth c H locs cells slots P (F0 m pc ls (.ref (Q 0) :: rest)) := gen_get (C := RX9) (T := TX9) (N := 8) F h 0 rfl rfl 7 (by decide) hin hlink rfl hdg kk
set_option maxRecDepth 100000 in
set_option maxHeartbeats 4000000 in
theorem pX_House_draft {x : Nat} (hx2 : x < 2) (F : CallFix p m c cc nL s0 args Ts own) (h : HW Z (wX Z Q) A s0 H locs s) (hin : ∀ w ∈ wsX90, w ∈ Ts) (hlink : (Cond.fieldLink own index "ElectionHouse" "draft" "LElectionHouse$Plan;").before args s0 = true) (hdg : decode cc pc = .ok (.putfield index, 3)) (kk : ∀ (H1 : Heap) (locs1 : List Loc), HW Z (wX Z Q) A s0 H1 locs1 (sG s 0 7 x) → W p l e R s0 m args below meth c H1 locs1 cells slots P (F0 m (pc + 3) ls (rest))) : W p l e R s0 m args below meth c H locs cells slots P (F0 m pc ls (.ref (Q (19 + 5 * x)) :: .ref (Q 0) :: rest)) := gen_put (s' := sG s 0 7 x) (ty := .object "ElectionHouse$Plan") (C := RX9) (T := TX9) (N := 8) F h 0 rfl rfl 7 (by decide) hin tyX9 tyX9_ok nmX9 hlink rfl (by decide +kernel) rfl rfl (Nat.le_of_ble_eq_true rfl) rfl (sG_ok h.2.2.2.2.2.1 hx2) hdg kk
set_option maxRecDepth 100000 in
set_option maxHeartbeats 4000000 in
theorem rcX_City (h : HW Z (wX Z Q) A s0 H locs s) : ∃ cell : Cell, H[(Q 1)]? = some cell ∧ cell.vm.isStatics = false ∧ s0.vm.findClass RX0 = some cell.cls := va_recv h.1 h.2.1 (ci := 0) (q0 := 1) rfl rfl
set_option maxRecDepth 100000 in
set_option maxHeartbeats 4000000 in
theorem gX_City_houses (F : CallFix p m c cc nL s0 args Ts own) (h : HW Z (wX Z Q) A s0 H locs s) (hin : ∀ w ∈ wsX00, w ∈ Ts) (hlink : (Cond.fieldLink own index "ElectionHouse$City" "houses" "[I").before args s0 = true) (hdg : decode cc pc = .ok (.getfield index, 3)) (kk : W p l e R s0 m args below meth c H locs cells slots P (F0 m (pc + 3) ls (.ref (Q 2) :: rest))) : W p l e R s0 m args below meth c H locs cells slots P (F0 m pc ls (.ref (Q 1) :: rest)) := gen_get (C := RX0) (T := TX0) (N := 7) F h 1 rfl rfl 0 (by decide) hin hlink rfl hdg kk
set_option maxRecDepth 100000 in
set_option maxHeartbeats 4000000 in
theorem gX_City_parties (F : CallFix p m c cc nL s0 args Ts own) (h : HW Z (wX Z Q) A s0 H locs s) (hin : ∀ w ∈ wsX00, w ∈ Ts) (hlink : (Cond.fieldLink own index "ElectionHouse$City" "parties" "[I").before args s0 = true) (hdg : decode cc pc = .ok (.getfield index, 3)) (kk : W p l e R s0 m args below meth c H locs cells slots P (F0 m (pc + 3) ls (.ref (Q 3) :: rest))) : W p l e R s0 m args below meth c H locs cells slots P (F0 m pc ls (.ref (Q 1) :: rest)) := gen_get (C := RX0) (T := TX0) (N := 7) F h 1 rfl rfl 1 (by decide) hin hlink rfl hdg kk
set_option maxRecDepth 100000 in
set_option maxHeartbeats 4000000 in
theorem gX_City_present (F : CallFix p m c cc nL s0 args Ts own) (h : HW Z (wX Z Q) A s0 H locs s) (hin : ∀ w ∈ wsX00, w ∈ Ts) (hlink : (Cond.fieldLink own index "ElectionHouse$City" "present" "[Z").before args s0 = true) (hdg : decode cc pc = .ok (.getfield index, 3)) (kk : W p l e R s0 m args below meth c H locs cells slots P (F0 m (pc + 3) ls (.ref (Q 4) :: rest))) : W p l e R s0 m args below meth c H locs cells slots P (F0 m pc ls (.ref (Q 1) :: rest)) := gen_get (C := RX0) (T := TX0) (N := 7) F h 1 rfl rfl 2 (by decide) hin hlink rfl hdg kk
set_option maxRecDepth 100000 in
set_option maxHeartbeats 4000000 in
theorem gX_City_yes (F : CallFix p m c cc nL s0 args Ts own) (h : HW Z (wX Z Q) A s0 H locs s) (hin : ∀ w ∈ wsX00, w ∈ Ts) (hlink : (Cond.fieldLink own index "ElectionHouse$City" "yes" "[Z").before args s0 = true) (hdg : decode cc pc = .ok (.getfield index, 3)) (kk : W p l e R s0 m args below meth c H locs cells slots P (F0 m (pc + 3) ls (.ref (Q 5) :: rest))) : W p l e R s0 m args below meth c H locs cells slots P (F0 m pc ls (.ref (Q 1) :: rest)) := gen_get (C := RX0) (T := TX0) (N := 7) F h 1 rfl rfl 3 (by decide) hin hlink rfl hdg kk
set_option maxRecDepth 100000 in
set_option maxHeartbeats 4000000 in
theorem gX_City_told (F : CallFix p m c cc nL s0 args Ts own) (h : HW Z (wX Z Q) A s0 H locs s) (hin : ∀ w ∈ wsX00, w ∈ Ts) (hlink : (Cond.fieldLink own index "ElectionHouse$City" "told" "[J").before args s0 = true) (hdg : decode cc pc = .ok (.getfield index, 3)) (kk : W p l e R s0 m args below meth c H locs cells slots P (F0 m (pc + 3) ls (.ref (Q 6) :: rest))) : W p l e R s0 m args below meth c H locs cells slots P (F0 m pc ls (.ref (Q 1) :: rest)) := gen_get (C := RX0) (T := TX0) (N := 7) F h 1 rfl rfl 4 (by decide) hin hlink rfl hdg kk
set_option maxRecDepth 100000 in
set_option maxHeartbeats 4000000 in
theorem gX_City_size (F : CallFix p m c cc nL s0 args Ts own) (h : HW Z (wX Z Q) A s0 H locs s) (hin : ∀ w ∈ wsX00, w ∈ Ts) (hlink : (Cond.fieldLink own index "ElectionHouse$City" "size" "I").before args s0 = true) (hdg : decode cc pc = .ok (.getfield index, 3)) (kk : W p l e R s0 m args below meth c H locs cells slots P (F0 m (pc + 3) ls (.int (gM s 1 5) :: rest))) : W p l e R s0 m args below meth c H locs cells slots P (F0 m pc ls (.ref (Q 1) :: rest)) := gen_get (C := RX0) (T := TX0) (N := 7) F h 1 rfl rfl 5 (by decide) hin hlink rfl hdg kk
set_option maxRecDepth 100000 in
set_option maxHeartbeats 4000000 in
theorem pX_City_size {x : Int32} (F : CallFix p m c cc nL s0 args Ts own) (h : HW Z (wX Z Q) A s0 H locs s) (hin : ∀ w ∈ wsX00, w ∈ Ts) (hlink : (Cond.fieldLink own index "ElectionHouse$City" "size" "I").before args s0 = true) (hdg : decode cc pc = .ok (.putfield index, 3)) (kk : ∀ (H1 : Heap) (locs1 : List Loc), HW Z (wX Z Q) A s0 H1 locs1 (sM s 1 5 x) → W p l e R s0 m args below meth c H1 locs1 cells slots P (F0 m (pc + 3) ls (rest))) : W p l e R s0 m args below meth c H locs cells slots P (F0 m pc ls (.int x :: .ref (Q 1) :: rest)) := gen_put (s' := sM s 1 5 x) (ty := .int) (C := RX0) (T := TX0) (N := 7) F h 1 rfl rfl 5 (by decide) hin tyX0 tyX0_ok nmX0 hlink rfl (by decide +kernel) rfl rfl (Nat.le_of_ble_eq_true rfl) rfl h.2.2.2.2.2.1 hdg kk
set_option maxRecDepth 100000 in
set_option maxHeartbeats 4000000 in
theorem gX_City_pairs (F : CallFix p m c cc nL s0 args Ts own) (h : HW Z (wX Z Q) A s0 H locs s) (hin : ∀ w ∈ wsX00, w ∈ Ts) (hlink : (Cond.fieldLink own index "ElectionHouse$City" "pairs" "I").before args s0 = true) (hdg : decode cc pc = .ok (.getfield index, 3)) (kk : W p l e R s0 m args below meth c H locs cells slots P (F0 m (pc + 3) ls (.int (gM s 1 6) :: rest))) : W p l e R s0 m args below meth c H locs cells slots P (F0 m pc ls (.ref (Q 1) :: rest)) := gen_get (C := RX0) (T := TX0) (N := 7) F h 1 rfl rfl 6 (by decide) hin hlink rfl hdg kk
set_option maxRecDepth 100000 in
set_option maxHeartbeats 4000000 in
theorem pX_City_pairs {x : Int32} (F : CallFix p m c cc nL s0 args Ts own) (h : HW Z (wX Z Q) A s0 H locs s) (hin : ∀ w ∈ wsX00, w ∈ Ts) (hlink : (Cond.fieldLink own index "ElectionHouse$City" "pairs" "I").before args s0 = true) (hdg : decode cc pc = .ok (.putfield index, 3)) (kk : ∀ (H1 : Heap) (locs1 : List Loc), HW Z (wX Z Q) A s0 H1 locs1 (sM s 1 6 x) → W p l e R s0 m args below meth c H1 locs1 cells slots P (F0 m (pc + 3) ls (rest))) : W p l e R s0 m args below meth c H locs cells slots P (F0 m pc ls (.int x :: .ref (Q 1) :: rest)) := gen_put (s' := sM s 1 6 x) (ty := .int) (C := RX0) (T := TX0) (N := 7) F h 1 rfl rfl 6 (by decide) hin tyX0 tyX0_ok nmX0 hlink rfl (by decide +kernel) rfl rfl (Nat.le_of_ble_eq_true rfl) rfl h.2.2.2.2.2.1 hdg kk
set_option maxRecDepth 100000 in
set_option maxHeartbeats 4000000 in
theorem nX_houses (F : CallFix p m c cc nL s0 args Ts own) (h : HW Z (wX Z Q) A s0 H locs s) (hdg : decode cc pc = .ok (.arraylength, 1)) (kk : W p l e R s0 m args below meth c H locs cells slots P (F0 m (pc + 1) ls (.int (40 : Int32) :: rest))) : W p l e R s0 m args below meth c H locs cells slots P (F0 m pc ls (.ref (Q 2) :: rest)) := va_alen F.1 F.2.1 h.1 h.2.1 2 1 rfl rfl (show Int32.ofNat 40 = _ by decide) hdg kk
set_option maxRecDepth 100000 in
set_option maxHeartbeats 4000000 in
theorem lX_houses (F : CallFix p m c cc nL s0 args Ts own) (h : HW Z (wX Z Q) A s0 H locs s) {i : Int32} (hi : gIn i 40 = true) (hdg : decode cc pc = .ok (.iaload, 1)) (kk : W p l e R s0 m args below meth c H locs cells slots P (F0 m (pc + 1) ls (.int (gM s 2 (ix i)) :: rest))) : W p l e R s0 m args below meth c H locs cells slots P (F0 m pc ls (.int i :: .ref (Q 2) :: rest)) := va_iald F.1 F.2.1 h.1 h.2.1 2 1 rfl rfl (gIn_vp hi) hdg kk
set_option maxRecDepth 100000 in
set_option maxHeartbeats 4000000 in
theorem sX_houses (F : CallFix p m c cc nL s0 args Ts own) (h : HW Z (wX Z Q) A s0 H locs s) {i : Int32} {x : Int32} (hi : gIn i 40 = true) (hdg : decode cc pc = .ok (.iastore, 1)) (kk : ∀ (H1 : Heap) (locs1 : List Loc), HW Z (wX Z Q) A s0 H1 locs1 (sM s 2 (ix i) x) → W p l e R s0 m args below meth c H1 locs1 cells slots P (F0 m (pc + 1) ls (rest))) : W p l e R s0 m args below meth c H locs cells slots P (F0 m pc ls (.int x :: .int i :: .ref (Q 2) :: rest)) := va_iast F.1 F.2.1 h.1 h.2.1 h.2.2.1 h.2.2.2.1 2 1 rfl rfl (gIn_vp hi) hdg (fun H1 locs1 hP hD hS => kk H1 locs1 ⟨h.1, hP, hD, hS, h.2.2.2.2.1, h.2.2.2.2.2.1, h.2.2.2.2.2.2⟩)
set_option maxRecDepth 100000 in
set_option maxHeartbeats 4000000 in
theorem nX_parties (F : CallFix p m c cc nL s0 args Ts own) (h : HW Z (wX Z Q) A s0 H locs s) (hdg : decode cc pc = .ok (.arraylength, 1)) (kk : W p l e R s0 m args below meth c H locs cells slots P (F0 m (pc + 1) ls (.int (40 : Int32) :: rest))) : W p l e R s0 m args below meth c H locs cells slots P (F0 m pc ls (.ref (Q 3) :: rest)) := va_alen F.1 F.2.1 h.1 h.2.1 3 1 rfl rfl (show Int32.ofNat 40 = _ by decide) hdg kk
set_option maxRecDepth 100000 in
set_option maxHeartbeats 4000000 in
theorem lX_parties (F : CallFix p m c cc nL s0 args Ts own) (h : HW Z (wX Z Q) A s0 H locs s) {i : Int32} (hi : gIn i 40 = true) (hdg : decode cc pc = .ok (.iaload, 1)) (kk : W p l e R s0 m args below meth c H locs cells slots P (F0 m (pc + 1) ls (.int (gM s 3 (ix i)) :: rest))) : W p l e R s0 m args below meth c H locs cells slots P (F0 m pc ls (.int i :: .ref (Q 3) :: rest)) := va_iald F.1 F.2.1 h.1 h.2.1 3 1 rfl rfl (gIn_vp hi) hdg kk
set_option maxRecDepth 100000 in
set_option maxHeartbeats 4000000 in
theorem sX_parties (F : CallFix p m c cc nL s0 args Ts own) (h : HW Z (wX Z Q) A s0 H locs s) {i : Int32} {x : Int32} (hi : gIn i 40 = true) (hdg : decode cc pc = .ok (.iastore, 1)) (kk : ∀ (H1 : Heap) (locs1 : List Loc), HW Z (wX Z Q) A s0 H1 locs1 (sM s 3 (ix i) x) → W p l e R s0 m args below meth c H1 locs1 cells slots P (F0 m (pc + 1) ls (rest))) : W p l e R s0 m args below meth c H locs cells slots P (F0 m pc ls (.int x :: .int i :: .ref (Q 3) :: rest)) := va_iast F.1 F.2.1 h.1 h.2.1 h.2.2.1 h.2.2.2.1 3 1 rfl rfl (gIn_vp hi) hdg (fun H1 locs1 hP hD hS => kk H1 locs1 ⟨h.1, hP, hD, hS, h.2.2.2.2.1, h.2.2.2.2.2.1, h.2.2.2.2.2.2⟩)
set_option maxRecDepth 100000 in
set_option maxHeartbeats 4000000 in
theorem nX_present (F : CallFix p m c cc nL s0 args Ts own) (h : HW Z (wX Z Q) A s0 H locs s) (hdg : decode cc pc = .ok (.arraylength, 1)) (kk : W p l e R s0 m args below meth c H locs cells slots P (F0 m (pc + 1) ls (.int (40 : Int32) :: rest))) : W p l e R s0 m args below meth c H locs cells slots P (F0 m pc ls (.ref (Q 4) :: rest)) := va_alen F.1 F.2.1 h.1 h.2.1 4 3 rfl rfl (show Int32.ofNat 40 = _ by decide) hdg kk
set_option maxRecDepth 100000 in
set_option maxHeartbeats 4000000 in
theorem lX_present (F : CallFix p m c cc nL s0 args Ts own) (h : HW Z (wX Z Q) A s0 H locs s) {i : Int32} (hi : gIn i 40 = true) (hdg : decode cc pc = .ok (.baload, 1)) (kk : W p l e R s0 m args below meth c H locs cells slots P (F0 m (pc + 1) ls (.int (gM s 4 (ix i)) :: rest))) : W p l e R s0 m args below meth c H locs cells slots P (F0 m pc ls (.int i :: .ref (Q 4) :: rest)) := va_zald F.1 F.2.1 h.1 h.2.1 4 3 rfl rfl (gIn_vp hi) hdg kk
set_option maxRecDepth 100000 in
set_option maxHeartbeats 4000000 in
theorem sX_present (F : CallFix p m c cc nL s0 args Ts own) (h : HW Z (wX Z Q) A s0 H locs s) {i : Int32} {x : Int32} (hi : gIn i 40 = true) (hdg : decode cc pc = .ok (.bastore, 1)) (kk : ∀ (H1 : Heap) (locs1 : List Loc), HW Z (wX Z Q) A s0 H1 locs1 (sM s 4 (ix i) (vp_nar .boolean x)) → W p l e R s0 m args below meth c H1 locs1 cells slots P (F0 m (pc + 1) ls (rest))) : W p l e R s0 m args below meth c H locs cells slots P (F0 m pc ls (.int x :: .int i :: .ref (Q 4) :: rest)) := va_zast F.1 F.2.1 h.1 h.2.1 h.2.2.1 h.2.2.2.1 4 3 rfl rfl (gIn_vp hi) hdg (fun H1 locs1 hP hD hS => kk H1 locs1 ⟨h.1, hP, hD, hS, h.2.2.2.2.1, h.2.2.2.2.2.1, h.2.2.2.2.2.2⟩)
set_option maxRecDepth 100000 in
set_option maxHeartbeats 4000000 in
theorem nX_yes (F : CallFix p m c cc nL s0 args Ts own) (h : HW Z (wX Z Q) A s0 H locs s) (hdg : decode cc pc = .ok (.arraylength, 1)) (kk : W p l e R s0 m args below meth c H locs cells slots P (F0 m (pc + 1) ls (.int (16 : Int32) :: rest))) : W p l e R s0 m args below meth c H locs cells slots P (F0 m pc ls (.ref (Q 5) :: rest)) := va_alen F.1 F.2.1 h.1 h.2.1 5 3 rfl rfl (show Int32.ofNat 16 = _ by decide) hdg kk
set_option maxRecDepth 100000 in
set_option maxHeartbeats 4000000 in
theorem lX_yes (F : CallFix p m c cc nL s0 args Ts own) (h : HW Z (wX Z Q) A s0 H locs s) {i : Int32} (hi : gIn i 16 = true) (hdg : decode cc pc = .ok (.baload, 1)) (kk : W p l e R s0 m args below meth c H locs cells slots P (F0 m (pc + 1) ls (.int (gM s 5 (ix i)) :: rest))) : W p l e R s0 m args below meth c H locs cells slots P (F0 m pc ls (.int i :: .ref (Q 5) :: rest)) := va_zald F.1 F.2.1 h.1 h.2.1 5 3 rfl rfl (gIn_vp hi) hdg kk
set_option maxRecDepth 100000 in
set_option maxHeartbeats 4000000 in
theorem sX_yes (F : CallFix p m c cc nL s0 args Ts own) (h : HW Z (wX Z Q) A s0 H locs s) {i : Int32} {x : Int32} (hi : gIn i 16 = true) (hdg : decode cc pc = .ok (.bastore, 1)) (kk : ∀ (H1 : Heap) (locs1 : List Loc), HW Z (wX Z Q) A s0 H1 locs1 (sM s 5 (ix i) (vp_nar .boolean x)) → W p l e R s0 m args below meth c H1 locs1 cells slots P (F0 m (pc + 1) ls (rest))) : W p l e R s0 m args below meth c H locs cells slots P (F0 m pc ls (.int x :: .int i :: .ref (Q 5) :: rest)) := va_zast F.1 F.2.1 h.1 h.2.1 h.2.2.1 h.2.2.2.1 5 3 rfl rfl (gIn_vp hi) hdg (fun H1 locs1 hP hD hS => kk H1 locs1 ⟨h.1, hP, hD, hS, h.2.2.2.2.1, h.2.2.2.2.2.1, h.2.2.2.2.2.2⟩)
set_option maxRecDepth 100000 in
set_option maxHeartbeats 4000000 in
theorem nX_told (F : CallFix p m c cc nL s0 args Ts own) (h : HW Z (wX Z Q) A s0 H locs s) (hdg : decode cc pc = .ok (.arraylength, 1)) (kk : W p l e R s0 m args below meth c H locs cells slots P (F0 m (pc + 1) ls (.int (40 : Int32) :: rest))) : W p l e R s0 m args below meth c H locs cells slots P (F0 m pc ls (.ref (Q 6) :: rest)) := va_alen F.1 F.2.1 h.1 h.2.1 6 2 rfl rfl (show Int32.ofNat 40 = _ by decide) hdg kk
set_option maxRecDepth 100000 in
set_option maxHeartbeats 4000000 in
theorem lX_told (F : CallFix p m c cc nL s0 args Ts own) (h : HW Z (wX Z Q) A s0 H locs s) {i : Int32} (hi : gIn i 40 = true) (hdg : decode cc pc = .ok (.laload, 1)) (kk : W p l e R s0 m args below meth c H locs cells slots P (F0 m (pc + 1) ls (.long (gJ s 6 (ix i)) :: rest))) : W p l e R s0 m args below meth c H locs cells slots P (F0 m pc ls (.int i :: .ref (Q 6) :: rest)) := va_lald F.1 F.2.1 h.1 h.2.1 6 2 rfl rfl (gIn_vp hi) hdg kk
set_option maxRecDepth 100000 in
set_option maxHeartbeats 4000000 in
theorem sX_told (F : CallFix p m c cc nL s0 args Ts own) (h : HW Z (wX Z Q) A s0 H locs s) {i : Int32} {x : Int64} (hi : gIn i 40 = true) (hdg : decode cc pc = .ok (.lastore, 1)) (kk : ∀ (H1 : Heap) (locs1 : List Loc), HW Z (wX Z Q) A s0 H1 locs1 (sJ s 6 (ix i) x) → W p l e R s0 m args below meth c H1 locs1 cells slots P (F0 m (pc + 1) ls (rest))) : W p l e R s0 m args below meth c H locs cells slots P (F0 m pc ls (.long x :: .int i :: .ref (Q 6) :: rest)) := va_last F.1 F.2.1 h.1 h.2.1 h.2.2.1 h.2.2.2.1 6 2 rfl rfl (gIn_vp hi) hdg (fun H1 locs1 hP hD hS => kk H1 locs1 ⟨h.1, hP, hD, hS, h.2.2.2.2.1, h.2.2.2.2.2.1, h.2.2.2.2.2.2⟩)
set_option maxRecDepth 100000 in
set_option maxHeartbeats 4000000 in
theorem rcX_Tape (h : HW Z (wX Z Q) A s0 H locs s) : ∃ cell : Cell, H[(Q 7)]? = some cell ∧ cell.vm.isStatics = false ∧ s0.vm.findClass RX8 = some cell.cls := va_recv h.1 h.2.1 (ci := 8) (q0 := 7) rfl rfl
set_option maxRecDepth 100000 in
set_option maxHeartbeats 4000000 in
theorem gX_Tape_bytes (F : CallFix p m c cc nL s0 args Ts own) (h : HW Z (wX Z Q) A s0 H locs s) (hin : ∀ w ∈ wsX80, w ∈ Ts) (hlink : (Cond.fieldLink own index "ElectionHouse$Tape" "bytes" "[I").before args s0 = true) (hdg : decode cc pc = .ok (.getfield index, 3)) (kk : W p l e R s0 m args below meth c H locs cells slots P (F0 m (pc + 3) ls (.ref (Q 8) :: rest))) : W p l e R s0 m args below meth c H locs cells slots P (F0 m pc ls (.ref (Q 7) :: rest)) := gen_get (C := RX8) (T := TX8) (N := 2) F h 7 rfl rfl 0 (by decide) hin hlink rfl hdg kk
set_option maxRecDepth 100000 in
set_option maxHeartbeats 4000000 in
theorem gX_Tape_length (F : CallFix p m c cc nL s0 args Ts own) (h : HW Z (wX Z Q) A s0 H locs s) (hin : ∀ w ∈ wsX80, w ∈ Ts) (hlink : (Cond.fieldLink own index "ElectionHouse$Tape" "length" "I").before args s0 = true) (hdg : decode cc pc = .ok (.getfield index, 3)) (kk : W p l e R s0 m args below meth c H locs cells slots P (F0 m (pc + 3) ls (.int (gM s 7 1) :: rest))) : W p l e R s0 m args below meth c H locs cells slots P (F0 m pc ls (.ref (Q 7) :: rest)) := gen_get (C := RX8) (T := TX8) (N := 2) F h 7 rfl rfl 1 (by decide) hin hlink rfl hdg kk
set_option maxRecDepth 100000 in
set_option maxHeartbeats 4000000 in
theorem pX_Tape_length {x : Int32} (F : CallFix p m c cc nL s0 args Ts own) (h : HW Z (wX Z Q) A s0 H locs s) (hin : ∀ w ∈ wsX80, w ∈ Ts) (hlink : (Cond.fieldLink own index "ElectionHouse$Tape" "length" "I").before args s0 = true) (hdg : decode cc pc = .ok (.putfield index, 3)) (kk : ∀ (H1 : Heap) (locs1 : List Loc), HW Z (wX Z Q) A s0 H1 locs1 (sM s 7 1 x) → W p l e R s0 m args below meth c H1 locs1 cells slots P (F0 m (pc + 3) ls (rest))) : W p l e R s0 m args below meth c H locs cells slots P (F0 m pc ls (.int x :: .ref (Q 7) :: rest)) := gen_put (s' := sM s 7 1 x) (ty := .int) (C := RX8) (T := TX8) (N := 2) F h 7 rfl rfl 1 (by decide) hin tyX8 tyX8_ok nmX8 hlink rfl (by decide +kernel) rfl rfl (Nat.le_of_ble_eq_true rfl) rfl h.2.2.2.2.2.1 hdg kk
set_option maxRecDepth 100000 in
set_option maxHeartbeats 4000000 in
theorem nX_bytes (F : CallFix p m c cc nL s0 args Ts own) (h : HW Z (wX Z Q) A s0 H locs s) (hdg : decode cc pc = .ok (.arraylength, 1)) (kk : W p l e R s0 m args below meth c H locs cells slots P (F0 m (pc + 1) ls (.int (300 : Int32) :: rest))) : W p l e R s0 m args below meth c H locs cells slots P (F0 m pc ls (.ref (Q 8) :: rest)) := va_alen F.1 F.2.1 h.1 h.2.1 8 1 rfl rfl (show Int32.ofNat 300 = _ by decide) hdg kk
set_option maxRecDepth 100000 in
set_option maxHeartbeats 4000000 in
theorem lX_bytes (F : CallFix p m c cc nL s0 args Ts own) (h : HW Z (wX Z Q) A s0 H locs s) {i : Int32} (hi : gIn i 300 = true) (hdg : decode cc pc = .ok (.iaload, 1)) (kk : W p l e R s0 m args below meth c H locs cells slots P (F0 m (pc + 1) ls (.int (gM s 8 (ix i)) :: rest))) : W p l e R s0 m args below meth c H locs cells slots P (F0 m pc ls (.int i :: .ref (Q 8) :: rest)) := va_iald F.1 F.2.1 h.1 h.2.1 8 1 rfl rfl (gIn_vp hi) hdg kk
set_option maxRecDepth 100000 in
set_option maxHeartbeats 4000000 in
theorem sX_bytes (F : CallFix p m c cc nL s0 args Ts own) (h : HW Z (wX Z Q) A s0 H locs s) {i : Int32} {x : Int32} (hi : gIn i 300 = true) (hdg : decode cc pc = .ok (.iastore, 1)) (kk : ∀ (H1 : Heap) (locs1 : List Loc), HW Z (wX Z Q) A s0 H1 locs1 (sM s 8 (ix i) x) → W p l e R s0 m args below meth c H1 locs1 cells slots P (F0 m (pc + 1) ls (rest))) : W p l e R s0 m args below meth c H locs cells slots P (F0 m pc ls (.int x :: .int i :: .ref (Q 8) :: rest)) := va_iast F.1 F.2.1 h.1 h.2.1 h.2.2.1 h.2.2.2.1 8 1 rfl rfl (gIn_vp hi) hdg (fun H1 locs1 hP hD hS => kk H1 locs1 ⟨h.1, hP, hD, hS, h.2.2.2.2.1, h.2.2.2.2.2.1, h.2.2.2.2.2.2⟩)
set_option maxRecDepth 100000 in
set_option maxHeartbeats 4000000 in
theorem rcX_Reader (h : HW Z (wX Z Q) A s0 H locs s) : ∃ cell : Cell, H[(Q 9)]? = some cell ∧ cell.vm.isStatics = false ∧ s0.vm.findClass RX5 = some cell.cls := va_recv h.1 h.2.1 (ci := 5) (q0 := 9) rfl rfl
set_option maxRecDepth 100000 in
set_option maxHeartbeats 4000000 in
theorem gX_Reader_tape (F : CallFix p m c cc nL s0 args Ts own) (h : HW Z (wX Z Q) A s0 H locs s) (hin : ∀ w ∈ wsX50, w ∈ Ts) (hlink : (Cond.fieldLink own index "ElectionHouse$Reader" "tape" "LElectionHouse$Tape;").before args s0 = true) (hdg : decode cc pc = .ok (.getfield index, 3)) (kk : W p l e R s0 m args below meth c H locs cells slots P (F0 m (pc + 3) ls (.ref (Q 7) :: rest))) : W p l e R s0 m args below meth c H locs cells slots P (F0 m pc ls (.ref (Q 9) :: rest)) := gen_get (C := RX5) (T := TX5) (N := 4) F h 9 rfl rfl 0 (by decide) hin hlink rfl hdg kk
set_option maxRecDepth 100000 in
set_option maxHeartbeats 4000000 in
theorem gX_Reader_place (F : CallFix p m c cc nL s0 args Ts own) (h : HW Z (wX Z Q) A s0 H locs s) (hin : ∀ w ∈ wsX50, w ∈ Ts) (hlink : (Cond.fieldLink own index "ElectionHouse$Reader" "place" "I").before args s0 = true) (hdg : decode cc pc = .ok (.getfield index, 3)) (kk : W p l e R s0 m args below meth c H locs cells slots P (F0 m (pc + 3) ls (.int (gM s 9 1) :: rest))) : W p l e R s0 m args below meth c H locs cells slots P (F0 m pc ls (.ref (Q 9) :: rest)) := gen_get (C := RX5) (T := TX5) (N := 4) F h 9 rfl rfl 1 (by decide) hin hlink rfl hdg kk
set_option maxRecDepth 100000 in
set_option maxHeartbeats 4000000 in
theorem pX_Reader_place {x : Int32} (F : CallFix p m c cc nL s0 args Ts own) (h : HW Z (wX Z Q) A s0 H locs s) (hin : ∀ w ∈ wsX50, w ∈ Ts) (hlink : (Cond.fieldLink own index "ElectionHouse$Reader" "place" "I").before args s0 = true) (hdg : decode cc pc = .ok (.putfield index, 3)) (kk : ∀ (H1 : Heap) (locs1 : List Loc), HW Z (wX Z Q) A s0 H1 locs1 (sM s 9 1 x) → W p l e R s0 m args below meth c H1 locs1 cells slots P (F0 m (pc + 3) ls (rest))) : W p l e R s0 m args below meth c H locs cells slots P (F0 m pc ls (.int x :: .ref (Q 9) :: rest)) := gen_put (s' := sM s 9 1 x) (ty := .int) (C := RX5) (T := TX5) (N := 4) F h 9 rfl rfl 1 (by decide) hin tyX5 tyX5_ok nmX5 hlink rfl (by decide +kernel) rfl rfl (Nat.le_of_ble_eq_true rfl) rfl h.2.2.2.2.2.1 hdg kk
set_option maxRecDepth 100000 in
set_option maxHeartbeats 4000000 in
theorem gX_Reader_bodyByText (F : CallFix p m c cc nL s0 args Ts own) (h : HW Z (wX Z Q) A s0 H locs s) (hin : ∀ w ∈ wsX50, w ∈ Ts) (hlink : (Cond.fieldLink own index "ElectionHouse$Reader" "bodyByText" "I").before args s0 = true) (hdg : decode cc pc = .ok (.getfield index, 3)) (kk : W p l e R s0 m args below meth c H locs cells slots P (F0 m (pc + 3) ls (.int (gM s 9 2) :: rest))) : W p l e R s0 m args below meth c H locs cells slots P (F0 m pc ls (.ref (Q 9) :: rest)) := gen_get (C := RX5) (T := TX5) (N := 4) F h 9 rfl rfl 2 (by decide) hin hlink rfl hdg kk
set_option maxRecDepth 100000 in
set_option maxHeartbeats 4000000 in
theorem pX_Reader_bodyByText {x : Int32} (F : CallFix p m c cc nL s0 args Ts own) (h : HW Z (wX Z Q) A s0 H locs s) (hin : ∀ w ∈ wsX50, w ∈ Ts) (hlink : (Cond.fieldLink own index "ElectionHouse$Reader" "bodyByText" "I").before args s0 = true) (hdg : decode cc pc = .ok (.putfield index, 3)) (kk : ∀ (H1 : Heap) (locs1 : List Loc), HW Z (wX Z Q) A s0 H1 locs1 (sM s 9 2 x) → W p l e R s0 m args below meth c H1 locs1 cells slots P (F0 m (pc + 3) ls (rest))) : W p l e R s0 m args below meth c H locs cells slots P (F0 m pc ls (.int x :: .ref (Q 9) :: rest)) := gen_put (s' := sM s 9 2 x) (ty := .int) (C := RX5) (T := TX5) (N := 4) F h 9 rfl rfl 2 (by decide) hin tyX5 tyX5_ok nmX5 hlink rfl (by decide +kernel) rfl rfl (Nat.le_of_ble_eq_true rfl) rfl h.2.2.2.2.2.1 hdg kk
set_option maxRecDepth 100000 in
set_option maxHeartbeats 4000000 in
theorem gX_Reader_fault (F : CallFix p m c cc nL s0 args Ts own) (h : HW Z (wX Z Q) A s0 H locs s) (hin : ∀ w ∈ wsX50, w ∈ Ts) (hlink : (Cond.fieldLink own index "ElectionHouse$Reader" "fault" "I").before args s0 = true) (hdg : decode cc pc = .ok (.getfield index, 3)) (kk : W p l e R s0 m args below meth c H locs cells slots P (F0 m (pc + 3) ls (.int (gM s 9 3) :: rest))) : W p l e R s0 m args below meth c H locs cells slots P (F0 m pc ls (.ref (Q 9) :: rest)) := gen_get (C := RX5) (T := TX5) (N := 4) F h 9 rfl rfl 3 (by decide) hin hlink rfl hdg kk
set_option maxRecDepth 100000 in
set_option maxHeartbeats 4000000 in
theorem pX_Reader_fault {x : Int32} (F : CallFix p m c cc nL s0 args Ts own) (h : HW Z (wX Z Q) A s0 H locs s) (hin : ∀ w ∈ wsX50, w ∈ Ts) (hlink : (Cond.fieldLink own index "ElectionHouse$Reader" "fault" "I").before args s0 = true) (hdg : decode cc pc = .ok (.putfield index, 3)) (kk : ∀ (H1 : Heap) (locs1 : List Loc), HW Z (wX Z Q) A s0 H1 locs1 (sM s 9 3 x) → W p l e R s0 m args below meth c H1 locs1 cells slots P (F0 m (pc + 3) ls (rest))) : W p l e R s0 m args below meth c H locs cells slots P (F0 m pc ls (.int x :: .ref (Q 9) :: rest)) := gen_put (s' := sM s 9 3 x) (ty := .int) (C := RX5) (T := TX5) (N := 4) F h 9 rfl rfl 3 (by decide) hin tyX5 tyX5_ok nmX5 hlink rfl (by decide +kernel) rfl rfl (Nat.le_of_ble_eq_true rfl) rfl h.2.2.2.2.2.1 hdg kk
set_option maxRecDepth 100000 in
set_option maxHeartbeats 4000000 in
theorem rcX_Lot (h : HW Z (wX Z Q) A s0 H locs s) : ∃ cell : Cell, H[(Q 10)]? = some cell ∧ cell.vm.isStatics = false ∧ s0.vm.findClass RX1 = some cell.cls := va_recv h.1 h.2.1 (ci := 1) (q0 := 10) rfl rfl
set_option maxRecDepth 100000 in
set_option maxHeartbeats 4000000 in
theorem gX_Lot_ring (F : CallFix p m c cc nL s0 args Ts own) (h : HW Z (wX Z Q) A s0 H locs s) (hin : ∀ w ∈ wsX10, w ∈ Ts) (hlink : (Cond.fieldLink own index "ElectionHouse$LotRow" "ring" "[I").before args s0 = true) (hdg : decode cc pc = .ok (.getfield index, 3)) (kk : W p l e R s0 m args below meth c H locs cells slots P (F0 m (pc + 3) ls (.ref (Q 11) :: rest))) : W p l e R s0 m args below meth c H locs cells slots P (F0 m pc ls (.ref (Q 10) :: rest)) := gen_get (C := RX1) (T := TX1) (N := 4) F h 10 rfl rfl 0 (by decide) hin hlink rfl hdg kk
set_option maxRecDepth 100000 in
set_option maxHeartbeats 4000000 in
theorem gX_Lot_first (F : CallFix p m c cc nL s0 args Ts own) (h : HW Z (wX Z Q) A s0 H locs s) (hin : ∀ w ∈ wsX10, w ∈ Ts) (hlink : (Cond.fieldLink own index "ElectionHouse$LotRow" "first" "I").before args s0 = true) (hdg : decode cc pc = .ok (.getfield index, 3)) (kk : W p l e R s0 m args below meth c H locs cells slots P (F0 m (pc + 3) ls (.int (gM s 10 1) :: rest))) : W p l e R s0 m args below meth c H locs cells slots P (F0 m pc ls (.ref (Q 10) :: rest)) := gen_get (C := RX1) (T := TX1) (N := 4) F h 10 rfl rfl 1 (by decide) hin hlink rfl hdg kk
set_option maxRecDepth 100000 in
set_option maxHeartbeats 4000000 in
theorem pX_Lot_first {x : Int32} (F : CallFix p m c cc nL s0 args Ts own) (h : HW Z (wX Z Q) A s0 H locs s) (hin : ∀ w ∈ wsX10, w ∈ Ts) (hlink : (Cond.fieldLink own index "ElectionHouse$LotRow" "first" "I").before args s0 = true) (hdg : decode cc pc = .ok (.putfield index, 3)) (kk : ∀ (H1 : Heap) (locs1 : List Loc), HW Z (wX Z Q) A s0 H1 locs1 (sM s 10 1 x) → W p l e R s0 m args below meth c H1 locs1 cells slots P (F0 m (pc + 3) ls (rest))) : W p l e R s0 m args below meth c H locs cells slots P (F0 m pc ls (.int x :: .ref (Q 10) :: rest)) := gen_put (s' := sM s 10 1 x) (ty := .int) (C := RX1) (T := TX1) (N := 4) F h 10 rfl rfl 1 (by decide) hin tyX1 tyX1_ok nmX1 hlink rfl (by decide +kernel) rfl rfl (Nat.le_of_ble_eq_true rfl) rfl h.2.2.2.2.2.1 hdg kk
set_option maxRecDepth 100000 in
set_option maxHeartbeats 4000000 in
theorem gX_Lot_waiting (F : CallFix p m c cc nL s0 args Ts own) (h : HW Z (wX Z Q) A s0 H locs s) (hin : ∀ w ∈ wsX10, w ∈ Ts) (hlink : (Cond.fieldLink own index "ElectionHouse$LotRow" "waiting" "I").before args s0 = true) (hdg : decode cc pc = .ok (.getfield index, 3)) (kk : W p l e R s0 m args below meth c H locs cells slots P (F0 m (pc + 3) ls (.int (gM s 10 2) :: rest))) : W p l e R s0 m args below meth c H locs cells slots P (F0 m pc ls (.ref (Q 10) :: rest)) := gen_get (C := RX1) (T := TX1) (N := 4) F h 10 rfl rfl 2 (by decide) hin hlink rfl hdg kk
set_option maxRecDepth 100000 in
set_option maxHeartbeats 4000000 in
theorem pX_Lot_waiting {x : Int32} (F : CallFix p m c cc nL s0 args Ts own) (h : HW Z (wX Z Q) A s0 H locs s) (hin : ∀ w ∈ wsX10, w ∈ Ts) (hlink : (Cond.fieldLink own index "ElectionHouse$LotRow" "waiting" "I").before args s0 = true) (hdg : decode cc pc = .ok (.putfield index, 3)) (kk : ∀ (H1 : Heap) (locs1 : List Loc), HW Z (wX Z Q) A s0 H1 locs1 (sM s 10 2 x) → W p l e R s0 m args below meth c H1 locs1 cells slots P (F0 m (pc + 3) ls (rest))) : W p l e R s0 m args below meth c H locs cells slots P (F0 m pc ls (.int x :: .ref (Q 10) :: rest)) := gen_put (s' := sM s 10 2 x) (ty := .int) (C := RX1) (T := TX1) (N := 4) F h 10 rfl rfl 2 (by decide) hin tyX1 tyX1_ok nmX1 hlink rfl (by decide +kernel) rfl rfl (Nat.le_of_ble_eq_true rfl) rfl h.2.2.2.2.2.1 hdg kk
set_option maxRecDepth 100000 in
set_option maxHeartbeats 4000000 in
theorem gX_Lot_used (F : CallFix p m c cc nL s0 args Ts own) (h : HW Z (wX Z Q) A s0 H locs s) (hin : ∀ w ∈ wsX10, w ∈ Ts) (hlink : (Cond.fieldLink own index "ElectionHouse$LotRow" "used" "I").before args s0 = true) (hdg : decode cc pc = .ok (.getfield index, 3)) (kk : W p l e R s0 m args below meth c H locs cells slots P (F0 m (pc + 3) ls (.int (gM s 10 3) :: rest))) : W p l e R s0 m args below meth c H locs cells slots P (F0 m pc ls (.ref (Q 10) :: rest)) := gen_get (C := RX1) (T := TX1) (N := 4) F h 10 rfl rfl 3 (by decide) hin hlink rfl hdg kk
set_option maxRecDepth 100000 in
set_option maxHeartbeats 4000000 in
theorem pX_Lot_used {x : Int32} (F : CallFix p m c cc nL s0 args Ts own) (h : HW Z (wX Z Q) A s0 H locs s) (hin : ∀ w ∈ wsX10, w ∈ Ts) (hlink : (Cond.fieldLink own index "ElectionHouse$LotRow" "used" "I").before args s0 = true) (hdg : decode cc pc = .ok (.putfield index, 3)) (kk : ∀ (H1 : Heap) (locs1 : List Loc), HW Z (wX Z Q) A s0 H1 locs1 (sM s 10 3 x) → W p l e R s0 m args below meth c H1 locs1 cells slots P (F0 m (pc + 3) ls (rest))) : W p l e R s0 m args below meth c H locs cells slots P (F0 m pc ls (.int x :: .ref (Q 10) :: rest)) := gen_put (s' := sM s 10 3 x) (ty := .int) (C := RX1) (T := TX1) (N := 4) F h 10 rfl rfl 3 (by decide) hin tyX1 tyX1_ok nmX1 hlink rfl (by decide +kernel) rfl rfl (Nat.le_of_ble_eq_true rfl) rfl h.2.2.2.2.2.1 hdg kk
set_option maxRecDepth 100000 in
set_option maxHeartbeats 4000000 in
theorem nX_ring (F : CallFix p m c cc nL s0 args Ts own) (h : HW Z (wX Z Q) A s0 H locs s) (hdg : decode cc pc = .ok (.arraylength, 1)) (kk : W p l e R s0 m args below meth c H locs cells slots P (F0 m (pc + 1) ls (.int (500 : Int32) :: rest))) : W p l e R s0 m args below meth c H locs cells slots P (F0 m pc ls (.ref (Q 11) :: rest)) := va_alen F.1 F.2.1 h.1 h.2.1 11 1 rfl rfl (show Int32.ofNat 500 = _ by decide) hdg kk
set_option maxRecDepth 100000 in
set_option maxHeartbeats 4000000 in
theorem lX_ring (F : CallFix p m c cc nL s0 args Ts own) (h : HW Z (wX Z Q) A s0 H locs s) {i : Int32} (hi : gIn i 500 = true) (hdg : decode cc pc = .ok (.iaload, 1)) (kk : W p l e R s0 m args below meth c H locs cells slots P (F0 m (pc + 1) ls (.int (gM s 11 (ix i)) :: rest))) : W p l e R s0 m args below meth c H locs cells slots P (F0 m pc ls (.int i :: .ref (Q 11) :: rest)) := va_iald F.1 F.2.1 h.1 h.2.1 11 1 rfl rfl (gIn_vp hi) hdg kk
set_option maxRecDepth 100000 in
set_option maxHeartbeats 4000000 in
theorem sX_ring (F : CallFix p m c cc nL s0 args Ts own) (h : HW Z (wX Z Q) A s0 H locs s) {i : Int32} {x : Int32} (hi : gIn i 500 = true) (hdg : decode cc pc = .ok (.iastore, 1)) (kk : ∀ (H1 : Heap) (locs1 : List Loc), HW Z (wX Z Q) A s0 H1 locs1 (sM s 11 (ix i) x) → W p l e R s0 m args below meth c H1 locs1 cells slots P (F0 m (pc + 1) ls (rest))) : W p l e R s0 m args below meth c H locs cells slots P (F0 m pc ls (.int x :: .int i :: .ref (Q 11) :: rest)) := va_iast F.1 F.2.1 h.1 h.2.1 h.2.2.1 h.2.2.2.1 11 1 rfl rfl (gIn_vp hi) hdg (fun H1 locs1 hP hD hS => kk H1 locs1 ⟨h.1, hP, hD, hS, h.2.2.2.2.1, h.2.2.2.2.2.1, h.2.2.2.2.2.2⟩)
set_option maxRecDepth 100000 in
set_option maxHeartbeats 4000000 in
theorem rcX_Poll (h : HW Z (wX Z Q) A s0 H locs s) : ∃ cell : Cell, H[(Q 12)]? = some cell ∧ cell.vm.isStatics = false ∧ s0.vm.findClass RX4 = some cell.cls := va_recv h.1 h.2.1 (ci := 4) (q0 := 12) rfl rfl
set_option maxRecDepth 100000 in
set_option maxHeartbeats 4000000 in
theorem gX_Poll_votes (F : CallFix p m c cc nL s0 args Ts own) (h : HW Z (wX Z Q) A s0 H locs s) (hin : ∀ w ∈ wsX40, w ∈ Ts) (hlink : (Cond.fieldLink own index "ElectionHouse$Poll" "votes" "[I").before args s0 = true) (hdg : decode cc pc = .ok (.getfield index, 3)) (kk : W p l e R s0 m args below meth c H locs cells slots P (F0 m (pc + 3) ls (.ref (Q 13) :: rest))) : W p l e R s0 m args below meth c H locs cells slots P (F0 m pc ls (.ref (Q 12) :: rest)) := gen_get (C := RX4) (T := TX4) (N := 5) F h 12 rfl rfl 0 (by decide) hin hlink rfl hdg kk
set_option maxRecDepth 100000 in
set_option maxHeartbeats 4000000 in
theorem gX_Poll_wasTried (F : CallFix p m c cc nL s0 args Ts own) (h : HW Z (wX Z Q) A s0 H locs s) (hin : ∀ w ∈ wsX40, w ∈ Ts) (hlink : (Cond.fieldLink own index "ElectionHouse$Poll" "wasTried" "Z").before args s0 = true) (hdg : decode cc pc = .ok (.getfield index, 3)) (kk : W p l e R s0 m args below meth c H locs cells slots P (F0 m (pc + 3) ls (.int (gM s 12 1) :: rest))) : W p l e R s0 m args below meth c H locs cells slots P (F0 m pc ls (.ref (Q 12) :: rest)) := gen_get (C := RX4) (T := TX4) (N := 5) F h 12 rfl rfl 1 (by decide) hin hlink rfl hdg kk
set_option maxRecDepth 100000 in
set_option maxHeartbeats 4000000 in
theorem pX_Poll_wasTried {x : Int32} (hz : gZ x = true) (F : CallFix p m c cc nL s0 args Ts own) (h : HW Z (wX Z Q) A s0 H locs s) (hin : ∀ w ∈ wsX40, w ∈ Ts) (hlink : (Cond.fieldLink own index "ElectionHouse$Poll" "wasTried" "Z").before args s0 = true) (hdg : decode cc pc = .ok (.putfield index, 3)) (kk : ∀ (H1 : Heap) (locs1 : List Loc), HW Z (wX Z Q) A s0 H1 locs1 (sM s 12 1 x) → W p l e R s0 m args below meth c H1 locs1 cells slots P (F0 m (pc + 3) ls (rest))) : W p l e R s0 m args below meth c H locs cells slots P (F0 m pc ls (.int x :: .ref (Q 12) :: rest)) := gen_put (s' := sM s 12 1 x) (ty := .boolean) (C := RX4) (T := TX4) (N := 5) F h 12 rfl rfl 1 (by decide) hin tyX4 tyX4_ok nmX4 hlink rfl (by decide +kernel) (gZ_n hz) (gZ_f hz) (Nat.le_of_ble_eq_true rfl) rfl h.2.2.2.2.2.1 hdg kk
set_option maxRecDepth 100000 in
set_option maxHeartbeats 4000000 in
theorem gX_Poll_barred (F : CallFix p m c cc nL s0 args Ts own) (h : HW Z (wX Z Q) A s0 H locs s) (hin : ∀ w ∈ wsX40, w ∈ Ts) (hlink : (Cond.fieldLink own index "ElectionHouse$Poll" "barred" "I").before args s0 = true) (hdg : decode cc pc = .ok (.getfield index, 3)) (kk : W p l e R s0 m args below meth c H locs cells slots P (F0 m (pc + 3) ls (.int (gM s 12 2) :: rest))) : W p l e R s0 m args below meth c H locs cells slots P (F0 m pc ls (.ref (Q 12) :: rest)) := gen_get (C := RX4) (T := TX4) (N := 5) F h 12 rfl rfl 2 (by decide) hin hlink rfl hdg kk
set_option maxRecDepth 100000 in
set_option maxHeartbeats 4000000 in
theorem pX_Poll_barred {x : Int32} (F : CallFix p m c cc nL s0 args Ts own) (h : HW Z (wX Z Q) A s0 H locs s) (hin : ∀ w ∈ wsX40, w ∈ Ts) (hlink : (Cond.fieldLink own index "ElectionHouse$Poll" "barred" "I").before args s0 = true) (hdg : decode cc pc = .ok (.putfield index, 3)) (kk : ∀ (H1 : Heap) (locs1 : List Loc), HW Z (wX Z Q) A s0 H1 locs1 (sM s 12 2 x) → W p l e R s0 m args below meth c H1 locs1 cells slots P (F0 m (pc + 3) ls (rest))) : W p l e R s0 m args below meth c H locs cells slots P (F0 m pc ls (.int x :: .ref (Q 12) :: rest)) := gen_put (s' := sM s 12 2 x) (ty := .int) (C := RX4) (T := TX4) (N := 5) F h 12 rfl rfl 2 (by decide) hin tyX4 tyX4_ok nmX4 hlink rfl (by decide +kernel) rfl rfl (Nat.le_of_ble_eq_true rfl) rfl h.2.2.2.2.2.1 hdg kk
set_option maxRecDepth 100000 in
set_option maxHeartbeats 4000000 in
theorem gX_Poll_votedOn (F : CallFix p m c cc nL s0 args Ts own) (h : HW Z (wX Z Q) A s0 H locs s) (hin : ∀ w ∈ wsX40, w ∈ Ts) (hlink : (Cond.fieldLink own index "ElectionHouse$Poll" "votedOn" "I").before args s0 = true) (hdg : decode cc pc = .ok (.getfield index, 3)) (kk : W p l e R s0 m args below meth c H locs cells slots P (F0 m (pc + 3) ls (.int (gM s 12 3) :: rest))) : W p l e R s0 m args below meth c H locs cells slots P (F0 m pc ls (.ref (Q 12) :: rest)) := gen_get (C := RX4) (T := TX4) (N := 5) F h 12 rfl rfl 3 (by decide) hin hlink rfl hdg kk
set_option maxRecDepth 100000 in
set_option maxHeartbeats 4000000 in
theorem pX_Poll_votedOn {x : Int32} (F : CallFix p m c cc nL s0 args Ts own) (h : HW Z (wX Z Q) A s0 H locs s) (hin : ∀ w ∈ wsX40, w ∈ Ts) (hlink : (Cond.fieldLink own index "ElectionHouse$Poll" "votedOn" "I").before args s0 = true) (hdg : decode cc pc = .ok (.putfield index, 3)) (kk : ∀ (H1 : Heap) (locs1 : List Loc), HW Z (wX Z Q) A s0 H1 locs1 (sM s 12 3 x) → W p l e R s0 m args below meth c H1 locs1 cells slots P (F0 m (pc + 3) ls (rest))) : W p l e R s0 m args below meth c H locs cells slots P (F0 m pc ls (.int x :: .ref (Q 12) :: rest)) := gen_put (s' := sM s 12 3 x) (ty := .int) (C := RX4) (T := TX4) (N := 5) F h 12 rfl rfl 3 (by decide) hin tyX4 tyX4_ok nmX4 hlink rfl (by decide +kernel) rfl rfl (Nat.le_of_ble_eq_true rfl) rfl h.2.2.2.2.2.1 hdg kk
set_option maxRecDepth 100000 in
set_option maxHeartbeats 4000000 in
theorem gX_Poll_chosen (F : CallFix p m c cc nL s0 args Ts own) (h : HW Z (wX Z Q) A s0 H locs s) (hin : ∀ w ∈ wsX40, w ∈ Ts) (hlink : (Cond.fieldLink own index "ElectionHouse$Poll" "chosen" "I").before args s0 = true) (hdg : decode cc pc = .ok (.getfield index, 3)) (kk : W p l e R s0 m args below meth c H locs cells slots P (F0 m (pc + 3) ls (.int (gM s 12 4) :: rest))) : W p l e R s0 m args below meth c H locs cells slots P (F0 m pc ls (.ref (Q 12) :: rest)) := gen_get (C := RX4) (T := TX4) (N := 5) F h 12 rfl rfl 4 (by decide) hin hlink rfl hdg kk
set_option maxRecDepth 100000 in
set_option maxHeartbeats 4000000 in
theorem pX_Poll_chosen {x : Int32} (F : CallFix p m c cc nL s0 args Ts own) (h : HW Z (wX Z Q) A s0 H locs s) (hin : ∀ w ∈ wsX40, w ∈ Ts) (hlink : (Cond.fieldLink own index "ElectionHouse$Poll" "chosen" "I").before args s0 = true) (hdg : decode cc pc = .ok (.putfield index, 3)) (kk : ∀ (H1 : Heap) (locs1 : List Loc), HW Z (wX Z Q) A s0 H1 locs1 (sM s 12 4 x) → W p l e R s0 m args below meth c H1 locs1 cells slots P (F0 m (pc + 3) ls (rest))) : W p l e R s0 m args below meth c H locs cells slots P (F0 m pc ls (.int x :: .ref (Q 12) :: rest)) := gen_put (s' := sM s 12 4 x) (ty := .int) (C := RX4) (T := TX4) (N := 5) F h 12 rfl rfl 4 (by decide) hin tyX4 tyX4_ok nmX4 hlink rfl (by decide +kernel) rfl rfl (Nat.le_of_ble_eq_true rfl) rfl h.2.2.2.2.2.1 hdg kk
set_option maxRecDepth 100000 in
set_option maxHeartbeats 4000000 in
theorem nX_pvotes (F : CallFix p m c cc nL s0 args Ts own) (h : HW Z (wX Z Q) A s0 H locs s) (hdg : decode cc pc = .ok (.arraylength, 1)) (kk : W p l e R s0 m args below meth c H locs cells slots P (F0 m (pc + 1) ls (.int (40 : Int32) :: rest))) : W p l e R s0 m args below meth c H locs cells slots P (F0 m pc ls (.ref (Q 13) :: rest)) := va_alen F.1 F.2.1 h.1 h.2.1 13 1 rfl rfl (show Int32.ofNat 40 = _ by decide) hdg kk
set_option maxRecDepth 100000 in
set_option maxHeartbeats 4000000 in
theorem lX_pvotes (F : CallFix p m c cc nL s0 args Ts own) (h : HW Z (wX Z Q) A s0 H locs s) {i : Int32} (hi : gIn i 40 = true) (hdg : decode cc pc = .ok (.iaload, 1)) (kk : W p l e R s0 m args below meth c H locs cells slots P (F0 m (pc + 1) ls (.int (gM s 13 (ix i)) :: rest))) : W p l e R s0 m args below meth c H locs cells slots P (F0 m pc ls (.int i :: .ref (Q 13) :: rest)) := va_iald F.1 F.2.1 h.1 h.2.1 13 1 rfl rfl (gIn_vp hi) hdg kk
set_option maxRecDepth 100000 in
set_option maxHeartbeats 4000000 in
theorem sX_pvotes (F : CallFix p m c cc nL s0 args Ts own) (h : HW Z (wX Z Q) A s0 H locs s) {i : Int32} {x : Int32} (hi : gIn i 40 = true) (hdg : decode cc pc = .ok (.iastore, 1)) (kk : ∀ (H1 : Heap) (locs1 : List Loc), HW Z (wX Z Q) A s0 H1 locs1 (sM s 13 (ix i) x) → W p l e R s0 m args below meth c H1 locs1 cells slots P (F0 m (pc + 1) ls (rest))) : W p l e R s0 m args below meth c H locs cells slots P (F0 m pc ls (.int x :: .int i :: .ref (Q 13) :: rest)) := va_iast F.1 F.2.1 h.1 h.2.1 h.2.2.1 h.2.2.2.1 13 1 rfl rfl (gIn_vp hi) hdg (fun H1 locs1 hP hD hS => kk H1 locs1 ⟨h.1, hP, hD, hS, h.2.2.2.2.1, h.2.2.2.2.2.1, h.2.2.2.2.2.2⟩)
set_option maxRecDepth 100000 in
set_option maxHeartbeats 4000000 in
theorem rcX_Sess (h : HW Z (wX Z Q) A s0 H locs s) : ∃ cell : Cell, H[(Q 14)]? = some cell ∧ cell.vm.isStatics = false ∧ s0.vm.findClass RX6 = some cell.cls := va_recv h.1 h.2.1 (ci := 6) (q0 := 14) rfl rfl
set_option maxRecDepth 100000 in
set_option maxHeartbeats 4000000 in
theorem gX_Sess_city (F : CallFix p m c cc nL s0 args Ts own) (h : HW Z (wX Z Q) A s0 H locs s) (hin : ∀ w ∈ wsX60, w ∈ Ts) (hlink : (Cond.fieldLink own index "ElectionHouse$Session" "city" "LElectionHouse$City;").before args s0 = true) (hdg : decode cc pc = .ok (.getfield index, 3)) (kk : W p l e R s0 m args below meth c H locs cells slots P (F0 m (pc + 3) ls (.ref (Q 1) :: rest))) : W p l e R s0 m args below meth c H locs cells slots P (F0 m pc ls (.ref (Q 14) :: rest)) := gen_get (C := RX6) (T := TX6) (N := 10) F h 14 rfl rfl 0 (by decide) hin hlink rfl hdg kk
set_option maxRecDepth 100000 in
set_option maxHeartbeats 4000000 in
theorem gX_Sess_lots (F : CallFix p m c cc nL s0 args Ts own) (h : HW Z (wX Z Q) A s0 H locs s) (hin : ∀ w ∈ wsX60, w ∈ Ts) (hlink : (Cond.fieldLink own index "ElectionHouse$Session" "lots" "LElectionHouse$LotRow;").before args s0 = true) (hdg : decode cc pc = .ok (.getfield index, 3)) (kk : W p l e R s0 m args below meth c H locs cells slots P (F0 m (pc + 3) ls (.ref (Q 10) :: rest))) : W p l e R s0 m args below meth c H locs cells slots P (F0 m pc ls (.ref (Q 14) :: rest)) := gen_get (C := RX6) (T := TX6) (N := 10) F h 14 rfl rfl 1 (by decide) hin hlink rfl hdg kk
set_option maxRecDepth 100000 in
set_option maxHeartbeats 4000000 in
theorem gX_Sess_poll (F : CallFix p m c cc nL s0 args Ts own) (h : HW Z (wX Z Q) A s0 H locs s) (hin : ∀ w ∈ wsX60, w ∈ Ts) (hlink : (Cond.fieldLink own index "ElectionHouse$Session" "poll" "LElectionHouse$Poll;").before args s0 = true) (hdg : decode cc pc = .ok (.getfield index, 3)) (kk : W p l e R s0 m args below meth c H locs cells slots P (F0 m (pc + 3) ls (.ref (Q 12) :: rest))) : W p l e R s0 m args below meth c H locs cells slots P (F0 m pc ls (.ref (Q 14) :: rest)) := gen_get (C := RX6) (T := TX6) (N := 10) F h 14 rfl rfl 2 (by decide) hin hlink rfl hdg kk
set_option maxRecDepth 100000 in
set_option maxHeartbeats 4000000 in
theorem gX_Sess_bodies (F : CallFix p m c cc nL s0 args Ts own) (h : HW Z (wX Z Q) A s0 H locs s) (hin : ∀ w ∈ wsX60, w ∈ Ts) (hlink : (Cond.fieldLink own index "ElectionHouse$Session" "bodies" "[[I").before args s0 = true) (hdg : decode cc pc = .ok (.getfield index, 3)) (kk : W p l e R s0 m args below meth c H locs cells slots P (F0 m (pc + 3) ls (.ref (Q 15) :: rest))) : W p l e R s0 m args below meth c H locs cells slots P (F0 m pc ls (.ref (Q 14) :: rest)) := gen_get (C := RX6) (T := TX6) (N := 10) F h 14 rfl rfl 3 (by decide) hin hlink rfl hdg kk
set_option maxRecDepth 100000 in
set_option maxHeartbeats 4000000 in
theorem gX_Sess_sizes (F : CallFix p m c cc nL s0 args Ts own) (h : HW Z (wX Z Q) A s0 H locs s) (hin : ∀ w ∈ wsX60, w ∈ Ts) (hlink : (Cond.fieldLink own index "ElectionHouse$Session" "sizes" "[I").before args s0 = true) (hdg : decode cc pc = .ok (.getfield index, 3)) (kk : W p l e R s0 m args below meth c H locs cells slots P (F0 m (pc + 3) ls (.ref (Q 16) :: rest))) : W p l e R s0 m args below meth c H locs cells slots P (F0 m pc ls (.ref (Q 14) :: rest)) := gen_get (C := RX6) (T := TX6) (N := 10) F h 14 rfl rfl 4 (by decide) hin hlink rfl hdg kk
set_option maxRecDepth 100000 in
set_option maxHeartbeats 4000000 in
theorem gX_Sess_row (F : CallFix p m c cc nL s0 args Ts own) (h : HW Z (wX Z Q) A s0 H locs s) (hin : ∀ w ∈ wsX60, w ∈ Ts) (hlink : (Cond.fieldLink own index "ElectionHouse$Session" "row" "[I").before args s0 = true) (hdg : decode cc pc = .ok (.getfield index, 3)) (kk : W p l e R s0 m args below meth c H locs cells slots P (F0 m (pc + 3) ls (.ref (Q 17) :: rest))) : W p l e R s0 m args below meth c H locs cells slots P (F0 m pc ls (.ref (Q 14) :: rest)) := gen_get (C := RX6) (T := TX6) (N := 10) F h 14 rfl rfl 5 (by decide) hin hlink rfl hdg kk
set_option maxRecDepth 100000 in
set_option maxHeartbeats 4000000 in
theorem gX_Sess_ofHouse (F : CallFix p m c cc nL s0 args Ts own) (h : HW Z (wX Z Q) A s0 H locs s) (hin : ∀ w ∈ wsX60, w ∈ Ts) (hlink : (Cond.fieldLink own index "ElectionHouse$Session" "ofHouse" "[I").before args s0 = true) (hdg : decode cc pc = .ok (.getfield index, 3)) (kk : W p l e R s0 m args below meth c H locs cells slots P (F0 m (pc + 3) ls (.ref (Q 18) :: rest))) : W p l e R s0 m args below meth c H locs cells slots P (F0 m pc ls (.ref (Q 14) :: rest)) := gen_get (C := RX6) (T := TX6) (N := 10) F h 14 rfl rfl 6 (by decide) hin hlink rfl hdg kk
set_option maxRecDepth 100000 in
set_option maxHeartbeats 4000000 in
theorem gX_Sess_plan (F : CallFix p m c cc nL s0 args Ts own) (h : HW Z (wX Z Q) A s0 H locs s) (hin : ∀ w ∈ wsX60, w ∈ Ts) (hlink : (Cond.fieldLink own index "ElectionHouse$Session" "plan" "LElectionHouse$Plan;").before args s0 = true) (hdg : decode cc pc = .ok (.getfield index, 3)) (kk : W p l e R s0 m args below meth c H locs cells slots P (F0 m (pc + 3) ls (.ref (Q (19 + 5 * (gG s 14 7))) :: rest))) : W p l e R s0 m args below meth c H locs cells slots P (F0 m pc ls (.ref (Q 14) :: rest)) := gen_get (C := RX6) (T := TX6) (N := 10) F h 14 rfl rfl 7 (by decide) hin hlink rfl hdg kk
set_option maxRecDepth 100000 in
set_option maxHeartbeats 4000000 in
theorem pX_Sess_plan {x : Nat} (hx2 : x < 2) (F : CallFix p m c cc nL s0 args Ts own) (h : HW Z (wX Z Q) A s0 H locs s) (hin : ∀ w ∈ wsX60, w ∈ Ts) (hlink : (Cond.fieldLink own index "ElectionHouse$Session" "plan" "LElectionHouse$Plan;").before args s0 = true) (hdg : decode cc pc = .ok (.putfield index, 3)) (kk : ∀ (H1 : Heap) (locs1 : List Loc), HW Z (wX Z Q) A s0 H1 locs1 (sG s 14 7 x) → W p l e R s0 m args below meth c H1 locs1 cells slots P (F0 m (pc + 3) ls (rest))) : W p l e R s0 m args below meth c H locs cells slots P (F0 m pc ls (.ref (Q (19 + 5 * x)) :: .ref (Q 14) :: rest)) := gen_put (s' := sG s 14 7 x) (ty := .object "ElectionHouse$Plan") (C := RX6) (T := TX6) (N := 10) F h 14 rfl rfl 7 (by decide) hin tyX6 tyX6_ok nmX6 hlink rfl (by decide +kernel) rfl rfl (Nat.le_of_ble_eq_true rfl) rfl (sG_ok h.2.2.2.2.2.1 hx2) hdg kk
set_option maxRecDepth 100000 in
set_option maxHeartbeats 4000000 in
theorem gX_Sess_done (F : CallFix p m c cc nL s0 args Ts own) (h : HW Z (wX Z Q) A s0 H locs s) (hin : ∀ w ∈ wsX60, w ∈ Ts) (hlink : (Cond.fieldLink own index "ElectionHouse$Session" "done" "I").before args s0 = true) (hdg : decode cc pc = .ok (.getfield index, 3)) (kk : W p l e R s0 m args below meth c H locs cells slots P (F0 m (pc + 3) ls (.int (gM s 14 8) :: rest))) : W p l e R s0 m args below meth c H locs cells slots P (F0 m pc ls (.ref (Q 14) :: rest)) := gen_get (C := RX6) (T := TX6) (N := 10) F h 14 rfl rfl 8 (by decide) hin hlink rfl hdg kk
set_option maxRecDepth 100000 in
set_option maxHeartbeats 4000000 in
theorem pX_Sess_done {x : Int32} (F : CallFix p m c cc nL s0 args Ts own) (h : HW Z (wX Z Q) A s0 H locs s) (hin : ∀ w ∈ wsX60, w ∈ Ts) (hlink : (Cond.fieldLink own index "ElectionHouse$Session" "done" "I").before args s0 = true) (hdg : decode cc pc = .ok (.putfield index, 3)) (kk : ∀ (H1 : Heap) (locs1 : List Loc), HW Z (wX Z Q) A s0 H1 locs1 (sM s 14 8 x) → W p l e R s0 m args below meth c H1 locs1 cells slots P (F0 m (pc + 3) ls (rest))) : W p l e R s0 m args below meth c H locs cells slots P (F0 m pc ls (.int x :: .ref (Q 14) :: rest)) := gen_put (s' := sM s 14 8 x) (ty := .int) (C := RX6) (T := TX6) (N := 10) F h 14 rfl rfl 8 (by decide) hin tyX6 tyX6_ok nmX6 hlink rfl (by decide +kernel) rfl rfl (Nat.le_of_ble_eq_true rfl) rfl h.2.2.2.2.2.1 hdg kk
set_option maxRecDepth 100000 in
set_option maxHeartbeats 4000000 in
theorem gX_Sess_head (F : CallFix p m c cc nL s0 args Ts own) (h : HW Z (wX Z Q) A s0 H locs s) (hin : ∀ w ∈ wsX60, w ∈ Ts) (hlink : (Cond.fieldLink own index "ElectionHouse$Session" "head" "I").before args s0 = true) (hdg : decode cc pc = .ok (.getfield index, 3)) (kk : W p l e R s0 m args below meth c H locs cells slots P (F0 m (pc + 3) ls (.int (gM s 14 9) :: rest))) : W p l e R s0 m args below meth c H locs cells slots P (F0 m pc ls (.ref (Q 14) :: rest)) := gen_get (C := RX6) (T := TX6) (N := 10) F h 14 rfl rfl 9 (by decide) hin hlink rfl hdg kk
set_option maxRecDepth 100000 in
set_option maxHeartbeats 4000000 in
theorem pX_Sess_head {x : Int32} (F : CallFix p m c cc nL s0 args Ts own) (h : HW Z (wX Z Q) A s0 H locs s) (hin : ∀ w ∈ wsX60, w ∈ Ts) (hlink : (Cond.fieldLink own index "ElectionHouse$Session" "head" "I").before args s0 = true) (hdg : decode cc pc = .ok (.putfield index, 3)) (kk : ∀ (H1 : Heap) (locs1 : List Loc), HW Z (wX Z Q) A s0 H1 locs1 (sM s 14 9 x) → W p l e R s0 m args below meth c H1 locs1 cells slots P (F0 m (pc + 3) ls (rest))) : W p l e R s0 m args below meth c H locs cells slots P (F0 m pc ls (.int x :: .ref (Q 14) :: rest)) := gen_put (s' := sM s 14 9 x) (ty := .int) (C := RX6) (T := TX6) (N := 10) F h 14 rfl rfl 9 (by decide) hin tyX6 tyX6_ok nmX6 hlink rfl (by decide +kernel) rfl rfl (Nat.le_of_ble_eq_true rfl) rfl h.2.2.2.2.2.1 hdg kk
set_option maxRecDepth 100000 in
set_option maxHeartbeats 4000000 in
theorem lX_bodies (F : CallFix p m c cc nL s0 args Ts own) (h : HW Z (wX Z Q) A s0 H locs s) {i : Int32} (hi : gIn i 13 = true) (hdg : decode cc pc = .ok (.aaload, 1)) (kk : W p l e R s0 m args below meth c H locs cells slots P (F0 m (pc + 1) ls (.ref (Q (48 + ix i)) :: rest))) : W p l e R s0 m args below meth c H locs cells slots P (F0 m pc ls (.int i :: .ref (Q 15) :: rest)) := gen_aald F h 15 4 rfl rfl (gIn_vp hi) (by show (if _ then _ else _) = _; rw [if_pos (of_decide_eq_true hi).2]) hdg kk
set_option maxRecDepth 100000 in
set_option maxHeartbeats 4000000 in
theorem nX_ssizes (F : CallFix p m c cc nL s0 args Ts own) (h : HW Z (wX Z Q) A s0 H locs s) (hdg : decode cc pc = .ok (.arraylength, 1)) (kk : W p l e R s0 m args below meth c H locs cells slots P (F0 m (pc + 1) ls (.int (13 : Int32) :: rest))) : W p l e R s0 m args below meth c H locs cells slots P (F0 m pc ls (.ref (Q 16) :: rest)) := va_alen F.1 F.2.1 h.1 h.2.1 16 1 rfl rfl (show Int32.ofNat 13 = _ by decide) hdg kk
set_option maxRecDepth 100000 in
set_option maxHeartbeats 4000000 in
theorem lX_ssizes (F : CallFix p m c cc nL s0 args Ts own) (h : HW Z (wX Z Q) A s0 H locs s) {i : Int32} (hi : gIn i 13 = true) (hdg : decode cc pc = .ok (.iaload, 1)) (kk : W p l e R s0 m args below meth c H locs cells slots P (F0 m (pc + 1) ls (.int (gM s 16 (ix i)) :: rest))) : W p l e R s0 m args below meth c H locs cells slots P (F0 m pc ls (.int i :: .ref (Q 16) :: rest)) := va_iald F.1 F.2.1 h.1 h.2.1 16 1 rfl rfl (gIn_vp hi) hdg kk
set_option maxRecDepth 100000 in
set_option maxHeartbeats 4000000 in
theorem sX_ssizes (F : CallFix p m c cc nL s0 args Ts own) (h : HW Z (wX Z Q) A s0 H locs s) {i : Int32} {x : Int32} (hi : gIn i 13 = true) (hdg : decode cc pc = .ok (.iastore, 1)) (kk : ∀ (H1 : Heap) (locs1 : List Loc), HW Z (wX Z Q) A s0 H1 locs1 (sM s 16 (ix i) x) → W p l e R s0 m args below meth c H1 locs1 cells slots P (F0 m (pc + 1) ls (rest))) : W p l e R s0 m args below meth c H locs cells slots P (F0 m pc ls (.int x :: .int i :: .ref (Q 16) :: rest)) := va_iast F.1 F.2.1 h.1 h.2.1 h.2.2.1 h.2.2.2.1 16 1 rfl rfl (gIn_vp hi) hdg (fun H1 locs1 hP hD hS => kk H1 locs1 ⟨h.1, hP, hD, hS, h.2.2.2.2.1, h.2.2.2.2.2.1, h.2.2.2.2.2.2⟩)
set_option maxRecDepth 100000 in
set_option maxHeartbeats 4000000 in
theorem nX_srow (F : CallFix p m c cc nL s0 args Ts own) (h : HW Z (wX Z Q) A s0 H locs s) (hdg : decode cc pc = .ok (.arraylength, 1)) (kk : W p l e R s0 m args below meth c H locs cells slots P (F0 m (pc + 1) ls (.int (40 : Int32) :: rest))) : W p l e R s0 m args below meth c H locs cells slots P (F0 m pc ls (.ref (Q 17) :: rest)) := va_alen F.1 F.2.1 h.1 h.2.1 17 1 rfl rfl (show Int32.ofNat 40 = _ by decide) hdg kk
set_option maxRecDepth 100000 in
set_option maxHeartbeats 4000000 in
theorem lX_srow (F : CallFix p m c cc nL s0 args Ts own) (h : HW Z (wX Z Q) A s0 H locs s) {i : Int32} (hi : gIn i 40 = true) (hdg : decode cc pc = .ok (.iaload, 1)) (kk : W p l e R s0 m args below meth c H locs cells slots P (F0 m (pc + 1) ls (.int (gM s 17 (ix i)) :: rest))) : W p l e R s0 m args below meth c H locs cells slots P (F0 m pc ls (.int i :: .ref (Q 17) :: rest)) := va_iald F.1 F.2.1 h.1 h.2.1 17 1 rfl rfl (gIn_vp hi) hdg kk
set_option maxRecDepth 100000 in
set_option maxHeartbeats 4000000 in
theorem sX_srow (F : CallFix p m c cc nL s0 args Ts own) (h : HW Z (wX Z Q) A s0 H locs s) {i : Int32} {x : Int32} (hi : gIn i 40 = true) (hdg : decode cc pc = .ok (.iastore, 1)) (kk : ∀ (H1 : Heap) (locs1 : List Loc), HW Z (wX Z Q) A s0 H1 locs1 (sM s 17 (ix i) x) → W p l e R s0 m args below meth c H1 locs1 cells slots P (F0 m (pc + 1) ls (rest))) : W p l e R s0 m args below meth c H locs cells slots P (F0 m pc ls (.int x :: .int i :: .ref (Q 17) :: rest)) := va_iast F.1 F.2.1 h.1 h.2.1 h.2.2.1 h.2.2.2.1 17 1 rfl rfl (gIn_vp hi) hdg (fun H1 locs1 hP hD hS => kk H1 locs1 ⟨h.1, hP, hD, hS, h.2.2.2.2.1, h.2.2.2.2.2.1, h.2.2.2.2.2.2⟩)
set_option maxRecDepth 100000 in
set_option maxHeartbeats 4000000 in
theorem nX_ofHouse (F : CallFix p m c cc nL s0 args Ts own) (h : HW Z (wX Z Q) A s0 H locs s) (hdg : decode cc pc = .ok (.arraylength, 1)) (kk : W p l e R s0 m args below meth c H locs cells slots P (F0 m (pc + 1) ls (.int (12 : Int32) :: rest))) : W p l e R s0 m args below meth c H locs cells slots P (F0 m pc ls (.ref (Q 18) :: rest)) := va_alen F.1 F.2.1 h.1 h.2.1 18 1 rfl rfl (show Int32.ofNat 12 = _ by decide) hdg kk
set_option maxRecDepth 100000 in
set_option maxHeartbeats 4000000 in
theorem lX_ofHouse (F : CallFix p m c cc nL s0 args Ts own) (h : HW Z (wX Z Q) A s0 H locs s) {i : Int32} (hi : gIn i 12 = true) (hdg : decode cc pc = .ok (.iaload, 1)) (kk : W p l e R s0 m args below meth c H locs cells slots P (F0 m (pc + 1) ls (.int (gM s 18 (ix i)) :: rest))) : W p l e R s0 m args below meth c H locs cells slots P (F0 m pc ls (.int i :: .ref (Q 18) :: rest)) := va_iald F.1 F.2.1 h.1 h.2.1 18 1 rfl rfl (gIn_vp hi) hdg kk
set_option maxRecDepth 100000 in
set_option maxHeartbeats 4000000 in
theorem sX_ofHouse (F : CallFix p m c cc nL s0 args Ts own) (h : HW Z (wX Z Q) A s0 H locs s) {i : Int32} {x : Int32} (hi : gIn i 12 = true) (hdg : decode cc pc = .ok (.iastore, 1)) (kk : ∀ (H1 : Heap) (locs1 : List Loc), HW Z (wX Z Q) A s0 H1 locs1 (sM s 18 (ix i) x) → W p l e R s0 m args below meth c H1 locs1 cells slots P (F0 m (pc + 1) ls (rest))) : W p l e R s0 m args below meth c H locs cells slots P (F0 m pc ls (.int x :: .int i :: .ref (Q 18) :: rest)) := va_iast F.1 F.2.1 h.1 h.2.1 h.2.2.1 h.2.2.2.1 18 1 rfl rfl (gIn_vp hi) hdg (fun H1 locs1 hP hD hS => kk H1 locs1 ⟨h.1, hP, hD, hS, h.2.2.2.2.1, h.2.2.2.2.2.1, h.2.2.2.2.2.2⟩)
set_option maxRecDepth 100000 in
set_option maxHeartbeats 4000000 in
theorem rcX_Plan {k : Nat} (hk : k < 2) (h : HW Z (wX Z Q) A s0 H locs s) : ∃ cell : Cell, H[(Q (19 + 5 * k))]? = some cell ∧ cell.vm.isStatics = false ∧ s0.vm.findClass RX3 = some cell.cls := by
  rcases (show k = 0 ∨ k = 1 by omega) with rfl | rfl
  · exact va_recv h.1 h.2.1 (ci := 3) (q0 := 19) rfl rfl
  · exact va_recv h.1 h.2.1 (ci := 3) (q0 := 24) rfl rfl
set_option maxRecDepth 100000 in
set_option maxHeartbeats 4000000 in
theorem gX_Plan_kinds {k : Nat} (hk : k < 2) (F : CallFix p m c cc nL s0 args Ts own) (h : HW Z (wX Z Q) A s0 H locs s) (hin : ∀ w ∈ wsX30, w ∈ Ts) (hlink : (Cond.fieldLink own index "ElectionHouse$Plan" "kinds" "[I").before args s0 = true) (hdg : decode cc pc = .ok (.getfield index, 3)) (kk : W p l e R s0 m args below meth c H locs cells slots P (F0 m (pc + 3) ls (.ref (Q (20 + 5 * k)) :: rest))) : W p l e R s0 m args below meth c H locs cells slots P (F0 m pc ls (.ref (Q (19 + 5 * k)) :: rest)) := by
  rcases (show k = 0 ∨ k = 1 by omega) with rfl | rfl
  · exact gen_get (C := RX3) (T := TX3) (N := 5) F h 19 rfl rfl 0 (by decide) hin hlink rfl hdg kk
  · exact gen_get (C := RX3) (T := TX3) (N := 5) F h 24 rfl rfl 0 (by decide) hin hlink rfl hdg kk
set_option maxRecDepth 100000 in
set_option maxHeartbeats 4000000 in
theorem gX_Plan_sizes {k : Nat} (hk : k < 2) (F : CallFix p m c cc nL s0 args Ts own) (h : HW Z (wX Z Q) A s0 H locs s) (hin : ∀ w ∈ wsX30, w ∈ Ts) (hlink : (Cond.fieldLink own index "ElectionHouse$Plan" "sizes" "[I").before args s0 = true) (hdg : decode cc pc = .ok (.getfield index, 3)) (kk : W p l e R s0 m args below meth c H locs cells slots P (F0 m (pc + 3) ls (.ref (Q (21 + 5 * k)) :: rest))) : W p l e R s0 m args below meth c H locs cells slots P (F0 m pc ls (.ref (Q (19 + 5 * k)) :: rest)) := by
  rcases (show k = 0 ∨ k = 1 by omega) with rfl | rfl
  · exact gen_get (C := RX3) (T := TX3) (N := 5) F h 19 rfl rfl 1 (by decide) hin hlink rfl hdg kk
  · exact gen_get (C := RX3) (T := TX3) (N := 5) F h 24 rfl rfl 1 (by decide) hin hlink rfl hdg kk
set_option maxRecDepth 100000 in
set_option maxHeartbeats 4000000 in
theorem gX_Plan_votes {k : Nat} (hk : k < 2) (F : CallFix p m c cc nL s0 args Ts own) (h : HW Z (wX Z Q) A s0 H locs s) (hin : ∀ w ∈ wsX30, w ∈ Ts) (hlink : (Cond.fieldLink own index "ElectionHouse$Plan" "votes" "[I").before args s0 = true) (hdg : decode cc pc = .ok (.getfield index, 3)) (kk : W p l e R s0 m args below meth c H locs cells slots P (F0 m (pc + 3) ls (.ref (Q (22 + 5 * k)) :: rest))) : W p l e R s0 m args below meth c H locs cells slots P (F0 m pc ls (.ref (Q (19 + 5 * k)) :: rest)) := by
  rcases (show k = 0 ∨ k = 1 by omega) with rfl | rfl
  · exact gen_get (C := RX3) (T := TX3) (N := 5) F h 19 rfl rfl 2 (by decide) hin hlink rfl hdg kk
  · exact gen_get (C := RX3) (T := TX3) (N := 5) F h 24 rfl rfl 2 (by decide) hin hlink rfl hdg kk
set_option maxRecDepth 100000 in
set_option maxHeartbeats 4000000 in
theorem gX_Plan_limits {k : Nat} (hk : k < 2) (F : CallFix p m c cc nL s0 args Ts own) (h : HW Z (wX Z Q) A s0 H locs s) (hin : ∀ w ∈ wsX30, w ∈ Ts) (hlink : (Cond.fieldLink own index "ElectionHouse$Plan" "limits" "[I").before args s0 = true) (hdg : decode cc pc = .ok (.getfield index, 3)) (kk : W p l e R s0 m args below meth c H locs cells slots P (F0 m (pc + 3) ls (.ref (Q (23 + 5 * k)) :: rest))) : W p l e R s0 m args below meth c H locs cells slots P (F0 m pc ls (.ref (Q (19 + 5 * k)) :: rest)) := by
  rcases (show k = 0 ∨ k = 1 by omega) with rfl | rfl
  · exact gen_get (C := RX3) (T := TX3) (N := 5) F h 19 rfl rfl 3 (by decide) hin hlink rfl hdg kk
  · exact gen_get (C := RX3) (T := TX3) (N := 5) F h 24 rfl rfl 3 (by decide) hin hlink rfl hdg kk
set_option maxRecDepth 100000 in
set_option maxHeartbeats 4000000 in
theorem gX_Plan_length {k : Nat} (hk : k < 2) (F : CallFix p m c cc nL s0 args Ts own) (h : HW Z (wX Z Q) A s0 H locs s) (hin : ∀ w ∈ wsX30, w ∈ Ts) (hlink : (Cond.fieldLink own index "ElectionHouse$Plan" "length" "I").before args s0 = true) (hdg : decode cc pc = .ok (.getfield index, 3)) (kk : W p l e R s0 m args below meth c H locs cells slots P (F0 m (pc + 3) ls (.int (gM s (19 + 5 * k) 4) :: rest))) : W p l e R s0 m args below meth c H locs cells slots P (F0 m pc ls (.ref (Q (19 + 5 * k)) :: rest)) := by
  rcases (show k = 0 ∨ k = 1 by omega) with rfl | rfl
  · exact gen_get (C := RX3) (T := TX3) (N := 5) F h 19 rfl rfl 4 (by decide) hin hlink rfl hdg kk
  · exact gen_get (C := RX3) (T := TX3) (N := 5) F h 24 rfl rfl 4 (by decide) hin hlink rfl hdg kk
set_option maxRecDepth 100000 in
set_option maxHeartbeats 4000000 in
theorem pX_Plan_length {k : Nat} (hk : k < 2) {x : Int32} (F : CallFix p m c cc nL s0 args Ts own) (h : HW Z (wX Z Q) A s0 H locs s) (hin : ∀ w ∈ wsX30, w ∈ Ts) (hlink : (Cond.fieldLink own index "ElectionHouse$Plan" "length" "I").before args s0 = true) (hdg : decode cc pc = .ok (.putfield index, 3)) (kk : ∀ (H1 : Heap) (locs1 : List Loc), HW Z (wX Z Q) A s0 H1 locs1 (sM s (19 + 5 * k) 4 x) → W p l e R s0 m args below meth c H1 locs1 cells slots P (F0 m (pc + 3) ls (rest))) : W p l e R s0 m args below meth c H locs cells slots P (F0 m pc ls (.int x :: .ref (Q (19 + 5 * k)) :: rest)) := by
  rcases (show k = 0 ∨ k = 1 by omega) with rfl | rfl
  · exact gen_put (s' := sM s 19 4 x) (ty := .int) (C := RX3) (T := TX3) (N := 5) F h 19 rfl rfl 4 (by decide) hin tyX3 tyX3_ok nmX3 hlink rfl (by decide +kernel) rfl rfl (Nat.le_of_ble_eq_true rfl) rfl h.2.2.2.2.2.1 hdg kk
  · exact gen_put (s' := sM s 24 4 x) (ty := .int) (C := RX3) (T := TX3) (N := 5) F h 24 rfl rfl 4 (by decide) hin tyX3 tyX3_ok nmX3 hlink rfl (by decide +kernel) rfl rfl (Nat.le_of_ble_eq_true rfl) rfl h.2.2.2.2.2.1 hdg kk
set_option maxRecDepth 100000 in
set_option maxHeartbeats 4000000 in
theorem nX_pkinds {k : Nat} (hk : k < 2) (F : CallFix p m c cc nL s0 args Ts own) (h : HW Z (wX Z Q) A s0 H locs s) (hdg : decode cc pc = .ok (.arraylength, 1)) (kk : W p l e R s0 m args below meth c H locs cells slots P (F0 m (pc + 1) ls (.int (12 : Int32) :: rest))) : W p l e R s0 m args below meth c H locs cells slots P (F0 m pc ls (.ref (Q (20 + 5 * k)) :: rest)) := by
  rcases (show k = 0 ∨ k = 1 by omega) with rfl | rfl
  · exact va_alen F.1 F.2.1 h.1 h.2.1 20 1 rfl rfl (show Int32.ofNat 12 = _ by decide) hdg kk
  · exact va_alen F.1 F.2.1 h.1 h.2.1 25 1 rfl rfl (show Int32.ofNat 12 = _ by decide) hdg kk
set_option maxRecDepth 100000 in
set_option maxHeartbeats 4000000 in
theorem lX_pkinds {k : Nat} (hk : k < 2) (F : CallFix p m c cc nL s0 args Ts own) (h : HW Z (wX Z Q) A s0 H locs s) {i : Int32} (hi : gIn i 12 = true) (hdg : decode cc pc = .ok (.iaload, 1)) (kk : W p l e R s0 m args below meth c H locs cells slots P (F0 m (pc + 1) ls (.int (gM s (20 + 5 * k) (ix i)) :: rest))) : W p l e R s0 m args below meth c H locs cells slots P (F0 m pc ls (.int i :: .ref (Q (20 + 5 * k)) :: rest)) := by
  rcases (show k = 0 ∨ k = 1 by omega) with rfl | rfl
  · exact va_iald F.1 F.2.1 h.1 h.2.1 20 1 rfl rfl (gIn_vp hi) hdg kk
  · exact va_iald F.1 F.2.1 h.1 h.2.1 25 1 rfl rfl (gIn_vp hi) hdg kk
set_option maxRecDepth 100000 in
set_option maxHeartbeats 4000000 in
theorem sX_pkinds {k : Nat} (hk : k < 2) (F : CallFix p m c cc nL s0 args Ts own) (h : HW Z (wX Z Q) A s0 H locs s) {i : Int32} {x : Int32} (hi : gIn i 12 = true) (hdg : decode cc pc = .ok (.iastore, 1)) (kk : ∀ (H1 : Heap) (locs1 : List Loc), HW Z (wX Z Q) A s0 H1 locs1 (sM s (20 + 5 * k) (ix i) x) → W p l e R s0 m args below meth c H1 locs1 cells slots P (F0 m (pc + 1) ls (rest))) : W p l e R s0 m args below meth c H locs cells slots P (F0 m pc ls (.int x :: .int i :: .ref (Q (20 + 5 * k)) :: rest)) := by
  rcases (show k = 0 ∨ k = 1 by omega) with rfl | rfl
  · exact va_iast F.1 F.2.1 h.1 h.2.1 h.2.2.1 h.2.2.2.1 20 1 rfl rfl (gIn_vp hi) hdg (fun H1 locs1 hP hD hS => kk H1 locs1 ⟨h.1, hP, hD, hS, h.2.2.2.2.1, h.2.2.2.2.2.1, h.2.2.2.2.2.2⟩)
  · exact va_iast F.1 F.2.1 h.1 h.2.1 h.2.2.1 h.2.2.2.1 25 1 rfl rfl (gIn_vp hi) hdg (fun H1 locs1 hP hD hS => kk H1 locs1 ⟨h.1, hP, hD, hS, h.2.2.2.2.1, h.2.2.2.2.2.1, h.2.2.2.2.2.2⟩)
set_option maxRecDepth 100000 in
set_option maxHeartbeats 4000000 in
theorem nX_psizes {k : Nat} (hk : k < 2) (F : CallFix p m c cc nL s0 args Ts own) (h : HW Z (wX Z Q) A s0 H locs s) (hdg : decode cc pc = .ok (.arraylength, 1)) (kk : W p l e R s0 m args below meth c H locs cells slots P (F0 m (pc + 1) ls (.int (12 : Int32) :: rest))) : W p l e R s0 m args below meth c H locs cells slots P (F0 m pc ls (.ref (Q (21 + 5 * k)) :: rest)) := by
  rcases (show k = 0 ∨ k = 1 by omega) with rfl | rfl
  · exact va_alen F.1 F.2.1 h.1 h.2.1 21 1 rfl rfl (show Int32.ofNat 12 = _ by decide) hdg kk
  · exact va_alen F.1 F.2.1 h.1 h.2.1 26 1 rfl rfl (show Int32.ofNat 12 = _ by decide) hdg kk
set_option maxRecDepth 100000 in
set_option maxHeartbeats 4000000 in
theorem lX_psizes {k : Nat} (hk : k < 2) (F : CallFix p m c cc nL s0 args Ts own) (h : HW Z (wX Z Q) A s0 H locs s) {i : Int32} (hi : gIn i 12 = true) (hdg : decode cc pc = .ok (.iaload, 1)) (kk : W p l e R s0 m args below meth c H locs cells slots P (F0 m (pc + 1) ls (.int (gM s (21 + 5 * k) (ix i)) :: rest))) : W p l e R s0 m args below meth c H locs cells slots P (F0 m pc ls (.int i :: .ref (Q (21 + 5 * k)) :: rest)) := by
  rcases (show k = 0 ∨ k = 1 by omega) with rfl | rfl
  · exact va_iald F.1 F.2.1 h.1 h.2.1 21 1 rfl rfl (gIn_vp hi) hdg kk
  · exact va_iald F.1 F.2.1 h.1 h.2.1 26 1 rfl rfl (gIn_vp hi) hdg kk
set_option maxRecDepth 100000 in
set_option maxHeartbeats 4000000 in
theorem sX_psizes {k : Nat} (hk : k < 2) (F : CallFix p m c cc nL s0 args Ts own) (h : HW Z (wX Z Q) A s0 H locs s) {i : Int32} {x : Int32} (hi : gIn i 12 = true) (hdg : decode cc pc = .ok (.iastore, 1)) (kk : ∀ (H1 : Heap) (locs1 : List Loc), HW Z (wX Z Q) A s0 H1 locs1 (sM s (21 + 5 * k) (ix i) x) → W p l e R s0 m args below meth c H1 locs1 cells slots P (F0 m (pc + 1) ls (rest))) : W p l e R s0 m args below meth c H locs cells slots P (F0 m pc ls (.int x :: .int i :: .ref (Q (21 + 5 * k)) :: rest)) := by
  rcases (show k = 0 ∨ k = 1 by omega) with rfl | rfl
  · exact va_iast F.1 F.2.1 h.1 h.2.1 h.2.2.1 h.2.2.2.1 21 1 rfl rfl (gIn_vp hi) hdg (fun H1 locs1 hP hD hS => kk H1 locs1 ⟨h.1, hP, hD, hS, h.2.2.2.2.1, h.2.2.2.2.2.1, h.2.2.2.2.2.2⟩)
  · exact va_iast F.1 F.2.1 h.1 h.2.1 h.2.2.1 h.2.2.2.1 26 1 rfl rfl (gIn_vp hi) hdg (fun H1 locs1 hP hD hS => kk H1 locs1 ⟨h.1, hP, hD, hS, h.2.2.2.2.1, h.2.2.2.2.2.1, h.2.2.2.2.2.2⟩)
set_option maxRecDepth 100000 in
set_option maxHeartbeats 4000000 in
theorem nX_pvot {k : Nat} (hk : k < 2) (F : CallFix p m c cc nL s0 args Ts own) (h : HW Z (wX Z Q) A s0 H locs s) (hdg : decode cc pc = .ok (.arraylength, 1)) (kk : W p l e R s0 m args below meth c H locs cells slots P (F0 m (pc + 1) ls (.int (12 : Int32) :: rest))) : W p l e R s0 m args below meth c H locs cells slots P (F0 m pc ls (.ref (Q (22 + 5 * k)) :: rest)) := by
  rcases (show k = 0 ∨ k = 1 by omega) with rfl | rfl
  · exact va_alen F.1 F.2.1 h.1 h.2.1 22 1 rfl rfl (show Int32.ofNat 12 = _ by decide) hdg kk
  · exact va_alen F.1 F.2.1 h.1 h.2.1 27 1 rfl rfl (show Int32.ofNat 12 = _ by decide) hdg kk
set_option maxRecDepth 100000 in
set_option maxHeartbeats 4000000 in
theorem lX_pvot {k : Nat} (hk : k < 2) (F : CallFix p m c cc nL s0 args Ts own) (h : HW Z (wX Z Q) A s0 H locs s) {i : Int32} (hi : gIn i 12 = true) (hdg : decode cc pc = .ok (.iaload, 1)) (kk : W p l e R s0 m args below meth c H locs cells slots P (F0 m (pc + 1) ls (.int (gM s (22 + 5 * k) (ix i)) :: rest))) : W p l e R s0 m args below meth c H locs cells slots P (F0 m pc ls (.int i :: .ref (Q (22 + 5 * k)) :: rest)) := by
  rcases (show k = 0 ∨ k = 1 by omega) with rfl | rfl
  · exact va_iald F.1 F.2.1 h.1 h.2.1 22 1 rfl rfl (gIn_vp hi) hdg kk
  · exact va_iald F.1 F.2.1 h.1 h.2.1 27 1 rfl rfl (gIn_vp hi) hdg kk
set_option maxRecDepth 100000 in
set_option maxHeartbeats 4000000 in
theorem sX_pvot {k : Nat} (hk : k < 2) (F : CallFix p m c cc nL s0 args Ts own) (h : HW Z (wX Z Q) A s0 H locs s) {i : Int32} {x : Int32} (hi : gIn i 12 = true) (hdg : decode cc pc = .ok (.iastore, 1)) (kk : ∀ (H1 : Heap) (locs1 : List Loc), HW Z (wX Z Q) A s0 H1 locs1 (sM s (22 + 5 * k) (ix i) x) → W p l e R s0 m args below meth c H1 locs1 cells slots P (F0 m (pc + 1) ls (rest))) : W p l e R s0 m args below meth c H locs cells slots P (F0 m pc ls (.int x :: .int i :: .ref (Q (22 + 5 * k)) :: rest)) := by
  rcases (show k = 0 ∨ k = 1 by omega) with rfl | rfl
  · exact va_iast F.1 F.2.1 h.1 h.2.1 h.2.2.1 h.2.2.2.1 22 1 rfl rfl (gIn_vp hi) hdg (fun H1 locs1 hP hD hS => kk H1 locs1 ⟨h.1, hP, hD, hS, h.2.2.2.2.1, h.2.2.2.2.2.1, h.2.2.2.2.2.2⟩)
  · exact va_iast F.1 F.2.1 h.1 h.2.1 h.2.2.1 h.2.2.2.1 27 1 rfl rfl (gIn_vp hi) hdg (fun H1 locs1 hP hD hS => kk H1 locs1 ⟨h.1, hP, hD, hS, h.2.2.2.2.1, h.2.2.2.2.2.1, h.2.2.2.2.2.2⟩)
set_option maxRecDepth 100000 in
set_option maxHeartbeats 4000000 in
theorem nX_plim {k : Nat} (hk : k < 2) (F : CallFix p m c cc nL s0 args Ts own) (h : HW Z (wX Z Q) A s0 H locs s) (hdg : decode cc pc = .ok (.arraylength, 1)) (kk : W p l e R s0 m args below meth c H locs cells slots P (F0 m (pc + 1) ls (.int (12 : Int32) :: rest))) : W p l e R s0 m args below meth c H locs cells slots P (F0 m pc ls (.ref (Q (23 + 5 * k)) :: rest)) := by
  rcases (show k = 0 ∨ k = 1 by omega) with rfl | rfl
  · exact va_alen F.1 F.2.1 h.1 h.2.1 23 1 rfl rfl (show Int32.ofNat 12 = _ by decide) hdg kk
  · exact va_alen F.1 F.2.1 h.1 h.2.1 28 1 rfl rfl (show Int32.ofNat 12 = _ by decide) hdg kk
set_option maxRecDepth 100000 in
set_option maxHeartbeats 4000000 in
theorem lX_plim {k : Nat} (hk : k < 2) (F : CallFix p m c cc nL s0 args Ts own) (h : HW Z (wX Z Q) A s0 H locs s) {i : Int32} (hi : gIn i 12 = true) (hdg : decode cc pc = .ok (.iaload, 1)) (kk : W p l e R s0 m args below meth c H locs cells slots P (F0 m (pc + 1) ls (.int (gM s (23 + 5 * k) (ix i)) :: rest))) : W p l e R s0 m args below meth c H locs cells slots P (F0 m pc ls (.int i :: .ref (Q (23 + 5 * k)) :: rest)) := by
  rcases (show k = 0 ∨ k = 1 by omega) with rfl | rfl
  · exact va_iald F.1 F.2.1 h.1 h.2.1 23 1 rfl rfl (gIn_vp hi) hdg kk
  · exact va_iald F.1 F.2.1 h.1 h.2.1 28 1 rfl rfl (gIn_vp hi) hdg kk
set_option maxRecDepth 100000 in
set_option maxHeartbeats 4000000 in
theorem sX_plim {k : Nat} (hk : k < 2) (F : CallFix p m c cc nL s0 args Ts own) (h : HW Z (wX Z Q) A s0 H locs s) {i : Int32} {x : Int32} (hi : gIn i 12 = true) (hdg : decode cc pc = .ok (.iastore, 1)) (kk : ∀ (H1 : Heap) (locs1 : List Loc), HW Z (wX Z Q) A s0 H1 locs1 (sM s (23 + 5 * k) (ix i) x) → W p l e R s0 m args below meth c H1 locs1 cells slots P (F0 m (pc + 1) ls (rest))) : W p l e R s0 m args below meth c H locs cells slots P (F0 m pc ls (.int x :: .int i :: .ref (Q (23 + 5 * k)) :: rest)) := by
  rcases (show k = 0 ∨ k = 1 by omega) with rfl | rfl
  · exact va_iast F.1 F.2.1 h.1 h.2.1 h.2.2.1 h.2.2.2.1 23 1 rfl rfl (gIn_vp hi) hdg (fun H1 locs1 hP hD hS => kk H1 locs1 ⟨h.1, hP, hD, hS, h.2.2.2.2.1, h.2.2.2.2.2.1, h.2.2.2.2.2.2⟩)
  · exact va_iast F.1 F.2.1 h.1 h.2.1 h.2.2.1 h.2.2.2.1 28 1 rfl rfl (gIn_vp hi) hdg (fun H1 locs1 hP hD hS => kk H1 locs1 ⟨h.1, hP, hD, hS, h.2.2.2.2.1, h.2.2.2.2.2.1, h.2.2.2.2.2.2⟩)
set_option maxRecDepth 100000 in
set_option maxHeartbeats 4000000 in
theorem rcX_Odds (h : HW Z (wX Z Q) A s0 H locs s) : ∃ cell : Cell, H[(Q 29)]? = some cell ∧ cell.vm.isStatics = false ∧ s0.vm.findClass RX2 = some cell.cls := va_recv h.1 h.2.1 (ci := 2) (q0 := 29) rfl rfl
set_option maxRecDepth 100000 in
set_option maxHeartbeats 4000000 in
theorem gX_Odds_city (F : CallFix p m c cc nL s0 args Ts own) (h : HW Z (wX Z Q) A s0 H locs s) (hin : ∀ w ∈ wsX20, w ∈ Ts) (hlink : (Cond.fieldLink own index "ElectionHouse$Odds" "city" "LElectionHouse$City;").before args s0 = true) (hdg : decode cc pc = .ok (.getfield index, 3)) (kk : W p l e R s0 m args below meth c H locs cells slots P (F0 m (pc + 3) ls (.ref (Q 1) :: rest))) : W p l e R s0 m args below meth c H locs cells slots P (F0 m pc ls (.ref (Q 29) :: rest)) := gen_get (C := RX2) (T := TX2) (N := 16) F h 29 rfl rfl 0 (by decide) hin hlink rfl hdg kk
set_option maxRecDepth 100000 in
set_option maxHeartbeats 4000000 in
theorem gX_Odds_session (F : CallFix p m c cc nL s0 args Ts own) (h : HW Z (wX Z Q) A s0 H locs s) (hin : ∀ w ∈ wsX20, w ∈ Ts) (hlink : (Cond.fieldLink own index "ElectionHouse$Odds" "session" "LElectionHouse$Session;").before args s0 = true) (hdg : decode cc pc = .ok (.getfield index, 3)) (kk : W p l e R s0 m args below meth c H locs cells slots P (F0 m (pc + 3) ls (.ref (Q 14) :: rest))) : W p l e R s0 m args below meth c H locs cells slots P (F0 m pc ls (.ref (Q 29) :: rest)) := gen_get (C := RX2) (T := TX2) (N := 16) F h 29 rfl rfl 1 (by decide) hin hlink rfl hdg kk
set_option maxRecDepth 100000 in
set_option maxHeartbeats 4000000 in
theorem gX_Odds_sets (F : CallFix p m c cc nL s0 args Ts own) (h : HW Z (wX Z Q) A s0 H locs s) (hin : ∀ w ∈ wsX20, w ∈ Ts) (hlink : (Cond.fieldLink own index "ElectionHouse$Odds" "sets" "[J").before args s0 = true) (hdg : decode cc pc = .ok (.getfield index, 3)) (kk : W p l e R s0 m args below meth c H locs cells slots P (F0 m (pc + 3) ls (.ref (Q 30) :: rest))) : W p l e R s0 m args below meth c H locs cells slots P (F0 m pc ls (.ref (Q 29) :: rest)) := gen_get (C := RX2) (T := TX2) (N := 16) F h 29 rfl rfl 2 (by decide) hin hlink rfl hdg kk
set_option maxRecDepth 100000 in
set_option maxHeartbeats 4000000 in
theorem gX_Odds_later (F : CallFix p m c cc nL s0 args Ts own) (h : HW Z (wX Z Q) A s0 H locs s) (hin : ∀ w ∈ wsX20, w ∈ Ts) (hlink : (Cond.fieldLink own index "ElectionHouse$Odds" "later" "[J").before args s0 = true) (hdg : decode cc pc = .ok (.getfield index, 3)) (kk : W p l e R s0 m args below meth c H locs cells slots P (F0 m (pc + 3) ls (.ref (Q 31) :: rest))) : W p l e R s0 m args below meth c H locs cells slots P (F0 m pc ls (.ref (Q 29) :: rest)) := gen_get (C := RX2) (T := TX2) (N := 16) F h 29 rfl rfl 3 (by decide) hin hlink rfl hdg kk
set_option maxRecDepth 100000 in
set_option maxHeartbeats 4000000 in
theorem gX_Odds_has (F : CallFix p m c cc nL s0 args Ts own) (h : HW Z (wX Z Q) A s0 H locs s) (hin : ∀ w ∈ wsX20, w ∈ Ts) (hlink : (Cond.fieldLink own index "ElectionHouse$Odds" "has" "[I").before args s0 = true) (hdg : decode cc pc = .ok (.getfield index, 3)) (kk : W p l e R s0 m args below meth c H locs cells slots P (F0 m (pc + 3) ls (.ref (Q 32) :: rest))) : W p l e R s0 m args below meth c H locs cells slots P (F0 m pc ls (.ref (Q 29) :: rest)) := gen_get (C := RX2) (T := TX2) (N := 16) F h 29 rfl rfl 4 (by decide) hin hlink rfl hdg kk
set_option maxRecDepth 100000 in
set_option maxHeartbeats 4000000 in
theorem gX_Odds_gets (F : CallFix p m c cc nL s0 args Ts own) (h : HW Z (wX Z Q) A s0 H locs s) (hin : ∀ w ∈ wsX20, w ∈ Ts) (hlink : (Cond.fieldLink own index "ElectionHouse$Odds" "gets" "[I").before args s0 = true) (hdg : decode cc pc = .ok (.getfield index, 3)) (kk : W p l e R s0 m args below meth c H locs cells slots P (F0 m (pc + 3) ls (.ref (Q 33) :: rest))) : W p l e R s0 m args below meth c H locs cells slots P (F0 m pc ls (.ref (Q 29) :: rest)) := gen_get (C := RX2) (T := TX2) (N := 16) F h 29 rfl rfl 5 (by decide) hin hlink rfl hdg kk
set_option maxRecDepth 100000 in
set_option maxHeartbeats 4000000 in
theorem gX_Odds_enough (F : CallFix p m c cc nL s0 args Ts own) (h : HW Z (wX Z Q) A s0 H locs s) (hin : ∀ w ∈ wsX20, w ∈ Ts) (hlink : (Cond.fieldLink own index "ElectionHouse$Odds" "enough" "[Z").before args s0 = true) (hdg : decode cc pc = .ok (.getfield index, 3)) (kk : W p l e R s0 m args below meth c H locs cells slots P (F0 m (pc + 3) ls (.ref (Q 34) :: rest))) : W p l e R s0 m args below meth c H locs cells slots P (F0 m pc ls (.ref (Q 29) :: rest)) := gen_get (C := RX2) (T := TX2) (N := 16) F h 29 rfl rfl 6 (by decide) hin hlink rfl hdg kk
set_option maxRecDepth 100000 in
set_option maxHeartbeats 4000000 in
theorem gX_Odds_candidates (F : CallFix p m c cc nL s0 args Ts own) (h : HW Z (wX Z Q) A s0 H locs s) (hin : ∀ w ∈ wsX20, w ∈ Ts) (hlink : (Cond.fieldLink own index "ElectionHouse$Odds" "candidates" "[I").before args s0 = true) (hdg : decode cc pc = .ok (.getfield index, 3)) (kk : W p l e R s0 m args below meth c H locs cells slots P (F0 m (pc + 3) ls (.ref (Q 35) :: rest))) : W p l e R s0 m args below meth c H locs cells slots P (F0 m pc ls (.ref (Q 29) :: rest)) := gen_get (C := RX2) (T := TX2) (N := 16) F h 29 rfl rfl 7 (by decide) hin hlink rfl hdg kk
set_option maxRecDepth 100000 in
set_option maxHeartbeats 4000000 in
theorem gX_Odds_candidateParties (F : CallFix p m c cc nL s0 args Ts own) (h : HW Z (wX Z Q) A s0 H locs s) (hin : ∀ w ∈ wsX20, w ∈ Ts) (hlink : (Cond.fieldLink own index "ElectionHouse$Odds" "candidateParties" "[I").before args s0 = true) (hdg : decode cc pc = .ok (.getfield index, 3)) (kk : W p l e R s0 m args below meth c H locs cells slots P (F0 m (pc + 3) ls (.ref (Q 36) :: rest))) : W p l e R s0 m args below meth c H locs cells slots P (F0 m pc ls (.ref (Q 29) :: rest)) := gen_get (C := RX2) (T := TX2) (N := 16) F h 29 rfl rfl 8 (by decide) hin hlink rfl hdg kk
set_option maxRecDepth 100000 in
set_option maxHeartbeats 4000000 in
theorem gX_Odds_yes (F : CallFix p m c cc nL s0 args Ts own) (h : HW Z (wX Z Q) A s0 H locs s) (hin : ∀ w ∈ wsX20, w ∈ Ts) (hlink : (Cond.fieldLink own index "ElectionHouse$Odds" "yes" "[I").before args s0 = true) (hdg : decode cc pc = .ok (.getfield index, 3)) (kk : W p l e R s0 m args below meth c H locs cells slots P (F0 m (pc + 3) ls (.ref (Q 37) :: rest))) : W p l e R s0 m args below meth c H locs cells slots P (F0 m pc ls (.ref (Q 29) :: rest)) := gen_get (C := RX2) (T := TX2) (N := 16) F h 29 rfl rfl 9 (by decide) hin hlink rfl hdg kk
set_option maxRecDepth 100000 in
set_option maxHeartbeats 4000000 in
theorem gX_Odds_candidateCount (F : CallFix p m c cc nL s0 args Ts own) (h : HW Z (wX Z Q) A s0 H locs s) (hin : ∀ w ∈ wsX20, w ∈ Ts) (hlink : (Cond.fieldLink own index "ElectionHouse$Odds" "candidateCount" "I").before args s0 = true) (hdg : decode cc pc = .ok (.getfield index, 3)) (kk : W p l e R s0 m args below meth c H locs cells slots P (F0 m (pc + 3) ls (.int (gM s 29 10) :: rest))) : W p l e R s0 m args below meth c H locs cells slots P (F0 m pc ls (.ref (Q 29) :: rest)) := gen_get (C := RX2) (T := TX2) (N := 16) F h 29 rfl rfl 10 (by decide) hin hlink rfl hdg kk
set_option maxRecDepth 100000 in
set_option maxHeartbeats 4000000 in
theorem pX_Odds_candidateCount {x : Int32} (F : CallFix p m c cc nL s0 args Ts own) (h : HW Z (wX Z Q) A s0 H locs s) (hin : ∀ w ∈ wsX20, w ∈ Ts) (hlink : (Cond.fieldLink own index "ElectionHouse$Odds" "candidateCount" "I").before args s0 = true) (hdg : decode cc pc = .ok (.putfield index, 3)) (kk : ∀ (H1 : Heap) (locs1 : List Loc), HW Z (wX Z Q) A s0 H1 locs1 (sM s 29 10 x) → W p l e R s0 m args below meth c H1 locs1 cells slots P (F0 m (pc + 3) ls (rest))) : W p l e R s0 m args below meth c H locs cells slots P (F0 m pc ls (.int x :: .ref (Q 29) :: rest)) := gen_put (s' := sM s 29 10 x) (ty := .int) (C := RX2) (T := TX2) (N := 16) F h 29 rfl rfl 10 (by decide) hin tyX2 tyX2_ok nmX2 hlink rfl (by decide +kernel) rfl rfl (Nat.le_of_ble_eq_true rfl) rfl h.2.2.2.2.2.1 hdg kk
set_option maxRecDepth 100000 in
set_option maxHeartbeats 4000000 in
theorem gX_Odds_result (F : CallFix p m c cc nL s0 args Ts own) (h : HW Z (wX Z Q) A s0 H locs s) (hin : ∀ w ∈ wsX20, w ∈ Ts) (hlink : (Cond.fieldLink own index "ElectionHouse$Odds" "result" "[J").before args s0 = true) (hdg : decode cc pc = .ok (.getfield index, 3)) (kk : W p l e R s0 m args below meth c H locs cells slots P (F0 m (pc + 3) ls (.ref (Q (38 + (gG s 29 11))) :: rest))) : W p l e R s0 m args below meth c H locs cells slots P (F0 m pc ls (.ref (Q 29) :: rest)) := gen_get (C := RX2) (T := TX2) (N := 16) F h 29 rfl rfl 11 (by decide) hin hlink rfl hdg kk
set_option maxRecDepth 100000 in
set_option maxHeartbeats 4000000 in
theorem pX_Odds_result {x : Nat} (hx2 : x < 2) (F : CallFix p m c cc nL s0 args Ts own) (h : HW Z (wX Z Q) A s0 H locs s) (hin : ∀ w ∈ wsX20, w ∈ Ts) (hlink : (Cond.fieldLink own index "ElectionHouse$Odds" "result" "[J").before args s0 = true) (hdg : decode cc pc = .ok (.putfield index, 3)) (kk : ∀ (H1 : Heap) (locs1 : List Loc), HW Z (wX Z Q) A s0 H1 locs1 (sG s 29 11 x) → W p l e R s0 m args below meth c H1 locs1 cells slots P (F0 m (pc + 3) ls (rest))) : W p l e R s0 m args below meth c H locs cells slots P (F0 m pc ls (.ref (Q (38 + x)) :: .ref (Q 29) :: rest)) := gen_put (s' := sG s 29 11 x) (ty := .array .long) (C := RX2) (T := TX2) (N := 16) F h 29 rfl rfl 11 (by decide) hin tyX2 tyX2_ok nmX2 hlink rfl (by decide +kernel) rfl rfl (Nat.le_of_ble_eq_true rfl) rfl (sG_ok h.2.2.2.2.2.1 hx2) hdg kk
set_option maxRecDepth 100000 in
set_option maxHeartbeats 4000000 in
theorem gX_Odds_scratch (F : CallFix p m c cc nL s0 args Ts own) (h : HW Z (wX Z Q) A s0 H locs s) (hin : ∀ w ∈ wsX20, w ∈ Ts) (hlink : (Cond.fieldLink own index "ElectionHouse$Odds" "scratch" "[J").before args s0 = true) (hdg : decode cc pc = .ok (.getfield index, 3)) (kk : W p l e R s0 m args below meth c H locs cells slots P (F0 m (pc + 3) ls (.ref (Q (38 + (gG s 29 12))) :: rest))) : W p l e R s0 m args below meth c H locs cells slots P (F0 m pc ls (.ref (Q 29) :: rest)) := gen_get (C := RX2) (T := TX2) (N := 16) F h 29 rfl rfl 12 (by decide) hin hlink rfl hdg kk
set_option maxRecDepth 100000 in
set_option maxHeartbeats 4000000 in
theorem pX_Odds_scratch {x : Nat} (hx2 : x < 2) (F : CallFix p m c cc nL s0 args Ts own) (h : HW Z (wX Z Q) A s0 H locs s) (hin : ∀ w ∈ wsX20, w ∈ Ts) (hlink : (Cond.fieldLink own index "ElectionHouse$Odds" "scratch" "[J").before args s0 = true) (hdg : decode cc pc = .ok (.putfield index, 3)) (kk : ∀ (H1 : Heap) (locs1 : List Loc), HW Z (wX Z Q) A s0 H1 locs1 (sG s 29 12 x) → W p l e R s0 m args below meth c H1 locs1 cells slots P (F0 m (pc + 3) ls (rest))) : W p l e R s0 m args below meth c H locs cells slots P (F0 m pc ls (.ref (Q (38 + x)) :: .ref (Q 29) :: rest)) := gen_put (s' := sG s 29 12 x) (ty := .array .long) (C := RX2) (T := TX2) (N := 16) F h 29 rfl rfl 12 (by decide) hin tyX2 tyX2_ok nmX2 hlink rfl (by decide +kernel) rfl rfl (Nat.le_of_ble_eq_true rfl) rfl (sG_ok h.2.2.2.2.2.1 hx2) hdg kk
set_option maxRecDepth 100000 in
set_option maxHeartbeats 4000000 in
theorem gX_Odds_ahead (F : CallFix p m c cc nL s0 args Ts own) (h : HW Z (wX Z Q) A s0 H locs s) (hin : ∀ w ∈ wsX20, w ∈ Ts) (hlink : (Cond.fieldLink own index "ElectionHouse$Odds" "ahead" "LElectionHouse$Tally;").before args s0 = true) (hdg : decode cc pc = .ok (.getfield index, 3)) (kk : W p l e R s0 m args below meth c H locs cells slots P (F0 m (pc + 3) ls (.ref (Q (40 + 4 * (gG s 29 13))) :: rest))) : W p l e R s0 m args below meth c H locs cells slots P (F0 m pc ls (.ref (Q 29) :: rest)) := gen_get (C := RX2) (T := TX2) (N := 16) F h 29 rfl rfl 13 (by decide) hin hlink rfl hdg kk
set_option maxRecDepth 100000 in
set_option maxHeartbeats 4000000 in
theorem pX_Odds_ahead {x : Nat} (hx2 : x < 2) (F : CallFix p m c cc nL s0 args Ts own) (h : HW Z (wX Z Q) A s0 H locs s) (hin : ∀ w ∈ wsX20, w ∈ Ts) (hlink : (Cond.fieldLink own index "ElectionHouse$Odds" "ahead" "LElectionHouse$Tally;").before args s0 = true) (hdg : decode cc pc = .ok (.putfield index, 3)) (kk : ∀ (H1 : Heap) (locs1 : List Loc), HW Z (wX Z Q) A s0 H1 locs1 (sG s 29 13 x) → W p l e R s0 m args below meth c H1 locs1 cells slots P (F0 m (pc + 3) ls (rest))) : W p l e R s0 m args below meth c H locs cells slots P (F0 m pc ls (.ref (Q (40 + 4 * x)) :: .ref (Q 29) :: rest)) := gen_put (s' := sG s 29 13 x) (ty := .object "ElectionHouse$Tally") (C := RX2) (T := TX2) (N := 16) F h 29 rfl rfl 13 (by decide) hin tyX2 tyX2_ok nmX2 hlink rfl (by decide +kernel) rfl rfl (Nat.le_of_ble_eq_true rfl) rfl (sG_ok h.2.2.2.2.2.1 hx2) hdg kk
set_option maxRecDepth 100000 in
set_option maxHeartbeats 4000000 in
theorem gX_Odds_behind (F : CallFix p m c cc nL s0 args Ts own) (h : HW Z (wX Z Q) A s0 H locs s) (hin : ∀ w ∈ wsX20, w ∈ Ts) (hlink : (Cond.fieldLink own index "ElectionHouse$Odds" "behind" "LElectionHouse$Tally;").before args s0 = true) (hdg : decode cc pc = .ok (.getfield index, 3)) (kk : W p l e R s0 m args below meth c H locs cells slots P (F0 m (pc + 3) ls (.ref (Q (40 + 4 * (gG s 29 14))) :: rest))) : W p l e R s0 m args below meth c H locs cells slots P (F0 m pc ls (.ref (Q 29) :: rest)) := gen_get (C := RX2) (T := TX2) (N := 16) F h 29 rfl rfl 14 (by decide) hin hlink rfl hdg kk
set_option maxRecDepth 100000 in
set_option maxHeartbeats 4000000 in
theorem pX_Odds_behind {x : Nat} (hx2 : x < 2) (F : CallFix p m c cc nL s0 args Ts own) (h : HW Z (wX Z Q) A s0 H locs s) (hin : ∀ w ∈ wsX20, w ∈ Ts) (hlink : (Cond.fieldLink own index "ElectionHouse$Odds" "behind" "LElectionHouse$Tally;").before args s0 = true) (hdg : decode cc pc = .ok (.putfield index, 3)) (kk : ∀ (H1 : Heap) (locs1 : List Loc), HW Z (wX Z Q) A s0 H1 locs1 (sG s 29 14 x) → W p l e R s0 m args below meth c H1 locs1 cells slots P (F0 m (pc + 3) ls (rest))) : W p l e R s0 m args below meth c H locs cells slots P (F0 m pc ls (.ref (Q (40 + 4 * x)) :: .ref (Q 29) :: rest)) := gen_put (s' := sG s 29 14 x) (ty := .object "ElectionHouse$Tally") (C := RX2) (T := TX2) (N := 16) F h 29 rfl rfl 14 (by decide) hin tyX2 tyX2_ok nmX2 hlink rfl (by decide +kernel) rfl rfl (Nat.le_of_ble_eq_true rfl) rfl (sG_ok h.2.2.2.2.2.1 hx2) hdg kk
set_option maxRecDepth 100000 in
set_option maxHeartbeats 4000000 in
theorem gX_Odds_isCounted (F : CallFix p m c cc nL s0 args Ts own) (h : HW Z (wX Z Q) A s0 H locs s) (hin : ∀ w ∈ wsX20, w ∈ Ts) (hlink : (Cond.fieldLink own index "ElectionHouse$Odds" "isCounted" "Z").before args s0 = true) (hdg : decode cc pc = .ok (.getfield index, 3)) (kk : W p l e R s0 m args below meth c H locs cells slots P (F0 m (pc + 3) ls (.int (gM s 29 15) :: rest))) : W p l e R s0 m args below meth c H locs cells slots P (F0 m pc ls (.ref (Q 29) :: rest)) := gen_get (C := RX2) (T := TX2) (N := 16) F h 29 rfl rfl 15 (by decide) hin hlink rfl hdg kk
set_option maxRecDepth 100000 in
set_option maxHeartbeats 4000000 in
theorem pX_Odds_isCounted {x : Int32} (hz : gZ x = true) (F : CallFix p m c cc nL s0 args Ts own) (h : HW Z (wX Z Q) A s0 H locs s) (hin : ∀ w ∈ wsX20, w ∈ Ts) (hlink : (Cond.fieldLink own index "ElectionHouse$Odds" "isCounted" "Z").before args s0 = true) (hdg : decode cc pc = .ok (.putfield index, 3)) (kk : ∀ (H1 : Heap) (locs1 : List Loc), HW Z (wX Z Q) A s0 H1 locs1 (sM s 29 15 x) → W p l e R s0 m args below meth c H1 locs1 cells slots P (F0 m (pc + 3) ls (rest))) : W p l e R s0 m args below meth c H locs cells slots P (F0 m pc ls (.int x :: .ref (Q 29) :: rest)) := gen_put (s' := sM s 29 15 x) (ty := .boolean) (C := RX2) (T := TX2) (N := 16) F h 29 rfl rfl 15 (by decide) hin tyX2 tyX2_ok nmX2 hlink rfl (by decide +kernel) (gZ_n hz) (gZ_f hz) (Nat.le_of_ble_eq_true rfl) rfl h.2.2.2.2.2.1 hdg kk
set_option maxRecDepth 100000 in
set_option maxHeartbeats 4000000 in
theorem nX_osets (F : CallFix p m c cc nL s0 args Ts own) (h : HW Z (wX Z Q) A s0 H locs s) (hdg : decode cc pc = .ok (.arraylength, 1)) (kk : W p l e R s0 m args below meth c H locs cells slots P (F0 m (pc + 1) ls (.int (1681 : Int32) :: rest))) : W p l e R s0 m args below meth c H locs cells slots P (F0 m pc ls (.ref (Q 30) :: rest)) := va_alen F.1 F.2.1 h.1 h.2.1 30 2 rfl rfl (show Int32.ofNat 1681 = _ by decide) hdg kk
set_option maxRecDepth 100000 in
set_option maxHeartbeats 4000000 in
theorem lX_osets (F : CallFix p m c cc nL s0 args Ts own) (h : HW Z (wX Z Q) A s0 H locs s) {i : Int32} (hi : gIn i 1681 = true) (hdg : decode cc pc = .ok (.laload, 1)) (kk : W p l e R s0 m args below meth c H locs cells slots P (F0 m (pc + 1) ls (.long (gJ s 30 (ix i)) :: rest))) : W p l e R s0 m args below meth c H locs cells slots P (F0 m pc ls (.int i :: .ref (Q 30) :: rest)) := va_lald F.1 F.2.1 h.1 h.2.1 30 2 rfl rfl (gIn_vp hi) hdg kk
set_option maxRecDepth 100000 in
set_option maxHeartbeats 4000000 in
theorem sX_osets (F : CallFix p m c cc nL s0 args Ts own) (h : HW Z (wX Z Q) A s0 H locs s) {i : Int32} {x : Int64} (hi : gIn i 1681 = true) (hdg : decode cc pc = .ok (.lastore, 1)) (kk : ∀ (H1 : Heap) (locs1 : List Loc), HW Z (wX Z Q) A s0 H1 locs1 (sJ s 30 (ix i) x) → W p l e R s0 m args below meth c H1 locs1 cells slots P (F0 m (pc + 1) ls (rest))) : W p l e R s0 m args below meth c H locs cells slots P (F0 m pc ls (.long x :: .int i :: .ref (Q 30) :: rest)) := va_last F.1 F.2.1 h.1 h.2.1 h.2.2.1 h.2.2.2.1 30 2 rfl rfl (gIn_vp hi) hdg (fun H1 locs1 hP hD hS => kk H1 locs1 ⟨h.1, hP, hD, hS, h.2.2.2.2.1, h.2.2.2.2.2.1, h.2.2.2.2.2.2⟩)
set_option maxRecDepth 100000 in
set_option maxHeartbeats 4000000 in
theorem nX_later (F : CallFix p m c cc nL s0 args Ts own) (h : HW Z (wX Z Q) A s0 H locs s) (hdg : decode cc pc = .ok (.arraylength, 1)) (kk : W p l e R s0 m args below meth c H locs cells slots P (F0 m (pc + 1) ls (.int (12 : Int32) :: rest))) : W p l e R s0 m args below meth c H locs cells slots P (F0 m pc ls (.ref (Q 31) :: rest)) := va_alen F.1 F.2.1 h.1 h.2.1 31 2 rfl rfl (show Int32.ofNat 12 = _ by decide) hdg kk
set_option maxRecDepth 100000 in
set_option maxHeartbeats 4000000 in
theorem lX_later (F : CallFix p m c cc nL s0 args Ts own) (h : HW Z (wX Z Q) A s0 H locs s) {i : Int32} (hi : gIn i 12 = true) (hdg : decode cc pc = .ok (.laload, 1)) (kk : W p l e R s0 m args below meth c H locs cells slots P (F0 m (pc + 1) ls (.long (gJ s 31 (ix i)) :: rest))) : W p l e R s0 m args below meth c H locs cells slots P (F0 m pc ls (.int i :: .ref (Q 31) :: rest)) := va_lald F.1 F.2.1 h.1 h.2.1 31 2 rfl rfl (gIn_vp hi) hdg kk
set_option maxRecDepth 100000 in
set_option maxHeartbeats 4000000 in
theorem sX_later (F : CallFix p m c cc nL s0 args Ts own) (h : HW Z (wX Z Q) A s0 H locs s) {i : Int32} {x : Int64} (hi : gIn i 12 = true) (hdg : decode cc pc = .ok (.lastore, 1)) (kk : ∀ (H1 : Heap) (locs1 : List Loc), HW Z (wX Z Q) A s0 H1 locs1 (sJ s 31 (ix i) x) → W p l e R s0 m args below meth c H1 locs1 cells slots P (F0 m (pc + 1) ls (rest))) : W p l e R s0 m args below meth c H locs cells slots P (F0 m pc ls (.long x :: .int i :: .ref (Q 31) :: rest)) := va_last F.1 F.2.1 h.1 h.2.1 h.2.2.1 h.2.2.2.1 31 2 rfl rfl (gIn_vp hi) hdg (fun H1 locs1 hP hD hS => kk H1 locs1 ⟨h.1, hP, hD, hS, h.2.2.2.2.1, h.2.2.2.2.2.1, h.2.2.2.2.2.2⟩)
set_option maxRecDepth 100000 in
set_option maxHeartbeats 4000000 in
theorem nX_ohas (F : CallFix p m c cc nL s0 args Ts own) (h : HW Z (wX Z Q) A s0 H locs s) (hdg : decode cc pc = .ok (.arraylength, 1)) (kk : W p l e R s0 m args below meth c H locs cells slots P (F0 m (pc + 1) ls (.int (4 : Int32) :: rest))) : W p l e R s0 m args below meth c H locs cells slots P (F0 m pc ls (.ref (Q 32) :: rest)) := va_alen F.1 F.2.1 h.1 h.2.1 32 1 rfl rfl (show Int32.ofNat 4 = _ by decide) hdg kk
set_option maxRecDepth 100000 in
set_option maxHeartbeats 4000000 in
theorem lX_ohas (F : CallFix p m c cc nL s0 args Ts own) (h : HW Z (wX Z Q) A s0 H locs s) {i : Int32} (hi : gIn i 4 = true) (hdg : decode cc pc = .ok (.iaload, 1)) (kk : W p l e R s0 m args below meth c H locs cells slots P (F0 m (pc + 1) ls (.int (gM s 32 (ix i)) :: rest))) : W p l e R s0 m args below meth c H locs cells slots P (F0 m pc ls (.int i :: .ref (Q 32) :: rest)) := va_iald F.1 F.2.1 h.1 h.2.1 32 1 rfl rfl (gIn_vp hi) hdg kk
set_option maxRecDepth 100000 in
set_option maxHeartbeats 4000000 in
theorem sX_ohas (F : CallFix p m c cc nL s0 args Ts own) (h : HW Z (wX Z Q) A s0 H locs s) {i : Int32} {x : Int32} (hi : gIn i 4 = true) (hdg : decode cc pc = .ok (.iastore, 1)) (kk : ∀ (H1 : Heap) (locs1 : List Loc), HW Z (wX Z Q) A s0 H1 locs1 (sM s 32 (ix i) x) → W p l e R s0 m args below meth c H1 locs1 cells slots P (F0 m (pc + 1) ls (rest))) : W p l e R s0 m args below meth c H locs cells slots P (F0 m pc ls (.int x :: .int i :: .ref (Q 32) :: rest)) := va_iast F.1 F.2.1 h.1 h.2.1 h.2.2.1 h.2.2.2.1 32 1 rfl rfl (gIn_vp hi) hdg (fun H1 locs1 hP hD hS => kk H1 locs1 ⟨h.1, hP, hD, hS, h.2.2.2.2.1, h.2.2.2.2.2.1, h.2.2.2.2.2.2⟩)
set_option maxRecDepth 100000 in
set_option maxHeartbeats 4000000 in
theorem nX_ogets (F : CallFix p m c cc nL s0 args Ts own) (h : HW Z (wX Z Q) A s0 H locs s) (hdg : decode cc pc = .ok (.arraylength, 1)) (kk : W p l e R s0 m args below meth c H locs cells slots P (F0 m (pc + 1) ls (.int (4 : Int32) :: rest))) : W p l e R s0 m args below meth c H locs cells slots P (F0 m pc ls (.ref (Q 33) :: rest)) := va_alen F.1 F.2.1 h.1 h.2.1 33 1 rfl rfl (show Int32.ofNat 4 = _ by decide) hdg kk
set_option maxRecDepth 100000 in
set_option maxHeartbeats 4000000 in
theorem lX_ogets (F : CallFix p m c cc nL s0 args Ts own) (h : HW Z (wX Z Q) A s0 H locs s) {i : Int32} (hi : gIn i 4 = true) (hdg : decode cc pc = .ok (.iaload, 1)) (kk : W p l e R s0 m args below meth c H locs cells slots P (F0 m (pc + 1) ls (.int (gM s 33 (ix i)) :: rest))) : W p l e R s0 m args below meth c H locs cells slots P (F0 m pc ls (.int i :: .ref (Q 33) :: rest)) := va_iald F.1 F.2.1 h.1 h.2.1 33 1 rfl rfl (gIn_vp hi) hdg kk
set_option maxRecDepth 100000 in
set_option maxHeartbeats 4000000 in
theorem sX_ogets (F : CallFix p m c cc nL s0 args Ts own) (h : HW Z (wX Z Q) A s0 H locs s) {i : Int32} {x : Int32} (hi : gIn i 4 = true) (hdg : decode cc pc = .ok (.iastore, 1)) (kk : ∀ (H1 : Heap) (locs1 : List Loc), HW Z (wX Z Q) A s0 H1 locs1 (sM s 33 (ix i) x) → W p l e R s0 m args below meth c H1 locs1 cells slots P (F0 m (pc + 1) ls (rest))) : W p l e R s0 m args below meth c H locs cells slots P (F0 m pc ls (.int x :: .int i :: .ref (Q 33) :: rest)) := va_iast F.1 F.2.1 h.1 h.2.1 h.2.2.1 h.2.2.2.1 33 1 rfl rfl (gIn_vp hi) hdg (fun H1 locs1 hP hD hS => kk H1 locs1 ⟨h.1, hP, hD, hS, h.2.2.2.2.1, h.2.2.2.2.2.1, h.2.2.2.2.2.2⟩)
set_option maxRecDepth 100000 in
set_option maxHeartbeats 4000000 in
theorem nX_enough (F : CallFix p m c cc nL s0 args Ts own) (h : HW Z (wX Z Q) A s0 H locs s) (hdg : decode cc pc = .ok (.arraylength, 1)) (kk : W p l e R s0 m args below meth c H locs cells slots P (F0 m (pc + 1) ls (.int (4 : Int32) :: rest))) : W p l e R s0 m args below meth c H locs cells slots P (F0 m pc ls (.ref (Q 34) :: rest)) := va_alen F.1 F.2.1 h.1 h.2.1 34 3 rfl rfl (show Int32.ofNat 4 = _ by decide) hdg kk
set_option maxRecDepth 100000 in
set_option maxHeartbeats 4000000 in
theorem lX_enough (F : CallFix p m c cc nL s0 args Ts own) (h : HW Z (wX Z Q) A s0 H locs s) {i : Int32} (hi : gIn i 4 = true) (hdg : decode cc pc = .ok (.baload, 1)) (kk : W p l e R s0 m args below meth c H locs cells slots P (F0 m (pc + 1) ls (.int (gM s 34 (ix i)) :: rest))) : W p l e R s0 m args below meth c H locs cells slots P (F0 m pc ls (.int i :: .ref (Q 34) :: rest)) := va_zald F.1 F.2.1 h.1 h.2.1 34 3 rfl rfl (gIn_vp hi) hdg kk
set_option maxRecDepth 100000 in
set_option maxHeartbeats 4000000 in
theorem sX_enough (F : CallFix p m c cc nL s0 args Ts own) (h : HW Z (wX Z Q) A s0 H locs s) {i : Int32} {x : Int32} (hi : gIn i 4 = true) (hdg : decode cc pc = .ok (.bastore, 1)) (kk : ∀ (H1 : Heap) (locs1 : List Loc), HW Z (wX Z Q) A s0 H1 locs1 (sM s 34 (ix i) (vp_nar .boolean x)) → W p l e R s0 m args below meth c H1 locs1 cells slots P (F0 m (pc + 1) ls (rest))) : W p l e R s0 m args below meth c H locs cells slots P (F0 m pc ls (.int x :: .int i :: .ref (Q 34) :: rest)) := va_zast F.1 F.2.1 h.1 h.2.1 h.2.2.1 h.2.2.2.1 34 3 rfl rfl (gIn_vp hi) hdg (fun H1 locs1 hP hD hS => kk H1 locs1 ⟨h.1, hP, hD, hS, h.2.2.2.2.1, h.2.2.2.2.2.1, h.2.2.2.2.2.2⟩)
set_option maxRecDepth 100000 in
set_option maxHeartbeats 4000000 in
theorem nX_cands (F : CallFix p m c cc nL s0 args Ts own) (h : HW Z (wX Z Q) A s0 H locs s) (hdg : decode cc pc = .ok (.arraylength, 1)) (kk : W p l e R s0 m args below meth c H locs cells slots P (F0 m (pc + 1) ls (.int (40 : Int32) :: rest))) : W p l e R s0 m args below meth c H locs cells slots P (F0 m pc ls (.ref (Q 35) :: rest)) := va_alen F.1 F.2.1 h.1 h.2.1 35 1 rfl rfl (show Int32.ofNat 40 = _ by decide) hdg kk
set_option maxRecDepth 100000 in
set_option maxHeartbeats 4000000 in
theorem lX_cands (F : CallFix p m c cc nL s0 args Ts own) (h : HW Z (wX Z Q) A s0 H locs s) {i : Int32} (hi : gIn i 40 = true) (hdg : decode cc pc = .ok (.iaload, 1)) (kk : W p l e R s0 m args below meth c H locs cells slots P (F0 m (pc + 1) ls (.int (gM s 35 (ix i)) :: rest))) : W p l e R s0 m args below meth c H locs cells slots P (F0 m pc ls (.int i :: .ref (Q 35) :: rest)) := va_iald F.1 F.2.1 h.1 h.2.1 35 1 rfl rfl (gIn_vp hi) hdg kk
set_option maxRecDepth 100000 in
set_option maxHeartbeats 4000000 in
theorem sX_cands (F : CallFix p m c cc nL s0 args Ts own) (h : HW Z (wX Z Q) A s0 H locs s) {i : Int32} {x : Int32} (hi : gIn i 40 = true) (hdg : decode cc pc = .ok (.iastore, 1)) (kk : ∀ (H1 : Heap) (locs1 : List Loc), HW Z (wX Z Q) A s0 H1 locs1 (sM s 35 (ix i) x) → W p l e R s0 m args below meth c H1 locs1 cells slots P (F0 m (pc + 1) ls (rest))) : W p l e R s0 m args below meth c H locs cells slots P (F0 m pc ls (.int x :: .int i :: .ref (Q 35) :: rest)) := va_iast F.1 F.2.1 h.1 h.2.1 h.2.2.1 h.2.2.2.1 35 1 rfl rfl (gIn_vp hi) hdg (fun H1 locs1 hP hD hS => kk H1 locs1 ⟨h.1, hP, hD, hS, h.2.2.2.2.1, h.2.2.2.2.2.1, h.2.2.2.2.2.2⟩)
set_option maxRecDepth 100000 in
set_option maxHeartbeats 4000000 in
theorem nX_cparts (F : CallFix p m c cc nL s0 args Ts own) (h : HW Z (wX Z Q) A s0 H locs s) (hdg : decode cc pc = .ok (.arraylength, 1)) (kk : W p l e R s0 m args below meth c H locs cells slots P (F0 m (pc + 1) ls (.int (40 : Int32) :: rest))) : W p l e R s0 m args below meth c H locs cells slots P (F0 m pc ls (.ref (Q 36) :: rest)) := va_alen F.1 F.2.1 h.1 h.2.1 36 1 rfl rfl (show Int32.ofNat 40 = _ by decide) hdg kk
set_option maxRecDepth 100000 in
set_option maxHeartbeats 4000000 in
theorem lX_cparts (F : CallFix p m c cc nL s0 args Ts own) (h : HW Z (wX Z Q) A s0 H locs s) {i : Int32} (hi : gIn i 40 = true) (hdg : decode cc pc = .ok (.iaload, 1)) (kk : W p l e R s0 m args below meth c H locs cells slots P (F0 m (pc + 1) ls (.int (gM s 36 (ix i)) :: rest))) : W p l e R s0 m args below meth c H locs cells slots P (F0 m pc ls (.int i :: .ref (Q 36) :: rest)) := va_iald F.1 F.2.1 h.1 h.2.1 36 1 rfl rfl (gIn_vp hi) hdg kk
set_option maxRecDepth 100000 in
set_option maxHeartbeats 4000000 in
theorem sX_cparts (F : CallFix p m c cc nL s0 args Ts own) (h : HW Z (wX Z Q) A s0 H locs s) {i : Int32} {x : Int32} (hi : gIn i 40 = true) (hdg : decode cc pc = .ok (.iastore, 1)) (kk : ∀ (H1 : Heap) (locs1 : List Loc), HW Z (wX Z Q) A s0 H1 locs1 (sM s 36 (ix i) x) → W p l e R s0 m args below meth c H1 locs1 cells slots P (F0 m (pc + 1) ls (rest))) : W p l e R s0 m args below meth c H locs cells slots P (F0 m pc ls (.int x :: .int i :: .ref (Q 36) :: rest)) := va_iast F.1 F.2.1 h.1 h.2.1 h.2.2.1 h.2.2.2.1 36 1 rfl rfl (gIn_vp hi) hdg (fun H1 locs1 hP hD hS => kk H1 locs1 ⟨h.1, hP, hD, hS, h.2.2.2.2.1, h.2.2.2.2.2.1, h.2.2.2.2.2.2⟩)
set_option maxRecDepth 100000 in
set_option maxHeartbeats 4000000 in
theorem nX_oyes (F : CallFix p m c cc nL s0 args Ts own) (h : HW Z (wX Z Q) A s0 H locs s) (hdg : decode cc pc = .ok (.arraylength, 1)) (kk : W p l e R s0 m args below meth c H locs cells slots P (F0 m (pc + 1) ls (.int (16 : Int32) :: rest))) : W p l e R s0 m args below meth c H locs cells slots P (F0 m pc ls (.ref (Q 37) :: rest)) := va_alen F.1 F.2.1 h.1 h.2.1 37 1 rfl rfl (show Int32.ofNat 16 = _ by decide) hdg kk
set_option maxRecDepth 100000 in
set_option maxHeartbeats 4000000 in
theorem lX_oyes (F : CallFix p m c cc nL s0 args Ts own) (h : HW Z (wX Z Q) A s0 H locs s) {i : Int32} (hi : gIn i 16 = true) (hdg : decode cc pc = .ok (.iaload, 1)) (kk : W p l e R s0 m args below meth c H locs cells slots P (F0 m (pc + 1) ls (.int (gM s 37 (ix i)) :: rest))) : W p l e R s0 m args below meth c H locs cells slots P (F0 m pc ls (.int i :: .ref (Q 37) :: rest)) := va_iald F.1 F.2.1 h.1 h.2.1 37 1 rfl rfl (gIn_vp hi) hdg kk
set_option maxRecDepth 100000 in
set_option maxHeartbeats 4000000 in
theorem sX_oyes (F : CallFix p m c cc nL s0 args Ts own) (h : HW Z (wX Z Q) A s0 H locs s) {i : Int32} {x : Int32} (hi : gIn i 16 = true) (hdg : decode cc pc = .ok (.iastore, 1)) (kk : ∀ (H1 : Heap) (locs1 : List Loc), HW Z (wX Z Q) A s0 H1 locs1 (sM s 37 (ix i) x) → W p l e R s0 m args below meth c H1 locs1 cells slots P (F0 m (pc + 1) ls (rest))) : W p l e R s0 m args below meth c H locs cells slots P (F0 m pc ls (.int x :: .int i :: .ref (Q 37) :: rest)) := va_iast F.1 F.2.1 h.1 h.2.1 h.2.2.1 h.2.2.2.1 37 1 rfl rfl (gIn_vp hi) hdg (fun H1 locs1 hP hD hS => kk H1 locs1 ⟨h.1, hP, hD, hS, h.2.2.2.2.1, h.2.2.2.2.2.1, h.2.2.2.2.2.2⟩)
set_option maxRecDepth 100000 in
set_option maxHeartbeats 4000000 in
theorem nX_rs {k : Nat} (hk : k < 2) (F : CallFix p m c cc nL s0 args Ts own) (h : HW Z (wX Z Q) A s0 H locs s) (hdg : decode cc pc = .ok (.arraylength, 1)) (kk : W p l e R s0 m args below meth c H locs cells slots P (F0 m (pc + 1) ls (.int (42 : Int32) :: rest))) : W p l e R s0 m args below meth c H locs cells slots P (F0 m pc ls (.ref (Q (38 + k)) :: rest)) := by
  rcases (show k = 0 ∨ k = 1 by omega) with rfl | rfl
  · exact va_alen F.1 F.2.1 h.1 h.2.1 38 2 rfl rfl (show Int32.ofNat 42 = _ by decide) hdg kk
  · exact va_alen F.1 F.2.1 h.1 h.2.1 39 2 rfl rfl (show Int32.ofNat 42 = _ by decide) hdg kk
set_option maxRecDepth 100000 in
set_option maxHeartbeats 4000000 in
theorem lX_rs {k : Nat} (hk : k < 2) (F : CallFix p m c cc nL s0 args Ts own) (h : HW Z (wX Z Q) A s0 H locs s) {i : Int32} (hi : gIn i 42 = true) (hdg : decode cc pc = .ok (.laload, 1)) (kk : W p l e R s0 m args below meth c H locs cells slots P (F0 m (pc + 1) ls (.long (gJ s (38 + k) (ix i)) :: rest))) : W p l e R s0 m args below meth c H locs cells slots P (F0 m pc ls (.int i :: .ref (Q (38 + k)) :: rest)) := by
  rcases (show k = 0 ∨ k = 1 by omega) with rfl | rfl
  · exact va_lald F.1 F.2.1 h.1 h.2.1 38 2 rfl rfl (gIn_vp hi) hdg kk
  · exact va_lald F.1 F.2.1 h.1 h.2.1 39 2 rfl rfl (gIn_vp hi) hdg kk
set_option maxRecDepth 100000 in
set_option maxHeartbeats 4000000 in
theorem sX_rs {k : Nat} (hk : k < 2) (F : CallFix p m c cc nL s0 args Ts own) (h : HW Z (wX Z Q) A s0 H locs s) {i : Int32} {x : Int64} (hi : gIn i 42 = true) (hdg : decode cc pc = .ok (.lastore, 1)) (kk : ∀ (H1 : Heap) (locs1 : List Loc), HW Z (wX Z Q) A s0 H1 locs1 (sJ s (38 + k) (ix i) x) → W p l e R s0 m args below meth c H1 locs1 cells slots P (F0 m (pc + 1) ls (rest))) : W p l e R s0 m args below meth c H locs cells slots P (F0 m pc ls (.long x :: .int i :: .ref (Q (38 + k)) :: rest)) := by
  rcases (show k = 0 ∨ k = 1 by omega) with rfl | rfl
  · exact va_last F.1 F.2.1 h.1 h.2.1 h.2.2.1 h.2.2.2.1 38 2 rfl rfl (gIn_vp hi) hdg (fun H1 locs1 hP hD hS => kk H1 locs1 ⟨h.1, hP, hD, hS, h.2.2.2.2.1, h.2.2.2.2.2.1, h.2.2.2.2.2.2⟩)
  · exact va_last F.1 F.2.1 h.1 h.2.1 h.2.2.1 h.2.2.2.1 39 2 rfl rfl (gIn_vp hi) hdg (fun H1 locs1 hP hD hS => kk H1 locs1 ⟨h.1, hP, hD, hS, h.2.2.2.2.1, h.2.2.2.2.2.1, h.2.2.2.2.2.2⟩)
set_option maxRecDepth 100000 in
set_option maxHeartbeats 4000000 in
theorem rcX_Tally {k : Nat} (hk : k < 2) (h : HW Z (wX Z Q) A s0 H locs s) : ∃ cell : Cell, H[(Q (40 + 4 * k))]? = some cell ∧ cell.vm.isStatics = false ∧ s0.vm.findClass RX7 = some cell.cls := by
  rcases (show k = 0 ∨ k = 1 by omega) with rfl | rfl
  · exact va_recv h.1 h.2.1 (ci := 7) (q0 := 40) rfl rfl
  · exact va_recv h.1 h.2.1 (ci := 7) (q0 := 44) rfl rfl
set_option maxRecDepth 100000 in
set_option maxHeartbeats 4000000 in
theorem gX_Tally_keys {k : Nat} (hk : k < 2) (F : CallFix p m c cc nL s0 args Ts own) (h : HW Z (wX Z Q) A s0 H locs s) (hin : ∀ w ∈ wsX70, w ∈ Ts) (hlink : (Cond.fieldLink own index "ElectionHouse$Tally" "keys" "[I").before args s0 = true) (hdg : decode cc pc = .ok (.getfield index, 3)) (kk : W p l e R s0 m args below meth c H locs cells slots P (F0 m (pc + 3) ls (.ref (Q (41 + 4 * k)) :: rest))) : W p l e R s0 m args below meth c H locs cells slots P (F0 m pc ls (.ref (Q (40 + 4 * k)) :: rest)) := by
  rcases (show k = 0 ∨ k = 1 by omega) with rfl | rfl
  · exact gen_get (C := RX7) (T := TX7) (N := 4) F h 40 rfl rfl 0 (by decide) hin hlink rfl hdg kk
  · exact gen_get (C := RX7) (T := TX7) (N := 4) F h 44 rfl rfl 0 (by decide) hin hlink rfl hdg kk
set_option maxRecDepth 100000 in
set_option maxHeartbeats 4000000 in
theorem gX_Tally_ways {k : Nat} (hk : k < 2) (F : CallFix p m c cc nL s0 args Ts own) (h : HW Z (wX Z Q) A s0 H locs s) (hin : ∀ w ∈ wsX70, w ∈ Ts) (hlink : (Cond.fieldLink own index "ElectionHouse$Tally" "ways" "[J").before args s0 = true) (hdg : decode cc pc = .ok (.getfield index, 3)) (kk : W p l e R s0 m args below meth c H locs cells slots P (F0 m (pc + 3) ls (.ref (Q (42 + 4 * k)) :: rest))) : W p l e R s0 m args below meth c H locs cells slots P (F0 m pc ls (.ref (Q (40 + 4 * k)) :: rest)) := by
  rcases (show k = 0 ∨ k = 1 by omega) with rfl | rfl
  · exact gen_get (C := RX7) (T := TX7) (N := 4) F h 40 rfl rfl 1 (by decide) hin hlink rfl hdg kk
  · exact gen_get (C := RX7) (T := TX7) (N := 4) F h 44 rfl rfl 1 (by decide) hin hlink rfl hdg kk
set_option maxRecDepth 100000 in
set_option maxHeartbeats 4000000 in
theorem gX_Tally_slots {k : Nat} (hk : k < 2) (F : CallFix p m c cc nL s0 args Ts own) (h : HW Z (wX Z Q) A s0 H locs s) (hin : ∀ w ∈ wsX70, w ∈ Ts) (hlink : (Cond.fieldLink own index "ElectionHouse$Tally" "slots" "[I").before args s0 = true) (hdg : decode cc pc = .ok (.getfield index, 3)) (kk : W p l e R s0 m args below meth c H locs cells slots P (F0 m (pc + 3) ls (.ref (Q (43 + 4 * k)) :: rest))) : W p l e R s0 m args below meth c H locs cells slots P (F0 m pc ls (.ref (Q (40 + 4 * k)) :: rest)) := by
  rcases (show k = 0 ∨ k = 1 by omega) with rfl | rfl
  · exact gen_get (C := RX7) (T := TX7) (N := 4) F h 40 rfl rfl 2 (by decide) hin hlink rfl hdg kk
  · exact gen_get (C := RX7) (T := TX7) (N := 4) F h 44 rfl rfl 2 (by decide) hin hlink rfl hdg kk
set_option maxRecDepth 100000 in
set_option maxHeartbeats 4000000 in
theorem gX_Tally_length {k : Nat} (hk : k < 2) (F : CallFix p m c cc nL s0 args Ts own) (h : HW Z (wX Z Q) A s0 H locs s) (hin : ∀ w ∈ wsX70, w ∈ Ts) (hlink : (Cond.fieldLink own index "ElectionHouse$Tally" "length" "I").before args s0 = true) (hdg : decode cc pc = .ok (.getfield index, 3)) (kk : W p l e R s0 m args below meth c H locs cells slots P (F0 m (pc + 3) ls (.int (gM s (40 + 4 * k) 3) :: rest))) : W p l e R s0 m args below meth c H locs cells slots P (F0 m pc ls (.ref (Q (40 + 4 * k)) :: rest)) := by
  rcases (show k = 0 ∨ k = 1 by omega) with rfl | rfl
  · exact gen_get (C := RX7) (T := TX7) (N := 4) F h 40 rfl rfl 3 (by decide) hin hlink rfl hdg kk
  · exact gen_get (C := RX7) (T := TX7) (N := 4) F h 44 rfl rfl 3 (by decide) hin hlink rfl hdg kk
set_option maxRecDepth 100000 in
set_option maxHeartbeats 4000000 in
theorem pX_Tally_length {k : Nat} (hk : k < 2) {x : Int32} (F : CallFix p m c cc nL s0 args Ts own) (h : HW Z (wX Z Q) A s0 H locs s) (hin : ∀ w ∈ wsX70, w ∈ Ts) (hlink : (Cond.fieldLink own index "ElectionHouse$Tally" "length" "I").before args s0 = true) (hdg : decode cc pc = .ok (.putfield index, 3)) (kk : ∀ (H1 : Heap) (locs1 : List Loc), HW Z (wX Z Q) A s0 H1 locs1 (sM s (40 + 4 * k) 3 x) → W p l e R s0 m args below meth c H1 locs1 cells slots P (F0 m (pc + 3) ls (rest))) : W p l e R s0 m args below meth c H locs cells slots P (F0 m pc ls (.int x :: .ref (Q (40 + 4 * k)) :: rest)) := by
  rcases (show k = 0 ∨ k = 1 by omega) with rfl | rfl
  · exact gen_put (s' := sM s 40 3 x) (ty := .int) (C := RX7) (T := TX7) (N := 4) F h 40 rfl rfl 3 (by decide) hin tyX7 tyX7_ok nmX7 hlink rfl (by decide +kernel) rfl rfl (Nat.le_of_ble_eq_true rfl) rfl h.2.2.2.2.2.1 hdg kk
  · exact gen_put (s' := sM s 44 3 x) (ty := .int) (C := RX7) (T := TX7) (N := 4) F h 44 rfl rfl 3 (by decide) hin tyX7 tyX7_ok nmX7 hlink rfl (by decide +kernel) rfl rfl (Nat.le_of_ble_eq_true rfl) rfl h.2.2.2.2.2.1 hdg kk
set_option maxRecDepth 100000 in
set_option maxHeartbeats 4000000 in
theorem nX_tkeys {k : Nat} (hk : k < 2) (F : CallFix p m c cc nL s0 args Ts own) (h : HW Z (wX Z Q) A s0 H locs s) (hdg : decode cc pc = .ok (.arraylength, 1)) (kk : W p l e R s0 m args below meth c H locs cells slots P (F0 m (pc + 1) ls (.int (600 : Int32) :: rest))) : W p l e R s0 m args below meth c H locs cells slots P (F0 m pc ls (.ref (Q (41 + 4 * k)) :: rest)) := by
  rcases (show k = 0 ∨ k = 1 by omega) with rfl | rfl
  · exact va_alen F.1 F.2.1 h.1 h.2.1 41 1 rfl rfl (show Int32.ofNat 600 = _ by decide) hdg kk
  · exact va_alen F.1 F.2.1 h.1 h.2.1 45 1 rfl rfl (show Int32.ofNat 600 = _ by decide) hdg kk
set_option maxRecDepth 100000 in
set_option maxHeartbeats 4000000 in
theorem lX_tkeys {k : Nat} (hk : k < 2) (F : CallFix p m c cc nL s0 args Ts own) (h : HW Z (wX Z Q) A s0 H locs s) {i : Int32} (hi : gIn i 600 = true) (hdg : decode cc pc = .ok (.iaload, 1)) (kk : W p l e R s0 m args below meth c H locs cells slots P (F0 m (pc + 1) ls (.int (gM s (41 + 4 * k) (ix i)) :: rest))) : W p l e R s0 m args below meth c H locs cells slots P (F0 m pc ls (.int i :: .ref (Q (41 + 4 * k)) :: rest)) := by
  rcases (show k = 0 ∨ k = 1 by omega) with rfl | rfl
  · exact va_iald F.1 F.2.1 h.1 h.2.1 41 1 rfl rfl (gIn_vp hi) hdg kk
  · exact va_iald F.1 F.2.1 h.1 h.2.1 45 1 rfl rfl (gIn_vp hi) hdg kk
set_option maxRecDepth 100000 in
set_option maxHeartbeats 4000000 in
theorem sX_tkeys {k : Nat} (hk : k < 2) (F : CallFix p m c cc nL s0 args Ts own) (h : HW Z (wX Z Q) A s0 H locs s) {i : Int32} {x : Int32} (hi : gIn i 600 = true) (hdg : decode cc pc = .ok (.iastore, 1)) (kk : ∀ (H1 : Heap) (locs1 : List Loc), HW Z (wX Z Q) A s0 H1 locs1 (sM s (41 + 4 * k) (ix i) x) → W p l e R s0 m args below meth c H1 locs1 cells slots P (F0 m (pc + 1) ls (rest))) : W p l e R s0 m args below meth c H locs cells slots P (F0 m pc ls (.int x :: .int i :: .ref (Q (41 + 4 * k)) :: rest)) := by
  rcases (show k = 0 ∨ k = 1 by omega) with rfl | rfl
  · exact va_iast F.1 F.2.1 h.1 h.2.1 h.2.2.1 h.2.2.2.1 41 1 rfl rfl (gIn_vp hi) hdg (fun H1 locs1 hP hD hS => kk H1 locs1 ⟨h.1, hP, hD, hS, h.2.2.2.2.1, h.2.2.2.2.2.1, h.2.2.2.2.2.2⟩)
  · exact va_iast F.1 F.2.1 h.1 h.2.1 h.2.2.1 h.2.2.2.1 45 1 rfl rfl (gIn_vp hi) hdg (fun H1 locs1 hP hD hS => kk H1 locs1 ⟨h.1, hP, hD, hS, h.2.2.2.2.1, h.2.2.2.2.2.1, h.2.2.2.2.2.2⟩)
set_option maxRecDepth 100000 in
set_option maxHeartbeats 4000000 in
theorem nX_tways {k : Nat} (hk : k < 2) (F : CallFix p m c cc nL s0 args Ts own) (h : HW Z (wX Z Q) A s0 H locs s) (hdg : decode cc pc = .ok (.arraylength, 1)) (kk : W p l e R s0 m args below meth c H locs cells slots P (F0 m (pc + 1) ls (.int (600 : Int32) :: rest))) : W p l e R s0 m args below meth c H locs cells slots P (F0 m pc ls (.ref (Q (42 + 4 * k)) :: rest)) := by
  rcases (show k = 0 ∨ k = 1 by omega) with rfl | rfl
  · exact va_alen F.1 F.2.1 h.1 h.2.1 42 2 rfl rfl (show Int32.ofNat 600 = _ by decide) hdg kk
  · exact va_alen F.1 F.2.1 h.1 h.2.1 46 2 rfl rfl (show Int32.ofNat 600 = _ by decide) hdg kk
set_option maxRecDepth 100000 in
set_option maxHeartbeats 4000000 in
theorem lX_tways {k : Nat} (hk : k < 2) (F : CallFix p m c cc nL s0 args Ts own) (h : HW Z (wX Z Q) A s0 H locs s) {i : Int32} (hi : gIn i 600 = true) (hdg : decode cc pc = .ok (.laload, 1)) (kk : W p l e R s0 m args below meth c H locs cells slots P (F0 m (pc + 1) ls (.long (gJ s (42 + 4 * k) (ix i)) :: rest))) : W p l e R s0 m args below meth c H locs cells slots P (F0 m pc ls (.int i :: .ref (Q (42 + 4 * k)) :: rest)) := by
  rcases (show k = 0 ∨ k = 1 by omega) with rfl | rfl
  · exact va_lald F.1 F.2.1 h.1 h.2.1 42 2 rfl rfl (gIn_vp hi) hdg kk
  · exact va_lald F.1 F.2.1 h.1 h.2.1 46 2 rfl rfl (gIn_vp hi) hdg kk
set_option maxRecDepth 100000 in
set_option maxHeartbeats 4000000 in
theorem sX_tways {k : Nat} (hk : k < 2) (F : CallFix p m c cc nL s0 args Ts own) (h : HW Z (wX Z Q) A s0 H locs s) {i : Int32} {x : Int64} (hi : gIn i 600 = true) (hdg : decode cc pc = .ok (.lastore, 1)) (kk : ∀ (H1 : Heap) (locs1 : List Loc), HW Z (wX Z Q) A s0 H1 locs1 (sJ s (42 + 4 * k) (ix i) x) → W p l e R s0 m args below meth c H1 locs1 cells slots P (F0 m (pc + 1) ls (rest))) : W p l e R s0 m args below meth c H locs cells slots P (F0 m pc ls (.long x :: .int i :: .ref (Q (42 + 4 * k)) :: rest)) := by
  rcases (show k = 0 ∨ k = 1 by omega) with rfl | rfl
  · exact va_last F.1 F.2.1 h.1 h.2.1 h.2.2.1 h.2.2.2.1 42 2 rfl rfl (gIn_vp hi) hdg (fun H1 locs1 hP hD hS => kk H1 locs1 ⟨h.1, hP, hD, hS, h.2.2.2.2.1, h.2.2.2.2.2.1, h.2.2.2.2.2.2⟩)
  · exact va_last F.1 F.2.1 h.1 h.2.1 h.2.2.1 h.2.2.2.1 46 2 rfl rfl (gIn_vp hi) hdg (fun H1 locs1 hP hD hS => kk H1 locs1 ⟨h.1, hP, hD, hS, h.2.2.2.2.1, h.2.2.2.2.2.1, h.2.2.2.2.2.2⟩)
set_option maxRecDepth 100000 in
set_option maxHeartbeats 4000000 in
theorem nX_tslots {k : Nat} (hk : k < 2) (F : CallFix p m c cc nL s0 args Ts own) (h : HW Z (wX Z Q) A s0 H locs s) (hdg : decode cc pc = .ok (.arraylength, 1)) (kk : W p l e R s0 m args below meth c H locs cells slots P (F0 m (pc + 1) ls (.int (1024 : Int32) :: rest))) : W p l e R s0 m args below meth c H locs cells slots P (F0 m pc ls (.ref (Q (43 + 4 * k)) :: rest)) := by
  rcases (show k = 0 ∨ k = 1 by omega) with rfl | rfl
  · exact va_alen F.1 F.2.1 h.1 h.2.1 43 1 rfl rfl (show Int32.ofNat 1024 = _ by decide) hdg kk
  · exact va_alen F.1 F.2.1 h.1 h.2.1 47 1 rfl rfl (show Int32.ofNat 1024 = _ by decide) hdg kk
set_option maxRecDepth 100000 in
set_option maxHeartbeats 4000000 in
theorem lX_tslots {k : Nat} (hk : k < 2) (F : CallFix p m c cc nL s0 args Ts own) (h : HW Z (wX Z Q) A s0 H locs s) {i : Int32} (hi : gIn i 1024 = true) (hdg : decode cc pc = .ok (.iaload, 1)) (kk : W p l e R s0 m args below meth c H locs cells slots P (F0 m (pc + 1) ls (.int (gM s (43 + 4 * k) (ix i)) :: rest))) : W p l e R s0 m args below meth c H locs cells slots P (F0 m pc ls (.int i :: .ref (Q (43 + 4 * k)) :: rest)) := by
  rcases (show k = 0 ∨ k = 1 by omega) with rfl | rfl
  · exact va_iald F.1 F.2.1 h.1 h.2.1 43 1 rfl rfl (gIn_vp hi) hdg kk
  · exact va_iald F.1 F.2.1 h.1 h.2.1 47 1 rfl rfl (gIn_vp hi) hdg kk
set_option maxRecDepth 100000 in
set_option maxHeartbeats 4000000 in
theorem sX_tslots {k : Nat} (hk : k < 2) (F : CallFix p m c cc nL s0 args Ts own) (h : HW Z (wX Z Q) A s0 H locs s) {i : Int32} {x : Int32} (hi : gIn i 1024 = true) (hdg : decode cc pc = .ok (.iastore, 1)) (kk : ∀ (H1 : Heap) (locs1 : List Loc), HW Z (wX Z Q) A s0 H1 locs1 (sM s (43 + 4 * k) (ix i) x) → W p l e R s0 m args below meth c H1 locs1 cells slots P (F0 m (pc + 1) ls (rest))) : W p l e R s0 m args below meth c H locs cells slots P (F0 m pc ls (.int x :: .int i :: .ref (Q (43 + 4 * k)) :: rest)) := by
  rcases (show k = 0 ∨ k = 1 by omega) with rfl | rfl
  · exact va_iast F.1 F.2.1 h.1 h.2.1 h.2.2.1 h.2.2.2.1 43 1 rfl rfl (gIn_vp hi) hdg (fun H1 locs1 hP hD hS => kk H1 locs1 ⟨h.1, hP, hD, hS, h.2.2.2.2.1, h.2.2.2.2.2.1, h.2.2.2.2.2.2⟩)
  · exact va_iast F.1 F.2.1 h.1 h.2.1 h.2.2.1 h.2.2.2.1 47 1 rfl rfl (gIn_vp hi) hdg (fun H1 locs1 hP hD hS => kk H1 locs1 ⟨h.1, hP, hD, hS, h.2.2.2.2.1, h.2.2.2.2.2.1, h.2.2.2.2.2.2⟩)
set_option maxRecDepth 100000 in
set_option maxHeartbeats 4000000 in
theorem nX_rows {k : Nat} (hk : k < 13) (F : CallFix p m c cc nL s0 args Ts own) (h : HW Z (wX Z Q) A s0 H locs s) (hdg : decode cc pc = .ok (.arraylength, 1)) (kk : W p l e R s0 m args below meth c H locs cells slots P (F0 m (pc + 1) ls (.int (40 : Int32) :: rest))) : W p l e R s0 m args below meth c H locs cells slots P (F0 m pc ls (.ref (Q (48 + k)) :: rest)) := by
  rcases (show k = 0 ∨ k = 1 ∨ k = 2 ∨ k = 3 ∨ k = 4 ∨ k = 5 ∨ k = 6 ∨ k = 7 ∨ k = 8 ∨ k = 9 ∨ k = 10 ∨ k = 11 ∨ k = 12 by omega) with rfl | rfl | rfl | rfl | rfl | rfl | rfl | rfl | rfl | rfl | rfl | rfl | rfl
  · exact va_alen F.1 F.2.1 h.1 h.2.1 48 1 rfl rfl (show Int32.ofNat 40 = _ by decide) hdg kk
  · exact va_alen F.1 F.2.1 h.1 h.2.1 49 1 rfl rfl (show Int32.ofNat 40 = _ by decide) hdg kk
  · exact va_alen F.1 F.2.1 h.1 h.2.1 50 1 rfl rfl (show Int32.ofNat 40 = _ by decide) hdg kk
  · exact va_alen F.1 F.2.1 h.1 h.2.1 51 1 rfl rfl (show Int32.ofNat 40 = _ by decide) hdg kk
  · exact va_alen F.1 F.2.1 h.1 h.2.1 52 1 rfl rfl (show Int32.ofNat 40 = _ by decide) hdg kk
  · exact va_alen F.1 F.2.1 h.1 h.2.1 53 1 rfl rfl (show Int32.ofNat 40 = _ by decide) hdg kk
  · exact va_alen F.1 F.2.1 h.1 h.2.1 54 1 rfl rfl (show Int32.ofNat 40 = _ by decide) hdg kk
  · exact va_alen F.1 F.2.1 h.1 h.2.1 55 1 rfl rfl (show Int32.ofNat 40 = _ by decide) hdg kk
  · exact va_alen F.1 F.2.1 h.1 h.2.1 56 1 rfl rfl (show Int32.ofNat 40 = _ by decide) hdg kk
  · exact va_alen F.1 F.2.1 h.1 h.2.1 57 1 rfl rfl (show Int32.ofNat 40 = _ by decide) hdg kk
  · exact va_alen F.1 F.2.1 h.1 h.2.1 58 1 rfl rfl (show Int32.ofNat 40 = _ by decide) hdg kk
  · exact va_alen F.1 F.2.1 h.1 h.2.1 59 1 rfl rfl (show Int32.ofNat 40 = _ by decide) hdg kk
  · exact va_alen F.1 F.2.1 h.1 h.2.1 60 1 rfl rfl (show Int32.ofNat 40 = _ by decide) hdg kk
set_option maxRecDepth 100000 in
set_option maxHeartbeats 4000000 in
theorem lX_rows {k : Nat} (hk : k < 13) (F : CallFix p m c cc nL s0 args Ts own) (h : HW Z (wX Z Q) A s0 H locs s) {i : Int32} (hi : gIn i 40 = true) (hdg : decode cc pc = .ok (.iaload, 1)) (kk : W p l e R s0 m args below meth c H locs cells slots P (F0 m (pc + 1) ls (.int (gM s (48 + k) (ix i)) :: rest))) : W p l e R s0 m args below meth c H locs cells slots P (F0 m pc ls (.int i :: .ref (Q (48 + k)) :: rest)) := by
  rcases (show k = 0 ∨ k = 1 ∨ k = 2 ∨ k = 3 ∨ k = 4 ∨ k = 5 ∨ k = 6 ∨ k = 7 ∨ k = 8 ∨ k = 9 ∨ k = 10 ∨ k = 11 ∨ k = 12 by omega) with rfl | rfl | rfl | rfl | rfl | rfl | rfl | rfl | rfl | rfl | rfl | rfl | rfl
  · exact va_iald F.1 F.2.1 h.1 h.2.1 48 1 rfl rfl (gIn_vp hi) hdg kk
  · exact va_iald F.1 F.2.1 h.1 h.2.1 49 1 rfl rfl (gIn_vp hi) hdg kk
  · exact va_iald F.1 F.2.1 h.1 h.2.1 50 1 rfl rfl (gIn_vp hi) hdg kk
  · exact va_iald F.1 F.2.1 h.1 h.2.1 51 1 rfl rfl (gIn_vp hi) hdg kk
  · exact va_iald F.1 F.2.1 h.1 h.2.1 52 1 rfl rfl (gIn_vp hi) hdg kk
  · exact va_iald F.1 F.2.1 h.1 h.2.1 53 1 rfl rfl (gIn_vp hi) hdg kk
  · exact va_iald F.1 F.2.1 h.1 h.2.1 54 1 rfl rfl (gIn_vp hi) hdg kk
  · exact va_iald F.1 F.2.1 h.1 h.2.1 55 1 rfl rfl (gIn_vp hi) hdg kk
  · exact va_iald F.1 F.2.1 h.1 h.2.1 56 1 rfl rfl (gIn_vp hi) hdg kk
  · exact va_iald F.1 F.2.1 h.1 h.2.1 57 1 rfl rfl (gIn_vp hi) hdg kk
  · exact va_iald F.1 F.2.1 h.1 h.2.1 58 1 rfl rfl (gIn_vp hi) hdg kk
  · exact va_iald F.1 F.2.1 h.1 h.2.1 59 1 rfl rfl (gIn_vp hi) hdg kk
  · exact va_iald F.1 F.2.1 h.1 h.2.1 60 1 rfl rfl (gIn_vp hi) hdg kk
set_option maxRecDepth 100000 in
set_option maxHeartbeats 4000000 in
theorem sX_rows {k : Nat} (hk : k < 13) (F : CallFix p m c cc nL s0 args Ts own) (h : HW Z (wX Z Q) A s0 H locs s) {i : Int32} {x : Int32} (hi : gIn i 40 = true) (hdg : decode cc pc = .ok (.iastore, 1)) (kk : ∀ (H1 : Heap) (locs1 : List Loc), HW Z (wX Z Q) A s0 H1 locs1 (sM s (48 + k) (ix i) x) → W p l e R s0 m args below meth c H1 locs1 cells slots P (F0 m (pc + 1) ls (rest))) : W p l e R s0 m args below meth c H locs cells slots P (F0 m pc ls (.int x :: .int i :: .ref (Q (48 + k)) :: rest)) := by
  rcases (show k = 0 ∨ k = 1 ∨ k = 2 ∨ k = 3 ∨ k = 4 ∨ k = 5 ∨ k = 6 ∨ k = 7 ∨ k = 8 ∨ k = 9 ∨ k = 10 ∨ k = 11 ∨ k = 12 by omega) with rfl | rfl | rfl | rfl | rfl | rfl | rfl | rfl | rfl | rfl | rfl | rfl | rfl
  · exact va_iast F.1 F.2.1 h.1 h.2.1 h.2.2.1 h.2.2.2.1 48 1 rfl rfl (gIn_vp hi) hdg (fun H1 locs1 hP hD hS => kk H1 locs1 ⟨h.1, hP, hD, hS, h.2.2.2.2.1, h.2.2.2.2.2.1, h.2.2.2.2.2.2⟩)
  · exact va_iast F.1 F.2.1 h.1 h.2.1 h.2.2.1 h.2.2.2.1 49 1 rfl rfl (gIn_vp hi) hdg (fun H1 locs1 hP hD hS => kk H1 locs1 ⟨h.1, hP, hD, hS, h.2.2.2.2.1, h.2.2.2.2.2.1, h.2.2.2.2.2.2⟩)
  · exact va_iast F.1 F.2.1 h.1 h.2.1 h.2.2.1 h.2.2.2.1 50 1 rfl rfl (gIn_vp hi) hdg (fun H1 locs1 hP hD hS => kk H1 locs1 ⟨h.1, hP, hD, hS, h.2.2.2.2.1, h.2.2.2.2.2.1, h.2.2.2.2.2.2⟩)
  · exact va_iast F.1 F.2.1 h.1 h.2.1 h.2.2.1 h.2.2.2.1 51 1 rfl rfl (gIn_vp hi) hdg (fun H1 locs1 hP hD hS => kk H1 locs1 ⟨h.1, hP, hD, hS, h.2.2.2.2.1, h.2.2.2.2.2.1, h.2.2.2.2.2.2⟩)
  · exact va_iast F.1 F.2.1 h.1 h.2.1 h.2.2.1 h.2.2.2.1 52 1 rfl rfl (gIn_vp hi) hdg (fun H1 locs1 hP hD hS => kk H1 locs1 ⟨h.1, hP, hD, hS, h.2.2.2.2.1, h.2.2.2.2.2.1, h.2.2.2.2.2.2⟩)
  · exact va_iast F.1 F.2.1 h.1 h.2.1 h.2.2.1 h.2.2.2.1 53 1 rfl rfl (gIn_vp hi) hdg (fun H1 locs1 hP hD hS => kk H1 locs1 ⟨h.1, hP, hD, hS, h.2.2.2.2.1, h.2.2.2.2.2.1, h.2.2.2.2.2.2⟩)
  · exact va_iast F.1 F.2.1 h.1 h.2.1 h.2.2.1 h.2.2.2.1 54 1 rfl rfl (gIn_vp hi) hdg (fun H1 locs1 hP hD hS => kk H1 locs1 ⟨h.1, hP, hD, hS, h.2.2.2.2.1, h.2.2.2.2.2.1, h.2.2.2.2.2.2⟩)
  · exact va_iast F.1 F.2.1 h.1 h.2.1 h.2.2.1 h.2.2.2.1 55 1 rfl rfl (gIn_vp hi) hdg (fun H1 locs1 hP hD hS => kk H1 locs1 ⟨h.1, hP, hD, hS, h.2.2.2.2.1, h.2.2.2.2.2.1, h.2.2.2.2.2.2⟩)
  · exact va_iast F.1 F.2.1 h.1 h.2.1 h.2.2.1 h.2.2.2.1 56 1 rfl rfl (gIn_vp hi) hdg (fun H1 locs1 hP hD hS => kk H1 locs1 ⟨h.1, hP, hD, hS, h.2.2.2.2.1, h.2.2.2.2.2.1, h.2.2.2.2.2.2⟩)
  · exact va_iast F.1 F.2.1 h.1 h.2.1 h.2.2.1 h.2.2.2.1 57 1 rfl rfl (gIn_vp hi) hdg (fun H1 locs1 hP hD hS => kk H1 locs1 ⟨h.1, hP, hD, hS, h.2.2.2.2.1, h.2.2.2.2.2.1, h.2.2.2.2.2.2⟩)
  · exact va_iast F.1 F.2.1 h.1 h.2.1 h.2.2.1 h.2.2.2.1 58 1 rfl rfl (gIn_vp hi) hdg (fun H1 locs1 hP hD hS => kk H1 locs1 ⟨h.1, hP, hD, hS, h.2.2.2.2.1, h.2.2.2.2.2.1, h.2.2.2.2.2.2⟩)
  · exact va_iast F.1 F.2.1 h.1 h.2.1 h.2.2.1 h.2.2.2.1 59 1 rfl rfl (gIn_vp hi) hdg (fun H1 locs1 hP hD hS => kk H1 locs1 ⟨h.1, hP, hD, hS, h.2.2.2.2.1, h.2.2.2.2.2.1, h.2.2.2.2.2.2⟩)
  · exact va_iast F.1 F.2.1 h.1 h.2.1 h.2.2.1 h.2.2.2.1 60 1 rfl rfl (gIn_vp hi) hdg (fun H1 locs1 hP hD hS => kk H1 locs1 ⟨h.1, hP, hD, hS, h.2.2.2.2.1, h.2.2.2.2.2.1, h.2.2.2.2.2.2⟩)
set_option maxRecDepth 100000 in
set_option maxHeartbeats 4000000 in
theorem rowAt {Z : ZT} {Q : Nat → Nat} (s : XS) {j : Nat} (hj : j < 13) : (wX Z Q s)[48 + j]? = some (Q (48 + j), .inl (Z.2.1 1, 40, .inl (gM s (48 + j)))) := by
  rcases (show j = 0 ∨ j = 1 ∨ j = 2 ∨ j = 3 ∨ j = 4 ∨ j = 5 ∨ j = 6 ∨ j = 7 ∨ j = 8 ∨ j = 9 ∨ j = 10 ∨ j = 11 ∨ j = 12 by omega) with rfl | rfl | rfl | rfl | rfl | rfl | rfl | rfl | rfl | rfl | rfl | rfl | rfl <;> rfl
set_option maxRecDepth 100000 in
set_option maxHeartbeats 4000000 in
theorem rowSet {Z : ZT} {Q : Nat → Nat} (s : XS) {j : Nat} (hj : j < 13) (g : Nat → Int32) : (wX Z Q s).set (48 + j) (Q (48 + j), .inl (Z.2.1 1, 40, .inl g)) = wX Z Q (sMR s (48 + j) g) := by
  rcases (show j = 0 ∨ j = 1 ∨ j = 2 ∨ j = 3 ∨ j = 4 ∨ j = 5 ∨ j = 6 ∨ j = 7 ∨ j = 8 ∨ j = 9 ∨ j = 10 ∨ j = 11 ∨ j = 12 by omega) with rfl | rfl | rfl | rfl | rfl | rfl | rfl | rfl | rfl | rfl | rfl | rfl | rfl <;> rfl
set_option maxRecDepth 100000 in
set_option maxHeartbeats 4000000 in
theorem cpX_srow_srow {sp dp n : Int32} (F : CallFix p m c cc nL s0 args Ts own) (hml : c.maxLocals = ls.size) (h : HW Z (wX Z Q) A s0 H locs s) (hg : gCpy sp dp n 40 40 = true) (hlink : (Cond.methodLink own index arraycopyName).before args s0 = true) (hnat : (Cond.native arraycopyName).before args s0 = true) (hstat : (Cond.static arraycopyName).before args s0 = true) (hini : (Cond.initialized "java/lang/System").before args s0 = true) (hframes : 1 ≤ R.frames) (hlocals : (rest.map fun v => v.category).sum + (nativeFrameWords "java/lang/System" "arraycopy" 5 + 11) ≤ R.locals) (hdg : decode cc pc = .ok (.invokestatic index, 3)) (kk : ∀ (H1 : Heap) (locs1 : List Loc), HW Z (wX Z Q) A s0 H1 locs1 (sMR s 17 (va_cpy (gM s 17) (gM s 17) (ix sp) (ix dp) (ix n))) → W p l e R s0 m args below meth c H1 locs1 cells slots P (F0 m (pc + 3) ls (rest))) : W p l e R s0 m args below meth c H locs cells slots P (F0 m pc ls (.int n :: .int dp :: .ref (Q 17) :: .int sp :: .ref (Q 17) :: rest)) := by
  have g := of_decide_eq_true hg
  refine va_copyi F.1 F.2.1 hml F.2.2.2.1 hlink hnat hstat hini h.1 h.2.1 h.2.2.1 h.2.2.2.1 17 17 1 1 rfl rfl rfl rfl rfl g.1 g.2.1 g.2.2.1 g.2.2.2.1 g.2.2.2.2 (fun _ _ => rfl) hframes hlocals hdg (fun H1 locs1 hP hD hS => kk H1 locs1 ⟨h.1, ?_, ?_, hS, h.2.2.2.2.1, h.2.2.2.2.2.1, h.2.2.2.2.2.2⟩)
  · exact hP
  · exact hD
set_option maxRecDepth 100000 in
set_option maxHeartbeats 4000000 in
theorem cpX_rows_srow {j : Nat} (hj : j < 13) {sp dp n : Int32} (F : CallFix p m c cc nL s0 args Ts own) (hml : c.maxLocals = ls.size) (h : HW Z (wX Z Q) A s0 H locs s) (hg : gCpy sp dp n 40 40 = true) (hlink : (Cond.methodLink own index arraycopyName).before args s0 = true) (hnat : (Cond.native arraycopyName).before args s0 = true) (hstat : (Cond.static arraycopyName).before args s0 = true) (hini : (Cond.initialized "java/lang/System").before args s0 = true) (hframes : 1 ≤ R.frames) (hlocals : (rest.map fun v => v.category).sum + (nativeFrameWords "java/lang/System" "arraycopy" 5 + 11) ≤ R.locals) (hdg : decode cc pc = .ok (.invokestatic index, 3)) (kk : ∀ (H1 : Heap) (locs1 : List Loc), HW Z (wX Z Q) A s0 H1 locs1 (sMR s 17 (va_cpy (gM s (48 + j)) (gM s 17) (ix sp) (ix dp) (ix n))) → W p l e R s0 m args below meth c H1 locs1 cells slots P (F0 m (pc + 3) ls (rest))) : W p l e R s0 m args below meth c H locs cells slots P (F0 m pc ls (.int n :: .int dp :: .ref (Q 17) :: .int sp :: .ref (Q (48 + j)) :: rest)) := by
  have g := of_decide_eq_true hg
  refine va_copyi F.1 F.2.1 hml F.2.2.2.1 hlink hnat hstat hini h.1 h.2.1 h.2.2.1 h.2.2.2.1 (48 + j) 17 1 1 (rowAt s hj) rfl rfl rfl rfl g.1 g.2.1 g.2.2.1 g.2.2.2.1 g.2.2.2.2 (fun _ _ => rfl) hframes hlocals hdg (fun H1 locs1 hP hD hS => kk H1 locs1 ⟨h.1, ?_, ?_, hS, h.2.2.2.2.1, h.2.2.2.2.2.1, h.2.2.2.2.2.2⟩)
  · exact hP
  · exact hD
set_option maxRecDepth 100000 in
set_option maxHeartbeats 4000000 in
theorem cpX_srow_rows {k : Nat} (hk : k < 13) {sp dp n : Int32} (F : CallFix p m c cc nL s0 args Ts own) (hml : c.maxLocals = ls.size) (h : HW Z (wX Z Q) A s0 H locs s) (hg : gCpy sp dp n 40 40 = true) (hlink : (Cond.methodLink own index arraycopyName).before args s0 = true) (hnat : (Cond.native arraycopyName).before args s0 = true) (hstat : (Cond.static arraycopyName).before args s0 = true) (hini : (Cond.initialized "java/lang/System").before args s0 = true) (hframes : 1 ≤ R.frames) (hlocals : (rest.map fun v => v.category).sum + (nativeFrameWords "java/lang/System" "arraycopy" 5 + 11) ≤ R.locals) (hdg : decode cc pc = .ok (.invokestatic index, 3)) (kk : ∀ (H1 : Heap) (locs1 : List Loc), HW Z (wX Z Q) A s0 H1 locs1 (sMR s (48 + k) (va_cpy (gM s 17) (gM s (48 + k)) (ix sp) (ix dp) (ix n))) → W p l e R s0 m args below meth c H1 locs1 cells slots P (F0 m (pc + 3) ls (rest))) : W p l e R s0 m args below meth c H locs cells slots P (F0 m pc ls (.int n :: .int dp :: .ref (Q (48 + k)) :: .int sp :: .ref (Q 17) :: rest)) := by
  have g := of_decide_eq_true hg
  refine va_copyi F.1 F.2.1 hml F.2.2.2.1 hlink hnat hstat hini h.1 h.2.1 h.2.2.1 h.2.2.2.1 17 (48 + k) 1 1 rfl (rowAt s hk) rfl rfl rfl g.1 g.2.1 g.2.2.1 g.2.2.2.1 g.2.2.2.2 (fun _ _ => rfl) hframes hlocals hdg (fun H1 locs1 hP hD hS => kk H1 locs1 ⟨h.1, ?_, ?_, hS, h.2.2.2.2.1, h.2.2.2.2.2.1, h.2.2.2.2.2.2⟩)
  · exact (rowSet s hk _) ▸ hP
  · exact (rowSet s hk _) ▸ hD
set_option maxRecDepth 100000 in
set_option maxHeartbeats 4000000 in
theorem cpX_rows_rows {j : Nat} (hj : j < 13) {k : Nat} (hk : k < 13) {sp dp n : Int32} (F : CallFix p m c cc nL s0 args Ts own) (hml : c.maxLocals = ls.size) (h : HW Z (wX Z Q) A s0 H locs s) (hg : gCpy sp dp n 40 40 = true) (hlink : (Cond.methodLink own index arraycopyName).before args s0 = true) (hnat : (Cond.native arraycopyName).before args s0 = true) (hstat : (Cond.static arraycopyName).before args s0 = true) (hini : (Cond.initialized "java/lang/System").before args s0 = true) (hframes : 1 ≤ R.frames) (hlocals : (rest.map fun v => v.category).sum + (nativeFrameWords "java/lang/System" "arraycopy" 5 + 11) ≤ R.locals) (hdg : decode cc pc = .ok (.invokestatic index, 3)) (kk : ∀ (H1 : Heap) (locs1 : List Loc), HW Z (wX Z Q) A s0 H1 locs1 (sMR s (48 + k) (va_cpy (gM s (48 + j)) (gM s (48 + k)) (ix sp) (ix dp) (ix n))) → W p l e R s0 m args below meth c H1 locs1 cells slots P (F0 m (pc + 3) ls (rest))) : W p l e R s0 m args below meth c H locs cells slots P (F0 m pc ls (.int n :: .int dp :: .ref (Q (48 + k)) :: .int sp :: .ref (Q (48 + j)) :: rest)) := by
  have g := of_decide_eq_true hg
  refine va_copyi F.1 F.2.1 hml F.2.2.2.1 hlink hnat hstat hini h.1 h.2.1 h.2.2.1 h.2.2.2.1 (48 + j) (48 + k) 1 1 (rowAt s hj) (rowAt s hk) rfl rfl rfl g.1 g.2.1 g.2.2.1 g.2.2.2.1 g.2.2.2.2 (fun _ _ => rfl) hframes hlocals hdg (fun H1 locs1 hP hD hS => kk H1 locs1 ⟨h.1, ?_, ?_, hS, h.2.2.2.2.1, h.2.2.2.2.2.1, h.2.2.2.2.2.2⟩)
  · exact (rowSet s hk _) ▸ hP
  · exact (rowSet s hk _) ▸ hD
end RX
