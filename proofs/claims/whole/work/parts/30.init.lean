/-! the constructors: rows are made, once -/
def IB (D : va_G) (tys : TyL) (w : va_W) (sz : Nat) (U : State) : Prop := U.heap.size = sz ∧ va_P D vwCl w U.heap ∧ va_K D vwCl tys U ∧ KN U ∧ va_D (fun _ => True) w
theorem IN_of {l : Launch} {y : MethodName} {ws ws' : List Cond} {rm : Room} {av : List Value} {D : va_G} {tys : TyL} {w : va_W} {sz mc ms : Nat} {A : Nat → Prop} {Qc : Array Value → State → Outcome → State → Prop} {cc : ByteArray} {maxL : Nat} {ret : Option FieldType} (hy : plainName y.cls = true) (hw : ws = Cond.code y cc maxL ret :: ws') (hlen : (lg_sl av).length ≤ maxL)
    (body : ∀ (p : Program) (e : Env) (s : State) (m : MethodId) (below : List Frame) (meth : Method) (c : Code), GC p s m meth c cc ret maxL y.cls ws av.toArray D tys → meth.name = y.name → s.heap.size = sz → va_P D vwCl w s.heap → va_D (fun _ => True) w → ∀ ls : Array Slot, lv_has ls maxL (lv_args 0 av) → W p l e rm s m av.toArray below meth c s.heap [] 0 0 (MQ below Qc av.toArray s mc ms A) (F0 m 0 ls [])) : Met l y ws rm (va_Pc av (IB D tys w sz)) Qc mc ms A := by
  refine Met.ofW (cc := cc) (maxL := maxL) (ret := ret) hy hw ?_
  intro p e s m args below meth c s₁ B hml hv
  obtain ⟨rfl, hsz, hP, hK, hN, hD⟩ := hv
  have hl := lv_entry av (n := maxL) hlen
  rw [lg_entry_eq]
  generalize (lg_sl av ++ List.replicate (maxL - (lg_sl av).length) Slot.unset).toArray = ls at hl ⊢
  exact body p e s m below meth c ⟨B.exec, B.bytes, B.returns, B.notSynchronized, hml, findClass_of_methodNamed B.named, atoms_spec B.pre, hK, hN⟩ (name_of_methodNamed B.named B.method).1 hsz hP hD ls hl
section NEWA
variable {p : Program} {l : Launch} {e : Env} {R : Room} {s : State} {m : MethodId} {args : Array Value} {below : List Frame} {meth : Method} {c : Code} {H : Heap} {locs : List Loc} {cells slots : Nat} {Q : State → Prop}
variable {cc : ByteArray} {pc : Nat} {ls : Array Slot} {rest : List Value} {D : va_G} {A : Nat → Prop} {ws : va_W} {H0 : Heap} {cI cJ : ClassId}
theorem va_newI (hx : p.tables.exec = Jvm.exec) (hb : c.code = cc) (harr : (Cond.arrayClass .int).before args s = true) (hK : va_K D vwCl (cw_tys cI cJ) s) (hP : va_P D vwCl ws H) (hD : va_D A ws) (hS : va_S A H0 H locs) (hA : ∀ q, H0.size ≤ q → A q) {n : Int32} (N : Nat) (hn : ¬ n < 0) (hN : n.toNatClampNeg = N) (hbytes : N * componentBytes .int ≤ 536870912) (hcells : cells + 1 ≤ R.cells) (hslots : slots + N ≤ R.slots) (hdg : decode cc pc = .ok (.newarray .int, 2))
    (kk : ∀ (q : Nat) (H1 : Heap), va_P D vwCl (ws ++ [(q, .inl (cI, N, .inl (fun _ => 0)))]) H1 → va_D A (ws ++ [(q, .inl (cI, N, .inl (fun _ => 0)))]) → va_S A H0 H1 locs → W p l e R s m args below meth c H1 locs (cells + 1) (slots + N) Q (F0 m (pc + 2) ls (.ref q :: rest))) : W p l e R s m args below meth c H locs cells slots Q (F0 m pc ls (.int n :: rest)) :=
  va_newa (atype := .int) (ty := .int) (a0 := (N, .inl (fun _ => 0))) hx hb harr rfl hK hP hD hS hA (fun _ => rfl) hn hN hbytes hcells hslots hdg (fun q cA H1 hK1 hP1 hD1 hS1 => by
    have h1 : s.vm.findClass ("[" ++ (FieldType.int).toString) = some cA := (hK1.2 2 (cA, .int) rfl).2
    have h2 : s.vm.findClass ("[" ++ (FieldType.int).toString) = some cI := (hK1.2 0 (cI, .int) rfl).2
    have e : cA = cI := Option.some.inj (h1.symm.trans h2)
    subst e
    exact kk q H1 hP1 hD1 hS1)
theorem va_newJ (hx : p.tables.exec = Jvm.exec) (hb : c.code = cc) (harr : (Cond.arrayClass .long).before args s = true) (hK : va_K D vwCl (cw_tys cI cJ) s) (hP : va_P D vwCl ws H) (hD : va_D A ws) (hS : va_S A H0 H locs) (hA : ∀ q, H0.size ≤ q → A q) {n : Int32} (N : Nat) (hn : ¬ n < 0) (hN : n.toNatClampNeg = N) (hbytes : N * componentBytes .long ≤ 536870912) (hcells : cells + 1 ≤ R.cells) (hslots : slots + N ≤ R.slots) (hdg : decode cc pc = .ok (.newarray .long, 2))
    (kk : ∀ (q : Nat) (H1 : Heap), va_P D vwCl (ws ++ [(q, .inl (cJ, N, .inr (.inl (fun _ => 0))))]) H1 → va_D A (ws ++ [(q, .inl (cJ, N, .inr (.inl (fun _ => 0))))]) → va_S A H0 H1 locs → W p l e R s m args below meth c H1 locs (cells + 1) (slots + N) Q (F0 m (pc + 2) ls (.ref q :: rest))) : W p l e R s m args below meth c H locs cells slots Q (F0 m pc ls (.int n :: rest)) :=
  va_newa (atype := .long) (ty := .long) (a0 := (N, .inr (.inl (fun _ => 0)))) hx hb harr rfl hK hP hD hS hA (fun _ => rfl) hn hN hbytes hcells hslots hdg (fun q cA H1 hK1 hP1 hD1 hS1 => by
    have h1 : s.vm.findClass ("[" ++ (FieldType.long).toString) = some cA := (hK1.2 2 (cA, .long) rfl).2
    have h2 : s.vm.findClass ("[" ++ (FieldType.long).toString) = some cJ := (hK1.2 1 (cJ, .long) rfl).2
    have e : cA = cJ := Option.some.inj (h1.symm.trans h2)
    subst e
    exact kk q H1 hP1 hD1 hS1)
end NEWA
theorem oiX0_init : Cond.methodLink RX0 3 objectInit ∈ wsX0_init := by decide +kernel
theorem omX0_init : Cond.instanceMethod objectInit ∈ wsX0_init := by decide +kernel
theorem ocX0_init : Cond.code objectInit ⟨#[0xb1]⟩ 1 none ∈ wsX0_init := List.mem_cons_of_mem _ (List.mem_append_left _ (List.mem_of_getElem? (i := 2) rfl))
theorem acX0_init_int : Cond.arrayClass .int ∈ wsX0_init := by decide +kernel
theorem iwX0_init : ∀ w ∈ u_ws RX0 TX0 4, w ∈ wsX0_init := by decide +kernel
theorem flX0_init_9 : Cond.fieldLink RX0 9 "LoomPanel$Patches" "lengths" "[I" ∈ wsX0_init := by decide +kernel
theorem flX0_init_15 : Cond.fieldLink RX0 15 "LoomPanel$Patches" "acts" "[I" ∈ wsX0_init := by decide +kernel
theorem flX0_init_18 : Cond.fieldLink RX0 18 "LoomPanel$Patches" "ys" "[I" ∈ wsX0_init := by decide +kernel
theorem flX0_init_21 : Cond.fieldLink RX0 21 "LoomPanel$Patches" "ns" "[I" ∈ wsX0_init := by decide +kernel
abbrev rmX0_init : Room := { frames := 1, cells := 4, slots := 222, locals := 12 }
theorem esX0_init : yX0_init.cls ≠ "java/lang/invoke/MethodHandle" ∧ yX0_init.cls ≠ "java/lang/invoke/VarHandle" ∧ (parseMethodDescriptor yX0_init.desc).map (fun d => d.parameters.length) = some 0 := by decide +kernel
set_option maxHeartbeats 4000000 in
set_option maxRecDepth 100000 in
theorem c_X0_init (l : Launch) (D : va_G) (cI cJ : ClassId) (h0 sz : Nat) : Met l yX0_init wsX0_init rmX0_init (va_Pc [.ref h0] (IB D (cw_tys cI cJ) [(h0, .inr (0, [.null, .null, .null, .null]))] sz)) (va_Qv (fun _ : Unit => True) (fun _ t => ∃ q1 q2 q3 q4 : Nat, va_P D vwCl [(h0, .inr (0, [.ref q1, .ref q2, .ref q3, .ref q4])), (q1, .inl (cI, 6, .inl (fun _ => 0))), (q2, .inl (cI, 72, .inl (fun _ => 0))), (q3, .inl (cI, 72, .inl (fun _ => 0))), (q4, .inl (cI, 72, .inl (fun _ => 0)))] t.heap ∧ va_D (va_A [(h0, .inr (0, [.null, .null, .null, .null]))] sz) [(h0, .inr (0, [.ref q1, .ref q2, .ref q3, .ref q4])), (q1, .inl (cI, 6, .inl (fun _ => 0))), (q2, .inl (cI, 72, .inl (fun _ => 0))), (q3, .inl (cI, 72, .inl (fun _ => 0))), (q4, .inl (cI, 72, .inl (fun _ => 0)))]) (va_A [(h0, .inr (0, [.null, .null, .null, .null]))] sz)) 4 222 (va_A [(h0, .inr (0, [.null, .null, .null, .null]))] sz) := by
  refine IN_of (cc := cX0_init) (maxL := 1) (ret := none) (by decide) rfl (Nat.le_of_ble_eq_true rfl) ?_
  intro p e s m below meth c C hin hsz hP hD0 ls hl
  obtain ⟨hx, hb, hr, hlocks, hml, hown, hts, hK, hN⟩ := id C
  subst hsz
  have hD := hD0.self (sz := s.heap.size)
  generalize hAe : va_A [(h0, .inr (0, [.null, .null, .null, .null]))] s.heap.size = A at hD ⊢
  have hA : ∀ q : Nat, s.heap.size ≤ q → A q := fun q h => by rw [← hAe]; exact Or.inr h
  have hS : va_S A s.heap s.heap [] := va_S.rf
  have hl : lv_has ls 1 [(0, .ref h0)] := hl
  refine lv_aload_n hx hb dX0_init_0 rfl (lv_at hl 0 rfl) ?_
  refine W.objInit hx hb hown (hts (.methodLink RX0 3 objectInit) oiX0_init) (hts (.instanceMethod objectInit) omX0_init) (hts _ ocX0_init) rfl (by rw [hml]; exact hl.1) rfl dX0_init_1 (Nat.le_of_ble_eq_true rfl) (Nat.le_of_ble_eq_true rfl) ?_
  refine W.eq (g2 := F0 m 4 ls []) rfl ?_
  refine lv_aload_n hx hb dX0_init_4 rfl (lv_at hl 0 rfl) ?_
  refine lv_bipush (v := 6) hx hb dX0_init_5 (by decide) ?_
  refine va_newI (N := 6) hx hb (hts (.arrayClass .int) acX0_init_int) hK hP hD hS hA (by decide) (by decide) (by decide) (Nat.le_of_ble_eq_true rfl) (Nat.le_of_ble_eq_true rfl) dX0_init_7 (fun q1 H hP hD hS => ?_)
  have hP : va_P D vwCl [(h0, .inr (0, [.null, .null, .null, .null])), (q1, .inl (cI, 6, .inl (fun _ => 0)))] H := hP
  have hD : va_D A [(h0, .inr (0, [.null, .null, .null, .null])), (q1, .inl (cI, 6, .inl (fun _ => 0)))] := hD
  refine va_putF (D := D) (ci := 0) (v := .ref q1) (ty := .array .int) (C := RX0) (T := TX0) (N := 4) hx hb hts iwX0_init tyX0 tyX0_ok nmX0 hown hK hP hD hS 0 rfl rfl 0 (by decide) (hts (.fieldLink RX0 9 "LoomPanel$Patches" "lengths" "[I") flX0_init_9) (fun _ h9 => h9) rfl hin rfl (by decide +kernel) rfl rfl (Nat.le_of_ble_eq_true rfl) dX0_init_9 (fun H locs hP hD hS => ?_)
  have hP : va_P D vwCl [(h0, .inr (0, [.ref q1, .null, .null, .null])), (q1, .inl (cI, 6, .inl (fun _ => 0)))] H := hP
  have hD : va_D A [(h0, .inr (0, [.ref q1, .null, .null, .null])), (q1, .inl (cI, 6, .inl (fun _ => 0)))] := hD
  refine lv_aload_n hx hb dX0_init_12 rfl (lv_at hl 0 rfl) ?_
  refine lv_bipush (v := 72) hx hb dX0_init_13 (by decide) ?_
  refine va_newI (N := 72) hx hb (hts (.arrayClass .int) acX0_init_int) hK hP hD hS hA (by decide) (by decide) (by decide) (Nat.le_of_ble_eq_true rfl) (Nat.le_of_ble_eq_true rfl) dX0_init_15 (fun q2 H hP hD hS => ?_)
  have hP : va_P D vwCl [(h0, .inr (0, [.ref q1, .null, .null, .null])), (q1, .inl (cI, 6, .inl (fun _ => 0))), (q2, .inl (cI, 72, .inl (fun _ => 0)))] H := hP
  have hD : va_D A [(h0, .inr (0, [.ref q1, .null, .null, .null])), (q1, .inl (cI, 6, .inl (fun _ => 0))), (q2, .inl (cI, 72, .inl (fun _ => 0)))] := hD
  refine va_putF (D := D) (ci := 0) (v := .ref q2) (ty := .array .int) (C := RX0) (T := TX0) (N := 4) hx hb hts iwX0_init tyX0 tyX0_ok nmX0 hown hK hP hD hS 0 rfl rfl 1 (by decide) (hts (.fieldLink RX0 15 "LoomPanel$Patches" "acts" "[I") flX0_init_15) (fun _ h9 => h9) rfl hin rfl (by decide +kernel) rfl rfl (Nat.le_of_ble_eq_true rfl) dX0_init_17 (fun H locs hP hD hS => ?_)
  have hP : va_P D vwCl [(h0, .inr (0, [.ref q1, .ref q2, .null, .null])), (q1, .inl (cI, 6, .inl (fun _ => 0))), (q2, .inl (cI, 72, .inl (fun _ => 0)))] H := hP
  have hD : va_D A [(h0, .inr (0, [.ref q1, .ref q2, .null, .null])), (q1, .inl (cI, 6, .inl (fun _ => 0))), (q2, .inl (cI, 72, .inl (fun _ => 0)))] := hD
  refine lv_aload_n hx hb dX0_init_20 rfl (lv_at hl 0 rfl) ?_
  refine lv_bipush (v := 72) hx hb dX0_init_21 (by decide) ?_
  refine va_newI (N := 72) hx hb (hts (.arrayClass .int) acX0_init_int) hK hP hD hS hA (by decide) (by decide) (by decide) (Nat.le_of_ble_eq_true rfl) (Nat.le_of_ble_eq_true rfl) dX0_init_23 (fun q3 H hP hD hS => ?_)
  have hP : va_P D vwCl [(h0, .inr (0, [.ref q1, .ref q2, .null, .null])), (q1, .inl (cI, 6, .inl (fun _ => 0))), (q2, .inl (cI, 72, .inl (fun _ => 0))), (q3, .inl (cI, 72, .inl (fun _ => 0)))] H := hP
  have hD : va_D A [(h0, .inr (0, [.ref q1, .ref q2, .null, .null])), (q1, .inl (cI, 6, .inl (fun _ => 0))), (q2, .inl (cI, 72, .inl (fun _ => 0))), (q3, .inl (cI, 72, .inl (fun _ => 0)))] := hD
  refine va_putF (D := D) (ci := 0) (v := .ref q3) (ty := .array .int) (C := RX0) (T := TX0) (N := 4) hx hb hts iwX0_init tyX0 tyX0_ok nmX0 hown hK hP hD hS 0 rfl rfl 2 (by decide) (hts (.fieldLink RX0 18 "LoomPanel$Patches" "ys" "[I") flX0_init_18) (fun _ h9 => h9) rfl hin rfl (by decide +kernel) rfl rfl (Nat.le_of_ble_eq_true rfl) dX0_init_25 (fun H locs hP hD hS => ?_)
  have hP : va_P D vwCl [(h0, .inr (0, [.ref q1, .ref q2, .ref q3, .null])), (q1, .inl (cI, 6, .inl (fun _ => 0))), (q2, .inl (cI, 72, .inl (fun _ => 0))), (q3, .inl (cI, 72, .inl (fun _ => 0)))] H := hP
  have hD : va_D A [(h0, .inr (0, [.ref q1, .ref q2, .ref q3, .null])), (q1, .inl (cI, 6, .inl (fun _ => 0))), (q2, .inl (cI, 72, .inl (fun _ => 0))), (q3, .inl (cI, 72, .inl (fun _ => 0)))] := hD
  refine lv_aload_n hx hb dX0_init_28 rfl (lv_at hl 0 rfl) ?_
  refine lv_bipush (v := 72) hx hb dX0_init_29 (by decide) ?_
  refine va_newI (N := 72) hx hb (hts (.arrayClass .int) acX0_init_int) hK hP hD hS hA (by decide) (by decide) (by decide) (Nat.le_of_ble_eq_true rfl) (Nat.le_of_ble_eq_true rfl) dX0_init_31 (fun q4 H hP hD hS => ?_)
  have hP : va_P D vwCl [(h0, .inr (0, [.ref q1, .ref q2, .ref q3, .null])), (q1, .inl (cI, 6, .inl (fun _ => 0))), (q2, .inl (cI, 72, .inl (fun _ => 0))), (q3, .inl (cI, 72, .inl (fun _ => 0))), (q4, .inl (cI, 72, .inl (fun _ => 0)))] H := hP
  have hD : va_D A [(h0, .inr (0, [.ref q1, .ref q2, .ref q3, .null])), (q1, .inl (cI, 6, .inl (fun _ => 0))), (q2, .inl (cI, 72, .inl (fun _ => 0))), (q3, .inl (cI, 72, .inl (fun _ => 0))), (q4, .inl (cI, 72, .inl (fun _ => 0)))] := hD
  refine va_putF (D := D) (ci := 0) (v := .ref q4) (ty := .array .int) (C := RX0) (T := TX0) (N := 4) hx hb hts iwX0_init tyX0 tyX0_ok nmX0 hown hK hP hD hS 0 rfl rfl 3 (by decide) (hts (.fieldLink RX0 21 "LoomPanel$Patches" "ns" "[I") flX0_init_21) (fun _ h9 => h9) rfl hin rfl (by decide +kernel) rfl rfl (Nat.le_of_ble_eq_true rfl) dX0_init_33 (fun H locs hP hD hS => ?_)
  have hP : va_P D vwCl [(h0, .inr (0, [.ref q1, .ref q2, .ref q3, .ref q4])), (q1, .inl (cI, 6, .inl (fun _ => 0))), (q2, .inl (cI, 72, .inl (fun _ => 0))), (q3, .inl (cI, 72, .inl (fun _ => 0))), (q4, .inl (cI, 72, .inl (fun _ => 0)))] H := hP
  have hD : va_D A [(h0, .inr (0, [.ref q1, .ref q2, .ref q3, .ref q4])), (q1, .inl (cI, 6, .inl (fun _ => 0))), (q2, .inl (cI, 72, .inl (fun _ => 0))), (q3, .inl (cI, 72, .inl (fun _ => 0))), (q4, .inl (cI, 72, .inl (fun _ => 0)))] := hD
  refine W.widen (k := 4) (n := 222) (by decide) (by decide) ?_
  exact W.vret hx hb hr (fun t ht hW => ⟨⟨(), rfl, trivial, q1, q2, q3, q4, by rw [ht]; exact hP, hD⟩, hS.F ht⟩) hS.2.2 dX0_init_36 hlocks
theorem oiX1_init : Cond.methodLink RX1 3 objectInit ∈ wsX1_init := by decide +kernel
theorem omX1_init : Cond.instanceMethod objectInit ∈ wsX1_init := by decide +kernel
theorem ocX1_init : Cond.code objectInit ⟨#[0xb1]⟩ 1 none ∈ wsX1_init := List.mem_cons_of_mem _ (List.mem_append_left _ (List.mem_of_getElem? (i := 2) rfl))
theorem acX1_init_int : Cond.arrayClass .int ∈ wsX1_init := by decide +kernel
theorem acX1_init_long : Cond.arrayClass .long ∈ wsX1_init := by decide +kernel
theorem iwX1_init : ∀ w ∈ u_ws RX1 TX1 5, w ∈ wsX1_init := by decide +kernel
theorem flX1_init_9 : Cond.fieldLink RX1 9 "LoomPanel$Values" "forms" "[I" ∈ wsX1_init := by decide +kernel
theorem flX1_init_15 : Cond.fieldLink RX1 15 "LoomPanel$Values" "lengths" "[I" ∈ wsX1_init := by decide +kernel
theorem flX1_init_18 : Cond.fieldLink RX1 18 "LoomPanel$Values" "levels" "[I" ∈ wsX1_init := by decide +kernel
theorem flX1_init_21 : Cond.fieldLink RX1 21 "LoomPanel$Values" "cells" "[J" ∈ wsX1_init := by decide +kernel
theorem flX1_init_25 : Cond.fieldLink RX1 25 "LoomPanel$Values" "made" "I" ∈ wsX1_init := by decide +kernel
abbrev rmX1_init : Room := { frames := 1, cells := 4, slots := 660, locals := 12 }
theorem esX1_init : yX1_init.cls ≠ "java/lang/invoke/MethodHandle" ∧ yX1_init.cls ≠ "java/lang/invoke/VarHandle" ∧ (parseMethodDescriptor yX1_init.desc).map (fun d => d.parameters.length) = some 0 := by decide +kernel
set_option maxHeartbeats 4000000 in
set_option maxRecDepth 100000 in
theorem c_X1_init (l : Launch) (D : va_G) (cI cJ : ClassId) (h0 sz : Nat) : Met l yX1_init wsX1_init rmX1_init (va_Pc [.ref h0] (IB D (cw_tys cI cJ) [(h0, .inr (1, [.null, .null, .null, .null, .int 0]))] sz)) (va_Qv (fun _ : Unit => True) (fun _ t => ∃ q1 q2 q3 q4 : Nat, va_P D vwCl [(h0, .inr (1, [.ref q1, .ref q2, .ref q3, .ref q4, .int 0])), (q1, .inl (cI, 60, .inl (fun _ => 0))), (q2, .inl (cI, 60, .inl (fun _ => 0))), (q3, .inl (cI, 60, .inl (fun _ => 0))), (q4, .inl (cJ, 480, .inr (.inl (fun _ => 0))))] t.heap ∧ va_D (va_A [(h0, .inr (1, [.null, .null, .null, .null, .int 0]))] sz) [(h0, .inr (1, [.ref q1, .ref q2, .ref q3, .ref q4, .int 0])), (q1, .inl (cI, 60, .inl (fun _ => 0))), (q2, .inl (cI, 60, .inl (fun _ => 0))), (q3, .inl (cI, 60, .inl (fun _ => 0))), (q4, .inl (cJ, 480, .inr (.inl (fun _ => 0))))]) (va_A [(h0, .inr (1, [.null, .null, .null, .null, .int 0]))] sz)) 4 660 (va_A [(h0, .inr (1, [.null, .null, .null, .null, .int 0]))] sz) := by
  refine IN_of (cc := cX1_init) (maxL := 1) (ret := none) (by decide) rfl (Nat.le_of_ble_eq_true rfl) ?_
  intro p e s m below meth c C hin hsz hP hD0 ls hl
  obtain ⟨hx, hb, hr, hlocks, hml, hown, hts, hK, hN⟩ := id C
  subst hsz
  have hD := hD0.self (sz := s.heap.size)
  generalize hAe : va_A [(h0, .inr (1, [.null, .null, .null, .null, .int 0]))] s.heap.size = A at hD ⊢
  have hA : ∀ q : Nat, s.heap.size ≤ q → A q := fun q h => by rw [← hAe]; exact Or.inr h
  have hS : va_S A s.heap s.heap [] := va_S.rf
  have hl : lv_has ls 1 [(0, .ref h0)] := hl
  refine lv_aload_n hx hb dX1_init_0 rfl (lv_at hl 0 rfl) ?_
  refine W.objInit hx hb hown (hts (.methodLink RX1 3 objectInit) oiX1_init) (hts (.instanceMethod objectInit) omX1_init) (hts _ ocX1_init) rfl (by rw [hml]; exact hl.1) rfl dX1_init_1 (Nat.le_of_ble_eq_true rfl) (Nat.le_of_ble_eq_true rfl) ?_
  refine W.eq (g2 := F0 m 4 ls []) rfl ?_
  refine lv_aload_n hx hb dX1_init_4 rfl (lv_at hl 0 rfl) ?_
  refine lv_bipush (v := 60) hx hb dX1_init_5 (by decide) ?_
  refine va_newI (N := 60) hx hb (hts (.arrayClass .int) acX1_init_int) hK hP hD hS hA (by decide) (by decide) (by decide) (Nat.le_of_ble_eq_true rfl) (Nat.le_of_ble_eq_true rfl) dX1_init_7 (fun q1 H hP hD hS => ?_)
  have hP : va_P D vwCl [(h0, .inr (1, [.null, .null, .null, .null, .int 0])), (q1, .inl (cI, 60, .inl (fun _ => 0)))] H := hP
  have hD : va_D A [(h0, .inr (1, [.null, .null, .null, .null, .int 0])), (q1, .inl (cI, 60, .inl (fun _ => 0)))] := hD
  refine va_putF (D := D) (ci := 1) (v := .ref q1) (ty := .array .int) (C := RX1) (T := TX1) (N := 5) hx hb hts iwX1_init tyX1 tyX1_ok nmX1 hown hK hP hD hS 0 rfl rfl 0 (by decide) (hts (.fieldLink RX1 9 "LoomPanel$Values" "forms" "[I") flX1_init_9) (fun _ h9 => h9) rfl hin rfl (by decide +kernel) rfl rfl (Nat.le_of_ble_eq_true rfl) dX1_init_9 (fun H locs hP hD hS => ?_)
  have hP : va_P D vwCl [(h0, .inr (1, [.ref q1, .null, .null, .null, .int 0])), (q1, .inl (cI, 60, .inl (fun _ => 0)))] H := hP
  have hD : va_D A [(h0, .inr (1, [.ref q1, .null, .null, .null, .int 0])), (q1, .inl (cI, 60, .inl (fun _ => 0)))] := hD
  refine lv_aload_n hx hb dX1_init_12 rfl (lv_at hl 0 rfl) ?_
  refine lv_bipush (v := 60) hx hb dX1_init_13 (by decide) ?_
  refine va_newI (N := 60) hx hb (hts (.arrayClass .int) acX1_init_int) hK hP hD hS hA (by decide) (by decide) (by decide) (Nat.le_of_ble_eq_true rfl) (Nat.le_of_ble_eq_true rfl) dX1_init_15 (fun q2 H hP hD hS => ?_)
  have hP : va_P D vwCl [(h0, .inr (1, [.ref q1, .null, .null, .null, .int 0])), (q1, .inl (cI, 60, .inl (fun _ => 0))), (q2, .inl (cI, 60, .inl (fun _ => 0)))] H := hP
  have hD : va_D A [(h0, .inr (1, [.ref q1, .null, .null, .null, .int 0])), (q1, .inl (cI, 60, .inl (fun _ => 0))), (q2, .inl (cI, 60, .inl (fun _ => 0)))] := hD
  refine va_putF (D := D) (ci := 1) (v := .ref q2) (ty := .array .int) (C := RX1) (T := TX1) (N := 5) hx hb hts iwX1_init tyX1 tyX1_ok nmX1 hown hK hP hD hS 0 rfl rfl 1 (by decide) (hts (.fieldLink RX1 15 "LoomPanel$Values" "lengths" "[I") flX1_init_15) (fun _ h9 => h9) rfl hin rfl (by decide +kernel) rfl rfl (Nat.le_of_ble_eq_true rfl) dX1_init_17 (fun H locs hP hD hS => ?_)
  have hP : va_P D vwCl [(h0, .inr (1, [.ref q1, .ref q2, .null, .null, .int 0])), (q1, .inl (cI, 60, .inl (fun _ => 0))), (q2, .inl (cI, 60, .inl (fun _ => 0)))] H := hP
  have hD : va_D A [(h0, .inr (1, [.ref q1, .ref q2, .null, .null, .int 0])), (q1, .inl (cI, 60, .inl (fun _ => 0))), (q2, .inl (cI, 60, .inl (fun _ => 0)))] := hD
  refine lv_aload_n hx hb dX1_init_20 rfl (lv_at hl 0 rfl) ?_
  refine lv_bipush (v := 60) hx hb dX1_init_21 (by decide) ?_
  refine va_newI (N := 60) hx hb (hts (.arrayClass .int) acX1_init_int) hK hP hD hS hA (by decide) (by decide) (by decide) (Nat.le_of_ble_eq_true rfl) (Nat.le_of_ble_eq_true rfl) dX1_init_23 (fun q3 H hP hD hS => ?_)
  have hP : va_P D vwCl [(h0, .inr (1, [.ref q1, .ref q2, .null, .null, .int 0])), (q1, .inl (cI, 60, .inl (fun _ => 0))), (q2, .inl (cI, 60, .inl (fun _ => 0))), (q3, .inl (cI, 60, .inl (fun _ => 0)))] H := hP
  have hD : va_D A [(h0, .inr (1, [.ref q1, .ref q2, .null, .null, .int 0])), (q1, .inl (cI, 60, .inl (fun _ => 0))), (q2, .inl (cI, 60, .inl (fun _ => 0))), (q3, .inl (cI, 60, .inl (fun _ => 0)))] := hD
  refine va_putF (D := D) (ci := 1) (v := .ref q3) (ty := .array .int) (C := RX1) (T := TX1) (N := 5) hx hb hts iwX1_init tyX1 tyX1_ok nmX1 hown hK hP hD hS 0 rfl rfl 2 (by decide) (hts (.fieldLink RX1 18 "LoomPanel$Values" "levels" "[I") flX1_init_18) (fun _ h9 => h9) rfl hin rfl (by decide +kernel) rfl rfl (Nat.le_of_ble_eq_true rfl) dX1_init_25 (fun H locs hP hD hS => ?_)
  have hP : va_P D vwCl [(h0, .inr (1, [.ref q1, .ref q2, .ref q3, .null, .int 0])), (q1, .inl (cI, 60, .inl (fun _ => 0))), (q2, .inl (cI, 60, .inl (fun _ => 0))), (q3, .inl (cI, 60, .inl (fun _ => 0)))] H := hP
  have hD : va_D A [(h0, .inr (1, [.ref q1, .ref q2, .ref q3, .null, .int 0])), (q1, .inl (cI, 60, .inl (fun _ => 0))), (q2, .inl (cI, 60, .inl (fun _ => 0))), (q3, .inl (cI, 60, .inl (fun _ => 0)))] := hD
  refine lv_aload_n hx hb dX1_init_28 rfl (lv_at hl 0 rfl) ?_
  refine lv_sipush (v := 480) hx hb dX1_init_29 (by decide) ?_
  refine va_newJ (N := 480) hx hb (hts (.arrayClass .long) acX1_init_long) hK hP hD hS hA (by decide) (by decide) (by decide) (Nat.le_of_ble_eq_true rfl) (Nat.le_of_ble_eq_true rfl) dX1_init_32 (fun q4 H hP hD hS => ?_)
  have hP : va_P D vwCl [(h0, .inr (1, [.ref q1, .ref q2, .ref q3, .null, .int 0])), (q1, .inl (cI, 60, .inl (fun _ => 0))), (q2, .inl (cI, 60, .inl (fun _ => 0))), (q3, .inl (cI, 60, .inl (fun _ => 0))), (q4, .inl (cJ, 480, .inr (.inl (fun _ => 0))))] H := hP
  have hD : va_D A [(h0, .inr (1, [.ref q1, .ref q2, .ref q3, .null, .int 0])), (q1, .inl (cI, 60, .inl (fun _ => 0))), (q2, .inl (cI, 60, .inl (fun _ => 0))), (q3, .inl (cI, 60, .inl (fun _ => 0))), (q4, .inl (cJ, 480, .inr (.inl (fun _ => 0))))] := hD
  refine va_putF (D := D) (ci := 1) (v := .ref q4) (ty := .array .long) (C := RX1) (T := TX1) (N := 5) hx hb hts iwX1_init tyX1 tyX1_ok nmX1 hown hK hP hD hS 0 rfl rfl 3 (by decide) (hts (.fieldLink RX1 21 "LoomPanel$Values" "cells" "[J") flX1_init_21) (fun _ h9 => h9) rfl hin rfl (by decide +kernel) rfl rfl (Nat.le_of_ble_eq_true rfl) dX1_init_34 (fun H locs hP hD hS => ?_)
  have hP : va_P D vwCl [(h0, .inr (1, [.ref q1, .ref q2, .ref q3, .ref q4, .int 0])), (q1, .inl (cI, 60, .inl (fun _ => 0))), (q2, .inl (cI, 60, .inl (fun _ => 0))), (q3, .inl (cI, 60, .inl (fun _ => 0))), (q4, .inl (cJ, 480, .inr (.inl (fun _ => 0))))] H := hP
  have hD : va_D A [(h0, .inr (1, [.ref q1, .ref q2, .ref q3, .ref q4, .int 0])), (q1, .inl (cI, 60, .inl (fun _ => 0))), (q2, .inl (cI, 60, .inl (fun _ => 0))), (q3, .inl (cI, 60, .inl (fun _ => 0))), (q4, .inl (cJ, 480, .inr (.inl (fun _ => 0))))] := hD
  refine lv_aload_n hx hb dX1_init_37 rfl (lv_at hl 0 rfl) ?_
  refine lv_iconst (v := 0) hx hb dX1_init_38 (by decide) ?_
  refine va_put (D := D) (ci := 1) (v := .int 0) (ty := .int) (C := RX1) (T := TX1) (N := 5) hx hb hts iwX1_init tyX1 tyX1_ok nmX1 hown hK hP hD hS 0 rfl rfl 4 (by decide) (hts (.fieldLink RX1 25 "LoomPanel$Values" "made" "I") flX1_init_25) (fun _ h9 => h9) rfl (by decide +kernel) rfl rfl (Nat.le_of_ble_eq_true rfl) dX1_init_39 (fun H locs hP hD hS => ?_)
  have hP : va_P D vwCl [(h0, .inr (1, [.ref q1, .ref q2, .ref q3, .ref q4, .int 0])), (q1, .inl (cI, 60, .inl (fun _ => 0))), (q2, .inl (cI, 60, .inl (fun _ => 0))), (q3, .inl (cI, 60, .inl (fun _ => 0))), (q4, .inl (cJ, 480, .inr (.inl (fun _ => 0))))] H := hP
  have hD : va_D A [(h0, .inr (1, [.ref q1, .ref q2, .ref q3, .ref q4, .int 0])), (q1, .inl (cI, 60, .inl (fun _ => 0))), (q2, .inl (cI, 60, .inl (fun _ => 0))), (q3, .inl (cI, 60, .inl (fun _ => 0))), (q4, .inl (cJ, 480, .inr (.inl (fun _ => 0))))] := hD
  refine W.widen (k := 4) (n := 660) (by decide) (by decide) ?_
  exact W.vret hx hb hr (fun t ht hW => ⟨⟨(), rfl, trivial, q1, q2, q3, q4, by rw [ht]; exact hP, hD⟩, hS.F ht⟩) hS.2.2 dX1_init_42 hlocks
theorem oiX3_init : Cond.methodLink RX3 1 objectInit ∈ wsX3_init := by decide +kernel
theorem omX3_init : Cond.instanceMethod objectInit ∈ wsX3_init := by decide +kernel
theorem ocX3_init : Cond.code objectInit ⟨#[0xb1]⟩ 1 none ∈ wsX3_init := List.mem_cons_of_mem _ (List.mem_append_left _ (List.mem_of_getElem? (i := 2) rfl))
theorem acX3_init_int : Cond.arrayClass .int ∈ wsX3_init := by decide +kernel
theorem acX3_init_long : Cond.arrayClass .long ∈ wsX3_init := by decide +kernel
theorem iwX3_init : ∀ w ∈ u_ws RX3 TX3 13, w ∈ wsX3_init := by decide +kernel
theorem flX3_init_7 : Cond.fieldLink RX3 7 "LoomPanelModel" "forms" "[I" ∈ wsX3_init := by decide +kernel
theorem flX3_init_13 : Cond.fieldLink RX3 13 "LoomPanelModel" "sizes" "[I" ∈ wsX3_init := by decide +kernel
theorem flX3_init_16 : Cond.fieldLink RX3 16 "LoomPanelModel" "levels" "[I" ∈ wsX3_init := by decide +kernel
theorem flX3_init_19 : Cond.fieldLink RX3 19 "LoomPanelModel" "numbers" "[J" ∈ wsX3_init := by decide +kernel
theorem flX3_init_23 : Cond.fieldLink RX3 23 "LoomPanelModel" "lies" "[I" ∈ wsX3_init := by decide +kernel
theorem flX3_init_26 : Cond.fieldLink RX3 26 "LoomPanelModel" "steps" "[I" ∈ wsX3_init := by decide +kernel
theorem flX3_init_29 : Cond.fieldLink RX3 29 "LoomPanelModel" "stepAct" "[I" ∈ wsX3_init := by decide +kernel
theorem flX3_init_32 : Cond.fieldLink RX3 32 "LoomPanelModel" "stepOther" "[I" ∈ wsX3_init := by decide +kernel
theorem flX3_init_35 : Cond.fieldLink RX3 35 "LoomPanelModel" "stepNumber" "[I" ∈ wsX3_init := by decide +kernel
theorem flX3_init_38 : Cond.fieldLink RX3 38 "LoomPanelModel" "stopped" "I" ∈ wsX3_init := by decide +kernel
abbrev rmX3_init : Room := { frames := 1, cells := 9, slots := 1362, locals := 12 }
theorem esX3_init : yX3_init.cls ≠ "java/lang/invoke/MethodHandle" ∧ yX3_init.cls ≠ "java/lang/invoke/VarHandle" ∧ (parseMethodDescriptor yX3_init.desc).map (fun d => d.parameters.length) = some 0 := by decide +kernel
set_option maxHeartbeats 4000000 in
set_option maxRecDepth 100000 in
theorem c_X3_init (l : Launch) (D : va_G) (cI cJ : ClassId) (h0 sz : Nat) : Met l yX3_init wsX3_init rmX3_init (va_Pc [.ref h0] (IB D (cw_tys cI cJ) [(h0, .inr (3, [.int 0, .null, .null, .null, .null, .null, .null, .null, .null, .null, .int 0, .int 0, .int 0]))] sz)) (va_Qv (fun _ : Unit => True) (fun _ t => ∃ q1 q2 q3 q4 q5 q6 q7 q8 q9 : Nat, va_P D vwCl [(h0, .inr (3, [.int 0, .ref q1, .ref q2, .ref q3, .ref q4, .ref q5, .ref q6, .ref q7, .ref q8, .ref q9, .int 0, .int 0, .int (-1)])), (q1, .inl (cI, 60, .inl (fun _ => 0))), (q2, .inl (cI, 60, .inl (fun _ => 0))), (q3, .inl (cI, 60, .inl (fun _ => 0))), (q4, .inl (cJ, 480, .inr (.inl (fun _ => 0)))), (q5, .inl (cI, 480, .inl (fun _ => 0))), (q6, .inl (cI, 6, .inl (fun _ => 0))), (q7, .inl (cI, 72, .inl (fun _ => 0))), (q8, .inl (cI, 72, .inl (fun _ => 0))), (q9, .inl (cI, 72, .inl (fun _ => 0)))] t.heap ∧ va_D (va_A [(h0, .inr (3, [.int 0, .null, .null, .null, .null, .null, .null, .null, .null, .null, .int 0, .int 0, .int 0]))] sz) [(h0, .inr (3, [.int 0, .ref q1, .ref q2, .ref q3, .ref q4, .ref q5, .ref q6, .ref q7, .ref q8, .ref q9, .int 0, .int 0, .int (-1)])), (q1, .inl (cI, 60, .inl (fun _ => 0))), (q2, .inl (cI, 60, .inl (fun _ => 0))), (q3, .inl (cI, 60, .inl (fun _ => 0))), (q4, .inl (cJ, 480, .inr (.inl (fun _ => 0)))), (q5, .inl (cI, 480, .inl (fun _ => 0))), (q6, .inl (cI, 6, .inl (fun _ => 0))), (q7, .inl (cI, 72, .inl (fun _ => 0))), (q8, .inl (cI, 72, .inl (fun _ => 0))), (q9, .inl (cI, 72, .inl (fun _ => 0)))]) (va_A [(h0, .inr (3, [.int 0, .null, .null, .null, .null, .null, .null, .null, .null, .null, .int 0, .int 0, .int 0]))] sz)) 9 1362 (va_A [(h0, .inr (3, [.int 0, .null, .null, .null, .null, .null, .null, .null, .null, .null, .int 0, .int 0, .int 0]))] sz) := by
  refine IN_of (cc := cX3_init) (maxL := 1) (ret := none) (by decide) rfl (Nat.le_of_ble_eq_true rfl) ?_
  intro p e s m below meth c C hin hsz hP hD0 ls hl
  obtain ⟨hx, hb, hr, hlocks, hml, hown, hts, hK, hN⟩ := id C
  subst hsz
  have hD := hD0.self (sz := s.heap.size)
  generalize hAe : va_A [(h0, .inr (3, [.int 0, .null, .null, .null, .null, .null, .null, .null, .null, .null, .int 0, .int 0, .int 0]))] s.heap.size = A at hD ⊢
  have hA : ∀ q : Nat, s.heap.size ≤ q → A q := fun q h => by rw [← hAe]; exact Or.inr h
  have hS : va_S A s.heap s.heap [] := va_S.rf
  have hl : lv_has ls 1 [(0, .ref h0)] := hl
  refine lv_aload_n hx hb dX3_init_0 rfl (lv_at hl 0 rfl) ?_
  refine W.objInit hx hb hown (hts (.methodLink RX3 1 objectInit) oiX3_init) (hts (.instanceMethod objectInit) omX3_init) (hts _ ocX3_init) rfl (by rw [hml]; exact hl.1) rfl dX3_init_1 (Nat.le_of_ble_eq_true rfl) (Nat.le_of_ble_eq_true rfl) ?_
  refine W.eq (g2 := F0 m 4 ls []) rfl ?_
  refine lv_aload_n hx hb dX3_init_4 rfl (lv_at hl 0 rfl) ?_
  refine lv_bipush (v := 60) hx hb dX3_init_5 (by decide) ?_
  refine va_newI (N := 60) hx hb (hts (.arrayClass .int) acX3_init_int) hK hP hD hS hA (by decide) (by decide) (by decide) (Nat.le_of_ble_eq_true rfl) (Nat.le_of_ble_eq_true rfl) dX3_init_7 (fun q1 H hP hD hS => ?_)
  have hP : va_P D vwCl [(h0, .inr (3, [.int 0, .null, .null, .null, .null, .null, .null, .null, .null, .null, .int 0, .int 0, .int 0])), (q1, .inl (cI, 60, .inl (fun _ => 0)))] H := hP
  have hD : va_D A [(h0, .inr (3, [.int 0, .null, .null, .null, .null, .null, .null, .null, .null, .null, .int 0, .int 0, .int 0])), (q1, .inl (cI, 60, .inl (fun _ => 0)))] := hD
  refine va_putF (D := D) (ci := 3) (v := .ref q1) (ty := .array .int) (C := RX3) (T := TX3) (N := 13) hx hb hts iwX3_init tyX3 tyX3_ok nmX3 hown hK hP hD hS 0 rfl rfl 1 (by decide) (hts (.fieldLink RX3 7 "LoomPanelModel" "forms" "[I") flX3_init_7) (fun _ h9 => h9) rfl hin rfl (by decide +kernel) rfl rfl (Nat.le_of_ble_eq_true rfl) dX3_init_9 (fun H locs hP hD hS => ?_)
  have hP : va_P D vwCl [(h0, .inr (3, [.int 0, .ref q1, .null, .null, .null, .null, .null, .null, .null, .null, .int 0, .int 0, .int 0])), (q1, .inl (cI, 60, .inl (fun _ => 0)))] H := hP
  have hD : va_D A [(h0, .inr (3, [.int 0, .ref q1, .null, .null, .null, .null, .null, .null, .null, .null, .int 0, .int 0, .int 0])), (q1, .inl (cI, 60, .inl (fun _ => 0)))] := hD
  refine lv_aload_n hx hb dX3_init_12 rfl (lv_at hl 0 rfl) ?_
  refine lv_bipush (v := 60) hx hb dX3_init_13 (by decide) ?_
  refine va_newI (N := 60) hx hb (hts (.arrayClass .int) acX3_init_int) hK hP hD hS hA (by decide) (by decide) (by decide) (Nat.le_of_ble_eq_true rfl) (Nat.le_of_ble_eq_true rfl) dX3_init_15 (fun q2 H hP hD hS => ?_)
  have hP : va_P D vwCl [(h0, .inr (3, [.int 0, .ref q1, .null, .null, .null, .null, .null, .null, .null, .null, .int 0, .int 0, .int 0])), (q1, .inl (cI, 60, .inl (fun _ => 0))), (q2, .inl (cI, 60, .inl (fun _ => 0)))] H := hP
  have hD : va_D A [(h0, .inr (3, [.int 0, .ref q1, .null, .null, .null, .null, .null, .null, .null, .null, .int 0, .int 0, .int 0])), (q1, .inl (cI, 60, .inl (fun _ => 0))), (q2, .inl (cI, 60, .inl (fun _ => 0)))] := hD
  refine va_putF (D := D) (ci := 3) (v := .ref q2) (ty := .array .int) (C := RX3) (T := TX3) (N := 13) hx hb hts iwX3_init tyX3 tyX3_ok nmX3 hown hK hP hD hS 0 rfl rfl 2 (by decide) (hts (.fieldLink RX3 13 "LoomPanelModel" "sizes" "[I") flX3_init_13) (fun _ h9 => h9) rfl hin rfl (by decide +kernel) rfl rfl (Nat.le_of_ble_eq_true rfl) dX3_init_17 (fun H locs hP hD hS => ?_)
  have hP : va_P D vwCl [(h0, .inr (3, [.int 0, .ref q1, .ref q2, .null, .null, .null, .null, .null, .null, .null, .int 0, .int 0, .int 0])), (q1, .inl (cI, 60, .inl (fun _ => 0))), (q2, .inl (cI, 60, .inl (fun _ => 0)))] H := hP
  have hD : va_D A [(h0, .inr (3, [.int 0, .ref q1, .ref q2, .null, .null, .null, .null, .null, .null, .null, .int 0, .int 0, .int 0])), (q1, .inl (cI, 60, .inl (fun _ => 0))), (q2, .inl (cI, 60, .inl (fun _ => 0)))] := hD
  refine lv_aload_n hx hb dX3_init_20 rfl (lv_at hl 0 rfl) ?_
  refine lv_bipush (v := 60) hx hb dX3_init_21 (by decide) ?_
  refine va_newI (N := 60) hx hb (hts (.arrayClass .int) acX3_init_int) hK hP hD hS hA (by decide) (by decide) (by decide) (Nat.le_of_ble_eq_true rfl) (Nat.le_of_ble_eq_true rfl) dX3_init_23 (fun q3 H hP hD hS => ?_)
  have hP : va_P D vwCl [(h0, .inr (3, [.int 0, .ref q1, .ref q2, .null, .null, .null, .null, .null, .null, .null, .int 0, .int 0, .int 0])), (q1, .inl (cI, 60, .inl (fun _ => 0))), (q2, .inl (cI, 60, .inl (fun _ => 0))), (q3, .inl (cI, 60, .inl (fun _ => 0)))] H := hP
  have hD : va_D A [(h0, .inr (3, [.int 0, .ref q1, .ref q2, .null, .null, .null, .null, .null, .null, .null, .int 0, .int 0, .int 0])), (q1, .inl (cI, 60, .inl (fun _ => 0))), (q2, .inl (cI, 60, .inl (fun _ => 0))), (q3, .inl (cI, 60, .inl (fun _ => 0)))] := hD
  refine va_putF (D := D) (ci := 3) (v := .ref q3) (ty := .array .int) (C := RX3) (T := TX3) (N := 13) hx hb hts iwX3_init tyX3 tyX3_ok nmX3 hown hK hP hD hS 0 rfl rfl 3 (by decide) (hts (.fieldLink RX3 16 "LoomPanelModel" "levels" "[I") flX3_init_16) (fun _ h9 => h9) rfl hin rfl (by decide +kernel) rfl rfl (Nat.le_of_ble_eq_true rfl) dX3_init_25 (fun H locs hP hD hS => ?_)
  have hP : va_P D vwCl [(h0, .inr (3, [.int 0, .ref q1, .ref q2, .ref q3, .null, .null, .null, .null, .null, .null, .int 0, .int 0, .int 0])), (q1, .inl (cI, 60, .inl (fun _ => 0))), (q2, .inl (cI, 60, .inl (fun _ => 0))), (q3, .inl (cI, 60, .inl (fun _ => 0)))] H := hP
  have hD : va_D A [(h0, .inr (3, [.int 0, .ref q1, .ref q2, .ref q3, .null, .null, .null, .null, .null, .null, .int 0, .int 0, .int 0])), (q1, .inl (cI, 60, .inl (fun _ => 0))), (q2, .inl (cI, 60, .inl (fun _ => 0))), (q3, .inl (cI, 60, .inl (fun _ => 0)))] := hD
  refine lv_aload_n hx hb dX3_init_28 rfl (lv_at hl 0 rfl) ?_
  refine lv_sipush (v := 480) hx hb dX3_init_29 (by decide) ?_
  refine va_newJ (N := 480) hx hb (hts (.arrayClass .long) acX3_init_long) hK hP hD hS hA (by decide) (by decide) (by decide) (Nat.le_of_ble_eq_true rfl) (Nat.le_of_ble_eq_true rfl) dX3_init_32 (fun q4 H hP hD hS => ?_)
  have hP : va_P D vwCl [(h0, .inr (3, [.int 0, .ref q1, .ref q2, .ref q3, .null, .null, .null, .null, .null, .null, .int 0, .int 0, .int 0])), (q1, .inl (cI, 60, .inl (fun _ => 0))), (q2, .inl (cI, 60, .inl (fun _ => 0))), (q3, .inl (cI, 60, .inl (fun _ => 0))), (q4, .inl (cJ, 480, .inr (.inl (fun _ => 0))))] H := hP
  have hD : va_D A [(h0, .inr (3, [.int 0, .ref q1, .ref q2, .ref q3, .null, .null, .null, .null, .null, .null, .int 0, .int 0, .int 0])), (q1, .inl (cI, 60, .inl (fun _ => 0))), (q2, .inl (cI, 60, .inl (fun _ => 0))), (q3, .inl (cI, 60, .inl (fun _ => 0))), (q4, .inl (cJ, 480, .inr (.inl (fun _ => 0))))] := hD
  refine va_putF (D := D) (ci := 3) (v := .ref q4) (ty := .array .long) (C := RX3) (T := TX3) (N := 13) hx hb hts iwX3_init tyX3 tyX3_ok nmX3 hown hK hP hD hS 0 rfl rfl 4 (by decide) (hts (.fieldLink RX3 19 "LoomPanelModel" "numbers" "[J") flX3_init_19) (fun _ h9 => h9) rfl hin rfl (by decide +kernel) rfl rfl (Nat.le_of_ble_eq_true rfl) dX3_init_34 (fun H locs hP hD hS => ?_)
  have hP : va_P D vwCl [(h0, .inr (3, [.int 0, .ref q1, .ref q2, .ref q3, .ref q4, .null, .null, .null, .null, .null, .int 0, .int 0, .int 0])), (q1, .inl (cI, 60, .inl (fun _ => 0))), (q2, .inl (cI, 60, .inl (fun _ => 0))), (q3, .inl (cI, 60, .inl (fun _ => 0))), (q4, .inl (cJ, 480, .inr (.inl (fun _ => 0))))] H := hP
  have hD : va_D A [(h0, .inr (3, [.int 0, .ref q1, .ref q2, .ref q3, .ref q4, .null, .null, .null, .null, .null, .int 0, .int 0, .int 0])), (q1, .inl (cI, 60, .inl (fun _ => 0))), (q2, .inl (cI, 60, .inl (fun _ => 0))), (q3, .inl (cI, 60, .inl (fun _ => 0))), (q4, .inl (cJ, 480, .inr (.inl (fun _ => 0))))] := hD
  refine lv_aload_n hx hb dX3_init_37 rfl (lv_at hl 0 rfl) ?_
  refine lv_sipush (v := 480) hx hb dX3_init_38 (by decide) ?_
  refine va_newI (N := 480) hx hb (hts (.arrayClass .int) acX3_init_int) hK hP hD hS hA (by decide) (by decide) (by decide) (Nat.le_of_ble_eq_true rfl) (Nat.le_of_ble_eq_true rfl) dX3_init_41 (fun q5 H hP hD hS => ?_)
  have hP : va_P D vwCl [(h0, .inr (3, [.int 0, .ref q1, .ref q2, .ref q3, .ref q4, .null, .null, .null, .null, .null, .int 0, .int 0, .int 0])), (q1, .inl (cI, 60, .inl (fun _ => 0))), (q2, .inl (cI, 60, .inl (fun _ => 0))), (q3, .inl (cI, 60, .inl (fun _ => 0))), (q4, .inl (cJ, 480, .inr (.inl (fun _ => 0)))), (q5, .inl (cI, 480, .inl (fun _ => 0)))] H := hP
  have hD : va_D A [(h0, .inr (3, [.int 0, .ref q1, .ref q2, .ref q3, .ref q4, .null, .null, .null, .null, .null, .int 0, .int 0, .int 0])), (q1, .inl (cI, 60, .inl (fun _ => 0))), (q2, .inl (cI, 60, .inl (fun _ => 0))), (q3, .inl (cI, 60, .inl (fun _ => 0))), (q4, .inl (cJ, 480, .inr (.inl (fun _ => 0)))), (q5, .inl (cI, 480, .inl (fun _ => 0)))] := hD
  refine va_putF (D := D) (ci := 3) (v := .ref q5) (ty := .array .int) (C := RX3) (T := TX3) (N := 13) hx hb hts iwX3_init tyX3 tyX3_ok nmX3 hown hK hP hD hS 0 rfl rfl 5 (by decide) (hts (.fieldLink RX3 23 "LoomPanelModel" "lies" "[I") flX3_init_23) (fun _ h9 => h9) rfl hin rfl (by decide +kernel) rfl rfl (Nat.le_of_ble_eq_true rfl) dX3_init_43 (fun H locs hP hD hS => ?_)
  have hP : va_P D vwCl [(h0, .inr (3, [.int 0, .ref q1, .ref q2, .ref q3, .ref q4, .ref q5, .null, .null, .null, .null, .int 0, .int 0, .int 0])), (q1, .inl (cI, 60, .inl (fun _ => 0))), (q2, .inl (cI, 60, .inl (fun _ => 0))), (q3, .inl (cI, 60, .inl (fun _ => 0))), (q4, .inl (cJ, 480, .inr (.inl (fun _ => 0)))), (q5, .inl (cI, 480, .inl (fun _ => 0)))] H := hP
  have hD : va_D A [(h0, .inr (3, [.int 0, .ref q1, .ref q2, .ref q3, .ref q4, .ref q5, .null, .null, .null, .null, .int 0, .int 0, .int 0])), (q1, .inl (cI, 60, .inl (fun _ => 0))), (q2, .inl (cI, 60, .inl (fun _ => 0))), (q3, .inl (cI, 60, .inl (fun _ => 0))), (q4, .inl (cJ, 480, .inr (.inl (fun _ => 0)))), (q5, .inl (cI, 480, .inl (fun _ => 0)))] := hD
  refine lv_aload_n hx hb dX3_init_46 rfl (lv_at hl 0 rfl) ?_
  refine lv_bipush (v := 6) hx hb dX3_init_47 (by decide) ?_
  refine va_newI (N := 6) hx hb (hts (.arrayClass .int) acX3_init_int) hK hP hD hS hA (by decide) (by decide) (by decide) (Nat.le_of_ble_eq_true rfl) (Nat.le_of_ble_eq_true rfl) dX3_init_49 (fun q6 H hP hD hS => ?_)
  have hP : va_P D vwCl [(h0, .inr (3, [.int 0, .ref q1, .ref q2, .ref q3, .ref q4, .ref q5, .null, .null, .null, .null, .int 0, .int 0, .int 0])), (q1, .inl (cI, 60, .inl (fun _ => 0))), (q2, .inl (cI, 60, .inl (fun _ => 0))), (q3, .inl (cI, 60, .inl (fun _ => 0))), (q4, .inl (cJ, 480, .inr (.inl (fun _ => 0)))), (q5, .inl (cI, 480, .inl (fun _ => 0))), (q6, .inl (cI, 6, .inl (fun _ => 0)))] H := hP
  have hD : va_D A [(h0, .inr (3, [.int 0, .ref q1, .ref q2, .ref q3, .ref q4, .ref q5, .null, .null, .null, .null, .int 0, .int 0, .int 0])), (q1, .inl (cI, 60, .inl (fun _ => 0))), (q2, .inl (cI, 60, .inl (fun _ => 0))), (q3, .inl (cI, 60, .inl (fun _ => 0))), (q4, .inl (cJ, 480, .inr (.inl (fun _ => 0)))), (q5, .inl (cI, 480, .inl (fun _ => 0))), (q6, .inl (cI, 6, .inl (fun _ => 0)))] := hD
  refine va_putF (D := D) (ci := 3) (v := .ref q6) (ty := .array .int) (C := RX3) (T := TX3) (N := 13) hx hb hts iwX3_init tyX3 tyX3_ok nmX3 hown hK hP hD hS 0 rfl rfl 6 (by decide) (hts (.fieldLink RX3 26 "LoomPanelModel" "steps" "[I") flX3_init_26) (fun _ h9 => h9) rfl hin rfl (by decide +kernel) rfl rfl (Nat.le_of_ble_eq_true rfl) dX3_init_51 (fun H locs hP hD hS => ?_)
  have hP : va_P D vwCl [(h0, .inr (3, [.int 0, .ref q1, .ref q2, .ref q3, .ref q4, .ref q5, .ref q6, .null, .null, .null, .int 0, .int 0, .int 0])), (q1, .inl (cI, 60, .inl (fun _ => 0))), (q2, .inl (cI, 60, .inl (fun _ => 0))), (q3, .inl (cI, 60, .inl (fun _ => 0))), (q4, .inl (cJ, 480, .inr (.inl (fun _ => 0)))), (q5, .inl (cI, 480, .inl (fun _ => 0))), (q6, .inl (cI, 6, .inl (fun _ => 0)))] H := hP
  have hD : va_D A [(h0, .inr (3, [.int 0, .ref q1, .ref q2, .ref q3, .ref q4, .ref q5, .ref q6, .null, .null, .null, .int 0, .int 0, .int 0])), (q1, .inl (cI, 60, .inl (fun _ => 0))), (q2, .inl (cI, 60, .inl (fun _ => 0))), (q3, .inl (cI, 60, .inl (fun _ => 0))), (q4, .inl (cJ, 480, .inr (.inl (fun _ => 0)))), (q5, .inl (cI, 480, .inl (fun _ => 0))), (q6, .inl (cI, 6, .inl (fun _ => 0)))] := hD
  refine lv_aload_n hx hb dX3_init_54 rfl (lv_at hl 0 rfl) ?_
  refine lv_bipush (v := 72) hx hb dX3_init_55 (by decide) ?_
  refine va_newI (N := 72) hx hb (hts (.arrayClass .int) acX3_init_int) hK hP hD hS hA (by decide) (by decide) (by decide) (Nat.le_of_ble_eq_true rfl) (Nat.le_of_ble_eq_true rfl) dX3_init_57 (fun q7 H hP hD hS => ?_)
  have hP : va_P D vwCl [(h0, .inr (3, [.int 0, .ref q1, .ref q2, .ref q3, .ref q4, .ref q5, .ref q6, .null, .null, .null, .int 0, .int 0, .int 0])), (q1, .inl (cI, 60, .inl (fun _ => 0))), (q2, .inl (cI, 60, .inl (fun _ => 0))), (q3, .inl (cI, 60, .inl (fun _ => 0))), (q4, .inl (cJ, 480, .inr (.inl (fun _ => 0)))), (q5, .inl (cI, 480, .inl (fun _ => 0))), (q6, .inl (cI, 6, .inl (fun _ => 0))), (q7, .inl (cI, 72, .inl (fun _ => 0)))] H := hP
  have hD : va_D A [(h0, .inr (3, [.int 0, .ref q1, .ref q2, .ref q3, .ref q4, .ref q5, .ref q6, .null, .null, .null, .int 0, .int 0, .int 0])), (q1, .inl (cI, 60, .inl (fun _ => 0))), (q2, .inl (cI, 60, .inl (fun _ => 0))), (q3, .inl (cI, 60, .inl (fun _ => 0))), (q4, .inl (cJ, 480, .inr (.inl (fun _ => 0)))), (q5, .inl (cI, 480, .inl (fun _ => 0))), (q6, .inl (cI, 6, .inl (fun _ => 0))), (q7, .inl (cI, 72, .inl (fun _ => 0)))] := hD
  refine va_putF (D := D) (ci := 3) (v := .ref q7) (ty := .array .int) (C := RX3) (T := TX3) (N := 13) hx hb hts iwX3_init tyX3 tyX3_ok nmX3 hown hK hP hD hS 0 rfl rfl 7 (by decide) (hts (.fieldLink RX3 29 "LoomPanelModel" "stepAct" "[I") flX3_init_29) (fun _ h9 => h9) rfl hin rfl (by decide +kernel) rfl rfl (Nat.le_of_ble_eq_true rfl) dX3_init_59 (fun H locs hP hD hS => ?_)
  have hP : va_P D vwCl [(h0, .inr (3, [.int 0, .ref q1, .ref q2, .ref q3, .ref q4, .ref q5, .ref q6, .ref q7, .null, .null, .int 0, .int 0, .int 0])), (q1, .inl (cI, 60, .inl (fun _ => 0))), (q2, .inl (cI, 60, .inl (fun _ => 0))), (q3, .inl (cI, 60, .inl (fun _ => 0))), (q4, .inl (cJ, 480, .inr (.inl (fun _ => 0)))), (q5, .inl (cI, 480, .inl (fun _ => 0))), (q6, .inl (cI, 6, .inl (fun _ => 0))), (q7, .inl (cI, 72, .inl (fun _ => 0)))] H := hP
  have hD : va_D A [(h0, .inr (3, [.int 0, .ref q1, .ref q2, .ref q3, .ref q4, .ref q5, .ref q6, .ref q7, .null, .null, .int 0, .int 0, .int 0])), (q1, .inl (cI, 60, .inl (fun _ => 0))), (q2, .inl (cI, 60, .inl (fun _ => 0))), (q3, .inl (cI, 60, .inl (fun _ => 0))), (q4, .inl (cJ, 480, .inr (.inl (fun _ => 0)))), (q5, .inl (cI, 480, .inl (fun _ => 0))), (q6, .inl (cI, 6, .inl (fun _ => 0))), (q7, .inl (cI, 72, .inl (fun _ => 0)))] := hD
  refine lv_aload_n hx hb dX3_init_62 rfl (lv_at hl 0 rfl) ?_
  refine lv_bipush (v := 72) hx hb dX3_init_63 (by decide) ?_
  refine va_newI (N := 72) hx hb (hts (.arrayClass .int) acX3_init_int) hK hP hD hS hA (by decide) (by decide) (by decide) (Nat.le_of_ble_eq_true rfl) (Nat.le_of_ble_eq_true rfl) dX3_init_65 (fun q8 H hP hD hS => ?_)
  have hP : va_P D vwCl [(h0, .inr (3, [.int 0, .ref q1, .ref q2, .ref q3, .ref q4, .ref q5, .ref q6, .ref q7, .null, .null, .int 0, .int 0, .int 0])), (q1, .inl (cI, 60, .inl (fun _ => 0))), (q2, .inl (cI, 60, .inl (fun _ => 0))), (q3, .inl (cI, 60, .inl (fun _ => 0))), (q4, .inl (cJ, 480, .inr (.inl (fun _ => 0)))), (q5, .inl (cI, 480, .inl (fun _ => 0))), (q6, .inl (cI, 6, .inl (fun _ => 0))), (q7, .inl (cI, 72, .inl (fun _ => 0))), (q8, .inl (cI, 72, .inl (fun _ => 0)))] H := hP
  have hD : va_D A [(h0, .inr (3, [.int 0, .ref q1, .ref q2, .ref q3, .ref q4, .ref q5, .ref q6, .ref q7, .null, .null, .int 0, .int 0, .int 0])), (q1, .inl (cI, 60, .inl (fun _ => 0))), (q2, .inl (cI, 60, .inl (fun _ => 0))), (q3, .inl (cI, 60, .inl (fun _ => 0))), (q4, .inl (cJ, 480, .inr (.inl (fun _ => 0)))), (q5, .inl (cI, 480, .inl (fun _ => 0))), (q6, .inl (cI, 6, .inl (fun _ => 0))), (q7, .inl (cI, 72, .inl (fun _ => 0))), (q8, .inl (cI, 72, .inl (fun _ => 0)))] := hD
  refine va_putF (D := D) (ci := 3) (v := .ref q8) (ty := .array .int) (C := RX3) (T := TX3) (N := 13) hx hb hts iwX3_init tyX3 tyX3_ok nmX3 hown hK hP hD hS 0 rfl rfl 8 (by decide) (hts (.fieldLink RX3 32 "LoomPanelModel" "stepOther" "[I") flX3_init_32) (fun _ h9 => h9) rfl hin rfl (by decide +kernel) rfl rfl (Nat.le_of_ble_eq_true rfl) dX3_init_67 (fun H locs hP hD hS => ?_)
  have hP : va_P D vwCl [(h0, .inr (3, [.int 0, .ref q1, .ref q2, .ref q3, .ref q4, .ref q5, .ref q6, .ref q7, .ref q8, .null, .int 0, .int 0, .int 0])), (q1, .inl (cI, 60, .inl (fun _ => 0))), (q2, .inl (cI, 60, .inl (fun _ => 0))), (q3, .inl (cI, 60, .inl (fun _ => 0))), (q4, .inl (cJ, 480, .inr (.inl (fun _ => 0)))), (q5, .inl (cI, 480, .inl (fun _ => 0))), (q6, .inl (cI, 6, .inl (fun _ => 0))), (q7, .inl (cI, 72, .inl (fun _ => 0))), (q8, .inl (cI, 72, .inl (fun _ => 0)))] H := hP
  have hD : va_D A [(h0, .inr (3, [.int 0, .ref q1, .ref q2, .ref q3, .ref q4, .ref q5, .ref q6, .ref q7, .ref q8, .null, .int 0, .int 0, .int 0])), (q1, .inl (cI, 60, .inl (fun _ => 0))), (q2, .inl (cI, 60, .inl (fun _ => 0))), (q3, .inl (cI, 60, .inl (fun _ => 0))), (q4, .inl (cJ, 480, .inr (.inl (fun _ => 0)))), (q5, .inl (cI, 480, .inl (fun _ => 0))), (q6, .inl (cI, 6, .inl (fun _ => 0))), (q7, .inl (cI, 72, .inl (fun _ => 0))), (q8, .inl (cI, 72, .inl (fun _ => 0)))] := hD
  refine lv_aload_n hx hb dX3_init_70 rfl (lv_at hl 0 rfl) ?_
  refine lv_bipush (v := 72) hx hb dX3_init_71 (by decide) ?_
  refine va_newI (N := 72) hx hb (hts (.arrayClass .int) acX3_init_int) hK hP hD hS hA (by decide) (by decide) (by decide) (Nat.le_of_ble_eq_true rfl) (Nat.le_of_ble_eq_true rfl) dX3_init_73 (fun q9 H hP hD hS => ?_)
  have hP : va_P D vwCl [(h0, .inr (3, [.int 0, .ref q1, .ref q2, .ref q3, .ref q4, .ref q5, .ref q6, .ref q7, .ref q8, .null, .int 0, .int 0, .int 0])), (q1, .inl (cI, 60, .inl (fun _ => 0))), (q2, .inl (cI, 60, .inl (fun _ => 0))), (q3, .inl (cI, 60, .inl (fun _ => 0))), (q4, .inl (cJ, 480, .inr (.inl (fun _ => 0)))), (q5, .inl (cI, 480, .inl (fun _ => 0))), (q6, .inl (cI, 6, .inl (fun _ => 0))), (q7, .inl (cI, 72, .inl (fun _ => 0))), (q8, .inl (cI, 72, .inl (fun _ => 0))), (q9, .inl (cI, 72, .inl (fun _ => 0)))] H := hP
  have hD : va_D A [(h0, .inr (3, [.int 0, .ref q1, .ref q2, .ref q3, .ref q4, .ref q5, .ref q6, .ref q7, .ref q8, .null, .int 0, .int 0, .int 0])), (q1, .inl (cI, 60, .inl (fun _ => 0))), (q2, .inl (cI, 60, .inl (fun _ => 0))), (q3, .inl (cI, 60, .inl (fun _ => 0))), (q4, .inl (cJ, 480, .inr (.inl (fun _ => 0)))), (q5, .inl (cI, 480, .inl (fun _ => 0))), (q6, .inl (cI, 6, .inl (fun _ => 0))), (q7, .inl (cI, 72, .inl (fun _ => 0))), (q8, .inl (cI, 72, .inl (fun _ => 0))), (q9, .inl (cI, 72, .inl (fun _ => 0)))] := hD
  refine va_putF (D := D) (ci := 3) (v := .ref q9) (ty := .array .int) (C := RX3) (T := TX3) (N := 13) hx hb hts iwX3_init tyX3 tyX3_ok nmX3 hown hK hP hD hS 0 rfl rfl 9 (by decide) (hts (.fieldLink RX3 35 "LoomPanelModel" "stepNumber" "[I") flX3_init_35) (fun _ h9 => h9) rfl hin rfl (by decide +kernel) rfl rfl (Nat.le_of_ble_eq_true rfl) dX3_init_75 (fun H locs hP hD hS => ?_)
  have hP : va_P D vwCl [(h0, .inr (3, [.int 0, .ref q1, .ref q2, .ref q3, .ref q4, .ref q5, .ref q6, .ref q7, .ref q8, .ref q9, .int 0, .int 0, .int 0])), (q1, .inl (cI, 60, .inl (fun _ => 0))), (q2, .inl (cI, 60, .inl (fun _ => 0))), (q3, .inl (cI, 60, .inl (fun _ => 0))), (q4, .inl (cJ, 480, .inr (.inl (fun _ => 0)))), (q5, .inl (cI, 480, .inl (fun _ => 0))), (q6, .inl (cI, 6, .inl (fun _ => 0))), (q7, .inl (cI, 72, .inl (fun _ => 0))), (q8, .inl (cI, 72, .inl (fun _ => 0))), (q9, .inl (cI, 72, .inl (fun _ => 0)))] H := hP
  have hD : va_D A [(h0, .inr (3, [.int 0, .ref q1, .ref q2, .ref q3, .ref q4, .ref q5, .ref q6, .ref q7, .ref q8, .ref q9, .int 0, .int 0, .int 0])), (q1, .inl (cI, 60, .inl (fun _ => 0))), (q2, .inl (cI, 60, .inl (fun _ => 0))), (q3, .inl (cI, 60, .inl (fun _ => 0))), (q4, .inl (cJ, 480, .inr (.inl (fun _ => 0)))), (q5, .inl (cI, 480, .inl (fun _ => 0))), (q6, .inl (cI, 6, .inl (fun _ => 0))), (q7, .inl (cI, 72, .inl (fun _ => 0))), (q8, .inl (cI, 72, .inl (fun _ => 0))), (q9, .inl (cI, 72, .inl (fun _ => 0)))] := hD
  refine lv_aload_n hx hb dX3_init_78 rfl (lv_at hl 0 rfl) ?_
  refine lv_iconst (v := (-1)) hx hb dX3_init_79 (by decide) ?_
  refine va_put (D := D) (ci := 3) (v := .int (-1)) (ty := .int) (C := RX3) (T := TX3) (N := 13) hx hb hts iwX3_init tyX3 tyX3_ok nmX3 hown hK hP hD hS 0 rfl rfl 12 (by decide) (hts (.fieldLink RX3 38 "LoomPanelModel" "stopped" "I") flX3_init_38) (fun _ h9 => h9) rfl (by decide +kernel) rfl rfl (Nat.le_of_ble_eq_true rfl) dX3_init_80 (fun H locs hP hD hS => ?_)
  have hP : va_P D vwCl [(h0, .inr (3, [.int 0, .ref q1, .ref q2, .ref q3, .ref q4, .ref q5, .ref q6, .ref q7, .ref q8, .ref q9, .int 0, .int 0, .int (-1)])), (q1, .inl (cI, 60, .inl (fun _ => 0))), (q2, .inl (cI, 60, .inl (fun _ => 0))), (q3, .inl (cI, 60, .inl (fun _ => 0))), (q4, .inl (cJ, 480, .inr (.inl (fun _ => 0)))), (q5, .inl (cI, 480, .inl (fun _ => 0))), (q6, .inl (cI, 6, .inl (fun _ => 0))), (q7, .inl (cI, 72, .inl (fun _ => 0))), (q8, .inl (cI, 72, .inl (fun _ => 0))), (q9, .inl (cI, 72, .inl (fun _ => 0)))] H := hP
  have hD : va_D A [(h0, .inr (3, [.int 0, .ref q1, .ref q2, .ref q3, .ref q4, .ref q5, .ref q6, .ref q7, .ref q8, .ref q9, .int 0, .int 0, .int (-1)])), (q1, .inl (cI, 60, .inl (fun _ => 0))), (q2, .inl (cI, 60, .inl (fun _ => 0))), (q3, .inl (cI, 60, .inl (fun _ => 0))), (q4, .inl (cJ, 480, .inr (.inl (fun _ => 0)))), (q5, .inl (cI, 480, .inl (fun _ => 0))), (q6, .inl (cI, 6, .inl (fun _ => 0))), (q7, .inl (cI, 72, .inl (fun _ => 0))), (q8, .inl (cI, 72, .inl (fun _ => 0))), (q9, .inl (cI, 72, .inl (fun _ => 0)))] := hD
  refine W.widen (k := 9) (n := 1362) (by decide) (by decide) ?_
  exact W.vret hx hb hr (fun t ht hW => ⟨⟨(), rfl, trivial, q1, q2, q3, q4, q5, q6, q7, q8, q9, by rw [ht]; exact hP, hD⟩, hS.F ht⟩) hS.2.2 dX3_init_83 hlocks
