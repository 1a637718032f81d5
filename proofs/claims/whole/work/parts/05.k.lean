abbrev rmX0_has : Room := { frames := 0, cells := 0, slots := 0, locals := 0 }
theorem eeX0_has : yX0_has.cls = RX0 ∧ yX0_has.cls ≠ "java/lang/invoke/MethodHandle" ∧ yX0_has.cls ≠ "java/lang/invoke/VarHandle" ∧ (parseMethodDescriptor yX0_has.desc).map (fun d => d.parameters.length) = some 1 := by decide +kernel
def f_X0_has (S : KS) (x1 : Int32) : Int32 := if x1 < 0 then (0) else (if 6 ≤ x1 then (0) else (1))
set_option maxHeartbeats 4000000 in
set_option maxRecDepth 100000 in
theorem c_X0_has (l : Launch) (D : va_G) (cI cJ : ClassId) (a : Nat → Nat) (hd : ∀ i j, i < 11 → j < 11 → a i = a j → i = j) (S : KS) (x1 : Int32) : GRi l yX0_has wsX0_has rmX0_has [.ref (a 2), .int x1] D (cw_tys cI cJ) (cw cI cJ a) KInv (kA a) S (f_X0_has S x1) := by
  refine GB_of (cc := cX0_has) (maxL := 2) (ret := (some .boolean)) (by decide) rfl (Nat.le_of_ble_eq_true rfl) ?_
  intro p e s m below meth c C hP hI ls hl
  obtain ⟨hx, hb, hr, hlocks, hml, hown, hts, hK, hN⟩ := id C
  have hS : va_S (kA a) s.heap s.heap [] := va_S.rf
  have hl : lv_has ls 2 [(0, .ref (a 2)), (1, .int x1)] := hl
  refine lv_iload_n hx hb dX0_has_0 rfl (lv_at hl 1 rfl) ?_
  refine lv_if_lt (tgt := 14) hx hb dX0_has_1 (by decide) (fun c_1 => ?_) (fun c_1 => ?_)
  · skip
    refine lv_iconst (v := 0) hx hb dX0_has_14 (by decide) ?_
    exact r_Rz hx hb hr hlocks hP hI hS rfl (by simp only [f_X0_has, if_pos c_1]) dX0_has_15
  · skip
    refine lv_iload_n hx hb dX0_has_4 rfl (lv_at hl 1 rfl) ?_
    refine lv_bipush (v := 6) hx hb dX0_has_5 (by decide) ?_
    refine lv_icmp_ge (tgt := 14) hx hb dX0_has_7 (by decide) (fun c_7 => ?_) (fun c_7 => ?_)
    · skip
      refine lv_iconst (v := 0) hx hb dX0_has_14 (by decide) ?_
      exact r_Rz hx hb hr hlocks hP hI hS rfl (by simp only [f_X0_has, if_neg c_1, if_pos c_7]) dX0_has_15
    · skip
      refine lv_iconst (v := 1) hx hb dX0_has_10 (by decide) ?_
      refine lv_goto (tgt := 15) hx hb dX0_has_11 (by decide) ?_
      exact r_Rz hx hb hr hlocks hP hI hS rfl (by simp only [f_X0_has, if_neg c_1, if_neg c_7]) dX0_has_15
theorem hasP_in {S : KS} {x : Int32} (h : ¬ f_X0_has S x = 0) : vp_in x 6 := by
  unfold f_X0_has at h
  obtain ⟨h1, h⟩ := ne_ite h
  obtain ⟨h2, h⟩ := ne_ite h
  exact in2 (lt0 h1) (nle h2)
abbrev rmX0_hasStep : Room := { frames := 1, cells := 0, slots := 0, locals := 21 }
theorem eeX0_hasStep : yX0_hasStep.cls = RX0 ∧ yX0_hasStep.cls ≠ "java/lang/invoke/MethodHandle" ∧ yX0_hasStep.cls ≠ "java/lang/invoke/VarHandle" ∧ (parseMethodDescriptor yX0_hasStep.desc).map (fun d => d.parameters.length) = some 2 := by decide +kernel
theorem iwX0_hasStep : ∀ w ∈ u_ws RX0 TX0 4, w ∈ wsX0_hasStep := by decide +kernel
theorem flX0_hasStep_9 : Cond.fieldLink RX0 9 "LoomPanel$Patches" "lengths" "[I" ∈ wsX0_hasStep := by decide +kernel
def f_X0_hasStep (S : KS) (x1 : Int32) (x2 : Int32) : Int32 := if (f_X0_has S x1) = 0 then (0) else (if x2 < 0 then (0) else (if (S.plen x1.toNatClampNeg) ≤ x2 then (0) else (1)))
set_option maxHeartbeats 4000000 in
set_option maxRecDepth 100000 in
theorem c_X0_hasStep (l : Launch) (D : va_G) (cI cJ : ClassId) (a : Nat → Nat) (hd : ∀ i j, i < 11 → j < 11 → a i = a j → i = j) (S : KS) (x1 : Int32) (x2 : Int32) : GRi l yX0_hasStep wsX0_hasStep rmX0_hasStep [.ref (a 2), .int x1, .int x2] D (cw_tys cI cJ) (cw cI cJ a) KInv (kA a) S (f_X0_hasStep S x1 x2) := by
  refine GB_of (cc := cX0_hasStep) (maxL := 3) (ret := (some .boolean)) (by decide) rfl (Nat.le_of_ble_eq_true rfl) ?_
  intro p e s m below meth c C hP hI ls hl
  obtain ⟨hx, hb, hr, hlocks, hml, hown, hts, hK, hN⟩ := id C
  have hS : va_S (kA a) s.heap s.heap [] := va_S.rf
  have hl : lv_has ls 3 [(0, .ref (a 2)), (1, .int x1), (2, .int x2)] := hl
  refine lv_aload_n hx hb dX0_hasStep_0 rfl (lv_at hl 0 rfl) ?_
  refine lv_iload_n hx hb dX0_hasStep_1 rfl (lv_at hl 1 rfl) ?_
  refine g_Ri (As := [.int x1]) (rest := []) ⟨hx, hb, hml, hown, hts⟩ (c_X0_has l D cI cJ a hd S x1 ) (cwV 1 hts gX0_hasStep_X0_has rfl rfl rfl eeX0_has ⟨Nat.le_of_ble_eq_true rfl, Nat.le_of_ble_eq_true rfl⟩) hK hN hP hI (va_recv hK hP (ci := 0) (q0 := 2) rfl rfl) hS rfl hl.1 rfl (Nat.le_of_ble_eq_true rfl) dX0_hasStep_2 ⟨Nat.zero_le _, Nat.zero_le _⟩ (fun H locs hP hS => ?_)
  refine lv_if_eq (tgt := 26) hx hb dX0_hasStep_5 (by decide) (fun c_5 => ?_) (fun c_5 => ?_)
  · skip
    refine lv_iconst (v := 0) hx hb dX0_hasStep_26 (by decide) ?_
    exact r_Rz hx hb hr hlocks hP hI hS rfl (by simp only [f_X0_hasStep, if_pos c_5]) dX0_hasStep_27
  · skip
    refine lv_iload_n hx hb dX0_hasStep_8 rfl (lv_at hl 2 rfl) ?_
    refine lv_if_lt (tgt := 26) hx hb dX0_hasStep_9 (by decide) (fun c_9 => ?_) (fun c_9 => ?_)
    · skip
      refine lv_iconst (v := 0) hx hb dX0_hasStep_26 (by decide) ?_
      exact r_Rz hx hb hr hlocks hP hI hS rfl (by simp only [f_X0_hasStep, if_neg c_5, if_pos c_9]) dX0_hasStep_27
    · skip
      refine lv_iload_n hx hb dX0_hasStep_12 rfl (lv_at hl 2 rfl) ?_
      refine lv_aload_n hx hb dX0_hasStep_13 rfl (lv_at hl 0 rfl) ?_
      refine va_get (D := D) (ci := 0) (v := .ref (a 7)) (C := RX0) (T := TX0) (N := 4) hx hb hts iwX0_hasStep hown hK hP 2 rfl rfl 0 (by decide) (hts (.fieldLink RX0 9 "LoomPanel$Patches" "lengths" "[I") flX0_hasStep_9) (fun _ h9 => h9) rfl dX0_hasStep_14 ?_
      refine lv_iload_n hx hb dX0_hasStep_17 rfl (lv_at hl 1 rfl) ?_
      refine va_iald hx hb hK hP 7 0 (f := S.plen) rfl rfl (hasP_in c_5) dX0_hasStep_18 ?_
      refine lv_icmp_ge (tgt := 26) hx hb dX0_hasStep_19 (by decide) (fun c_19 => ?_) (fun c_19 => ?_)
      · skip
        refine lv_iconst (v := 0) hx hb dX0_hasStep_26 (by decide) ?_
        exact r_Rz hx hb hr hlocks hP hI hS rfl (by simp only [f_X0_hasStep, if_neg c_5, if_neg c_9, if_pos c_19]) dX0_hasStep_27
      · skip
        refine lv_iconst (v := 1) hx hb dX0_hasStep_22 (by decide) ?_
        refine lv_goto (tgt := 27) hx hb dX0_hasStep_23 (by decide) ?_
        exact r_Rz hx hb hr hlocks hP hI hS rfl (by simp only [f_X0_hasStep, if_neg c_5, if_neg c_9, if_neg c_19]) dX0_hasStep_27
abbrev rmX0_lengthOf : Room := { frames := 1, cells := 0, slots := 0, locals := 21 }
theorem eeX0_lengthOf : yX0_lengthOf.cls = RX0 ∧ yX0_lengthOf.cls ≠ "java/lang/invoke/MethodHandle" ∧ yX0_lengthOf.cls ≠ "java/lang/invoke/VarHandle" ∧ (parseMethodDescriptor yX0_lengthOf.desc).map (fun d => d.parameters.length) = some 1 := by decide +kernel
theorem iwX0_lengthOf : ∀ w ∈ u_ws RX0 TX0 4, w ∈ wsX0_lengthOf := by decide +kernel
theorem flX0_lengthOf_9 : Cond.fieldLink RX0 9 "LoomPanel$Patches" "lengths" "[I" ∈ wsX0_lengthOf := by decide +kernel
def f_X0_lengthOf (S : KS) (x1 : Int32) : Int32 := if (f_X0_has S x1) = 0 then (0) else (S.plen x1.toNatClampNeg)
set_option maxHeartbeats 4000000 in
set_option maxRecDepth 100000 in
theorem c_X0_lengthOf (l : Launch) (D : va_G) (cI cJ : ClassId) (a : Nat → Nat) (hd : ∀ i j, i < 11 → j < 11 → a i = a j → i = j) (S : KS) (x1 : Int32) : GRi l yX0_lengthOf wsX0_lengthOf rmX0_lengthOf [.ref (a 2), .int x1] D (cw_tys cI cJ) (cw cI cJ a) KInv (kA a) S (f_X0_lengthOf S x1) := by
  refine GB_of (cc := cX0_lengthOf) (maxL := 2) (ret := (some .int)) (by decide) rfl (Nat.le_of_ble_eq_true rfl) ?_
  intro p e s m below meth c C hP hI ls hl
  obtain ⟨hx, hb, hr, hlocks, hml, hown, hts, hK, hN⟩ := id C
  have hS : va_S (kA a) s.heap s.heap [] := va_S.rf
  have hl : lv_has ls 2 [(0, .ref (a 2)), (1, .int x1)] := hl
  refine lv_aload_n hx hb dX0_lengthOf_0 rfl (lv_at hl 0 rfl) ?_
  refine lv_iload_n hx hb dX0_lengthOf_1 rfl (lv_at hl 1 rfl) ?_
  refine g_Ri (As := [.int x1]) (rest := []) ⟨hx, hb, hml, hown, hts⟩ (c_X0_has l D cI cJ a hd S x1 ) (cwV 1 hts gX0_lengthOf_X0_has rfl rfl rfl eeX0_has ⟨Nat.le_of_ble_eq_true rfl, Nat.le_of_ble_eq_true rfl⟩) hK hN hP hI (va_recv hK hP (ci := 0) (q0 := 2) rfl rfl) hS rfl hl.1 rfl (Nat.le_of_ble_eq_true rfl) dX0_lengthOf_2 ⟨Nat.zero_le _, Nat.zero_le _⟩ (fun H locs hP hS => ?_)
  refine lv_if_eq (tgt := 17) hx hb dX0_lengthOf_5 (by decide) (fun c_5 => ?_) (fun c_5 => ?_)
  · skip
    refine lv_iconst (v := 0) hx hb dX0_lengthOf_17 (by decide) ?_
    exact r_Ri hx hb hr hlocks hP hI hS (by simp only [f_X0_lengthOf, if_pos c_5]) dX0_lengthOf_18
  · skip
    refine lv_aload_n hx hb dX0_lengthOf_8 rfl (lv_at hl 0 rfl) ?_
    refine va_get (D := D) (ci := 0) (v := .ref (a 7)) (C := RX0) (T := TX0) (N := 4) hx hb hts iwX0_lengthOf hown hK hP 2 rfl rfl 0 (by decide) (hts (.fieldLink RX0 9 "LoomPanel$Patches" "lengths" "[I") flX0_lengthOf_9) (fun _ h9 => h9) rfl dX0_lengthOf_9 ?_
    refine lv_iload_n hx hb dX0_lengthOf_12 rfl (lv_at hl 1 rfl) ?_
    refine va_iald hx hb hK hP 7 0 (f := S.plen) rfl rfl (hasP_in c_5) dX0_lengthOf_13 ?_
    refine lv_goto (tgt := 18) hx hb dX0_lengthOf_14 (by decide) ?_
    exact r_Ri hx hb hr hlocks hP hI hS (by simp only [f_X0_lengthOf, if_neg c_5]) dX0_lengthOf_18
theorem hasStep_in {S : KS} {x k : Int32} (hI : KInv S) (h : ¬ f_X0_hasStep S x k = 0) : vp_in x 6 ∧ vp_in k 12 := by
  unfold f_X0_hasStep at h
  obtain ⟨h1, h⟩ := ne_ite h
  obtain ⟨h2, h⟩ := ne_ite h
  obtain ⟨h3, h⟩ := ne_ite h
  have := hI.2.2 x.toNatClampNeg
  have := nle h3
  exact ⟨hasP_in h1, in2 (lt0 h2) (by omega)⟩
abbrev rmX0_actOf : Room := { frames := 2, cells := 0, slots := 0, locals := 43 }
theorem eeX0_actOf : yX0_actOf.cls = RX0 ∧ yX0_actOf.cls ≠ "java/lang/invoke/MethodHandle" ∧ yX0_actOf.cls ≠ "java/lang/invoke/VarHandle" ∧ (parseMethodDescriptor yX0_actOf.desc).map (fun d => d.parameters.length) = some 2 := by decide +kernel
theorem iwX0_actOf : ∀ w ∈ u_ws RX0 TX0 4, w ∈ wsX0_actOf := by decide +kernel
theorem flX0_actOf_15 : Cond.fieldLink RX0 15 "LoomPanel$Patches" "acts" "[I" ∈ wsX0_actOf := by decide +kernel
def f_X0_actOf (S : KS) (x1 : Int32) (x2 : Int32) : Int32 := if (f_X0_hasStep S x1 x2) = 0 then (12) else (S.pact ((x1 * 12) + x2).toNatClampNeg)
set_option maxHeartbeats 4000000 in
set_option maxRecDepth 100000 in
theorem c_X0_actOf (l : Launch) (D : va_G) (cI cJ : ClassId) (a : Nat → Nat) (hd : ∀ i j, i < 11 → j < 11 → a i = a j → i = j) (S : KS) (x1 : Int32) (x2 : Int32) : GRi l yX0_actOf wsX0_actOf rmX0_actOf [.ref (a 2), .int x1, .int x2] D (cw_tys cI cJ) (cw cI cJ a) KInv (kA a) S (f_X0_actOf S x1 x2) := by
  refine GB_of (cc := cX0_actOf) (maxL := 3) (ret := (some .int)) (by decide) rfl (Nat.le_of_ble_eq_true rfl) ?_
  intro p e s m below meth c C hP hI ls hl
  obtain ⟨hx, hb, hr, hlocks, hml, hown, hts, hK, hN⟩ := id C
  have hS : va_S (kA a) s.heap s.heap [] := va_S.rf
  have hl : lv_has ls 3 [(0, .ref (a 2)), (1, .int x1), (2, .int x2)] := hl
  refine lv_aload_n hx hb dX0_actOf_0 rfl (lv_at hl 0 rfl) ?_
  refine lv_iload_n hx hb dX0_actOf_1 rfl (lv_at hl 1 rfl) ?_
  refine lv_iload_n hx hb dX0_actOf_2 rfl (lv_at hl 2 rfl) ?_
  refine g_Ri (As := [.int x1, .int x2]) (rest := []) ⟨hx, hb, hml, hown, hts⟩ (c_X0_hasStep l D cI cJ a hd S x1 x2 ) (cwV 2 hts gX0_actOf_X0_hasStep rfl rfl rfl eeX0_hasStep ⟨Nat.le_of_ble_eq_true rfl, Nat.le_of_ble_eq_true rfl⟩) hK hN hP hI (va_recv hK hP (ci := 0) (q0 := 2) rfl rfl) hS rfl hl.1 rfl (Nat.le_of_ble_eq_true rfl) dX0_actOf_3 ⟨Nat.zero_le _, Nat.zero_le _⟩ (fun H locs hP hS => ?_)
  refine lv_if_eq (tgt := 23) hx hb dX0_actOf_6 (by decide) (fun c_6 => ?_) (fun c_6 => ?_)
  · skip
    refine lv_bipush (v := 12) hx hb dX0_actOf_23 (by decide) ?_
    exact r_Ri hx hb hr hlocks hP hI hS (by simp only [f_X0_actOf, if_pos c_6]) dX0_actOf_25
  · skip
    refine lv_aload_n hx hb dX0_actOf_9 rfl (lv_at hl 0 rfl) ?_
    refine va_get (D := D) (ci := 0) (v := .ref (a 8)) (C := RX0) (T := TX0) (N := 4) hx hb hts iwX0_actOf hown hK hP 2 rfl rfl 1 (by decide) (hts (.fieldLink RX0 15 "LoomPanel$Patches" "acts" "[I") flX0_actOf_15) (fun _ h9 => h9) rfl dX0_actOf_10 ?_
    refine lv_iload_n hx hb dX0_actOf_13 rfl (lv_at hl 1 rfl) ?_
    refine lv_bipush (v := 12) hx hb dX0_actOf_14 (by decide) ?_
    refine lv_imul hx hb dX0_actOf_16 ?_
    refine lv_iload_n hx hb dX0_actOf_17 rfl (lv_at hl 2 rfl) ?_
    refine lv_iadd hx hb dX0_actOf_18 ?_
    refine va_iald hx hb hK hP 8 0 (f := S.pact) rfl rfl (ix12 (hasStep_in hI c_6).1 (hasStep_in hI c_6).2) dX0_actOf_19 ?_
    refine lv_goto (tgt := 25) hx hb dX0_actOf_20 (by decide) ?_
    exact r_Ri hx hb hr hlocks hP hI hS (by simp only [f_X0_actOf, if_neg c_6]) dX0_actOf_25
abbrev rmX0_yOf : Room := { frames := 2, cells := 0, slots := 0, locals := 43 }
theorem eeX0_yOf : yX0_yOf.cls = RX0 ∧ yX0_yOf.cls ≠ "java/lang/invoke/MethodHandle" ∧ yX0_yOf.cls ≠ "java/lang/invoke/VarHandle" ∧ (parseMethodDescriptor yX0_yOf.desc).map (fun d => d.parameters.length) = some 2 := by decide +kernel
theorem iwX0_yOf : ∀ w ∈ u_ws RX0 TX0 4, w ∈ wsX0_yOf := by decide +kernel
theorem flX0_yOf_18 : Cond.fieldLink RX0 18 "LoomPanel$Patches" "ys" "[I" ∈ wsX0_yOf := by decide +kernel
def f_X0_yOf (S : KS) (x1 : Int32) (x2 : Int32) : Int32 := if (f_X0_hasStep S x1 x2) = 0 then ((-1)) else (S.py ((x1 * 12) + x2).toNatClampNeg)
set_option maxHeartbeats 4000000 in
set_option maxRecDepth 100000 in
theorem c_X0_yOf (l : Launch) (D : va_G) (cI cJ : ClassId) (a : Nat → Nat) (hd : ∀ i j, i < 11 → j < 11 → a i = a j → i = j) (S : KS) (x1 : Int32) (x2 : Int32) : GRi l yX0_yOf wsX0_yOf rmX0_yOf [.ref (a 2), .int x1, .int x2] D (cw_tys cI cJ) (cw cI cJ a) KInv (kA a) S (f_X0_yOf S x1 x2) := by
  refine GB_of (cc := cX0_yOf) (maxL := 3) (ret := (some .int)) (by decide) rfl (Nat.le_of_ble_eq_true rfl) ?_
  intro p e s m below meth c C hP hI ls hl
  obtain ⟨hx, hb, hr, hlocks, hml, hown, hts, hK, hN⟩ := id C
  have hS : va_S (kA a) s.heap s.heap [] := va_S.rf
  have hl : lv_has ls 3 [(0, .ref (a 2)), (1, .int x1), (2, .int x2)] := hl
  refine lv_aload_n hx hb dX0_yOf_0 rfl (lv_at hl 0 rfl) ?_
  refine lv_iload_n hx hb dX0_yOf_1 rfl (lv_at hl 1 rfl) ?_
  refine lv_iload_n hx hb dX0_yOf_2 rfl (lv_at hl 2 rfl) ?_
  refine g_Ri (As := [.int x1, .int x2]) (rest := []) ⟨hx, hb, hml, hown, hts⟩ (c_X0_hasStep l D cI cJ a hd S x1 x2 ) (cwV 2 hts gX0_yOf_X0_hasStep rfl rfl rfl eeX0_hasStep ⟨Nat.le_of_ble_eq_true rfl, Nat.le_of_ble_eq_true rfl⟩) hK hN hP hI (va_recv hK hP (ci := 0) (q0 := 2) rfl rfl) hS rfl hl.1 rfl (Nat.le_of_ble_eq_true rfl) dX0_yOf_3 ⟨Nat.zero_le _, Nat.zero_le _⟩ (fun H locs hP hS => ?_)
  refine lv_if_eq (tgt := 23) hx hb dX0_yOf_6 (by decide) (fun c_6 => ?_) (fun c_6 => ?_)
  · skip
    refine lv_iconst (v := (-1)) hx hb dX0_yOf_23 (by decide) ?_
    exact r_Ri hx hb hr hlocks hP hI hS (by simp only [f_X0_yOf, if_pos c_6]) dX0_yOf_24
  · skip
    refine lv_aload_n hx hb dX0_yOf_9 rfl (lv_at hl 0 rfl) ?_
    refine va_get (D := D) (ci := 0) (v := .ref (a 9)) (C := RX0) (T := TX0) (N := 4) hx hb hts iwX0_yOf hown hK hP 2 rfl rfl 2 (by decide) (hts (.fieldLink RX0 18 "LoomPanel$Patches" "ys" "[I") flX0_yOf_18) (fun _ h9 => h9) rfl dX0_yOf_10 ?_
    refine lv_iload_n hx hb dX0_yOf_13 rfl (lv_at hl 1 rfl) ?_
    refine lv_bipush (v := 12) hx hb dX0_yOf_14 (by decide) ?_
    refine lv_imul hx hb dX0_yOf_16 ?_
    refine lv_iload_n hx hb dX0_yOf_17 rfl (lv_at hl 2 rfl) ?_
    refine lv_iadd hx hb dX0_yOf_18 ?_
    refine va_iald hx hb hK hP 9 0 (f := S.py) rfl rfl (ix12 (hasStep_in hI c_6).1 (hasStep_in hI c_6).2) dX0_yOf_19 ?_
    refine lv_goto (tgt := 24) hx hb dX0_yOf_20 (by decide) ?_
    exact r_Ri hx hb hr hlocks hP hI hS (by simp only [f_X0_yOf, if_neg c_6]) dX0_yOf_24
abbrev rmX0_nOf : Room := { frames := 2, cells := 0, slots := 0, locals := 43 }
theorem eeX0_nOf : yX0_nOf.cls = RX0 ∧ yX0_nOf.cls ≠ "java/lang/invoke/MethodHandle" ∧ yX0_nOf.cls ≠ "java/lang/invoke/VarHandle" ∧ (parseMethodDescriptor yX0_nOf.desc).map (fun d => d.parameters.length) = some 2 := by decide +kernel
theorem iwX0_nOf : ∀ w ∈ u_ws RX0 TX0 4, w ∈ wsX0_nOf := by decide +kernel
theorem flX0_nOf_21 : Cond.fieldLink RX0 21 "LoomPanel$Patches" "ns" "[I" ∈ wsX0_nOf := by decide +kernel
def f_X0_nOf (S : KS) (x1 : Int32) (x2 : Int32) : Int32 := if (f_X0_hasStep S x1 x2) = 0 then (0) else (S.pn ((x1 * 12) + x2).toNatClampNeg)
set_option maxHeartbeats 4000000 in
set_option maxRecDepth 100000 in
theorem c_X0_nOf (l : Launch) (D : va_G) (cI cJ : ClassId) (a : Nat → Nat) (hd : ∀ i j, i < 11 → j < 11 → a i = a j → i = j) (S : KS) (x1 : Int32) (x2 : Int32) : GRi l yX0_nOf wsX0_nOf rmX0_nOf [.ref (a 2), .int x1, .int x2] D (cw_tys cI cJ) (cw cI cJ a) KInv (kA a) S (f_X0_nOf S x1 x2) := by
  refine GB_of (cc := cX0_nOf) (maxL := 3) (ret := (some .int)) (by decide) rfl (Nat.le_of_ble_eq_true rfl) ?_
  intro p e s m below meth c C hP hI ls hl
  obtain ⟨hx, hb, hr, hlocks, hml, hown, hts, hK, hN⟩ := id C
  have hS : va_S (kA a) s.heap s.heap [] := va_S.rf
  have hl : lv_has ls 3 [(0, .ref (a 2)), (1, .int x1), (2, .int x2)] := hl
  refine lv_aload_n hx hb dX0_nOf_0 rfl (lv_at hl 0 rfl) ?_
  refine lv_iload_n hx hb dX0_nOf_1 rfl (lv_at hl 1 rfl) ?_
  refine lv_iload_n hx hb dX0_nOf_2 rfl (lv_at hl 2 rfl) ?_
  refine g_Ri (As := [.int x1, .int x2]) (rest := []) ⟨hx, hb, hml, hown, hts⟩ (c_X0_hasStep l D cI cJ a hd S x1 x2 ) (cwV 2 hts gX0_nOf_X0_hasStep rfl rfl rfl eeX0_hasStep ⟨Nat.le_of_ble_eq_true rfl, Nat.le_of_ble_eq_true rfl⟩) hK hN hP hI (va_recv hK hP (ci := 0) (q0 := 2) rfl rfl) hS rfl hl.1 rfl (Nat.le_of_ble_eq_true rfl) dX0_nOf_3 ⟨Nat.zero_le _, Nat.zero_le _⟩ (fun H locs hP hS => ?_)
  refine lv_if_eq (tgt := 23) hx hb dX0_nOf_6 (by decide) (fun c_6 => ?_) (fun c_6 => ?_)
  · skip
    refine lv_iconst (v := 0) hx hb dX0_nOf_23 (by decide) ?_
    exact r_Ri hx hb hr hlocks hP hI hS (by simp only [f_X0_nOf, if_pos c_6]) dX0_nOf_24
  · skip
    refine lv_aload_n hx hb dX0_nOf_9 rfl (lv_at hl 0 rfl) ?_
    refine va_get (D := D) (ci := 0) (v := .ref (a 10)) (C := RX0) (T := TX0) (N := 4) hx hb hts iwX0_nOf hown hK hP 2 rfl rfl 3 (by decide) (hts (.fieldLink RX0 21 "LoomPanel$Patches" "ns" "[I") flX0_nOf_21) (fun _ h9 => h9) rfl dX0_nOf_10 ?_
    refine lv_iload_n hx hb dX0_nOf_13 rfl (lv_at hl 1 rfl) ?_
    refine lv_bipush (v := 12) hx hb dX0_nOf_14 (by decide) ?_
    refine lv_imul hx hb dX0_nOf_16 ?_
    refine lv_iload_n hx hb dX0_nOf_17 rfl (lv_at hl 2 rfl) ?_
    refine lv_iadd hx hb dX0_nOf_18 ?_
    refine va_iald hx hb hK hP 10 0 (f := S.pn) rfl rfl (ix12 (hasStep_in hI c_6).1 (hasStep_in hI c_6).2) dX0_nOf_19 ?_
    refine lv_goto (tgt := 24) hx hb dX0_nOf_20 (by decide) ?_
    exact r_Ri hx hb hr hlocks hP hI hS (by simp only [f_X0_nOf, if_neg c_6]) dX0_nOf_24
theorem plen_set {S : KS} {k : Nat} {v : Int32} (hI : KInv S) (h0 : 0 ≤ v.toInt) (h1 : v.toInt ≤ 12) : KInv (S.set_plen (upd S.plen k v)) := by
  refine ⟨hI.1, hI.2.1, fun i => ?_⟩
  show 0 ≤ (upd S.plen k v i).toInt ∧ (upd S.plen k v i).toInt ≤ 12
  by_cases h : i = k
  · subst h; rw [pk_us]; exact ⟨h0, h1⟩
  · rw [pk_un h]; exact hI.2.2 i
theorem plen_up {S : KS} {k j : Nat} (hI : KInv S) (h1 : (S.plen j).toInt < 12) : KInv (S.set_plen (upd S.plen k (S.plen j + 1))) := by
  have h := add1 (hI.2.2 j).1 h1 (by decide)
  exact plen_set hI (by have := hI.2.2 j; omega) (by omega)
abbrev rmX0_append : Room := { frames := 1, cells := 0, slots := 0, locals := 21 }
theorem eeX0_append : yX0_append.cls = RX0 ∧ yX0_append.cls ≠ "java/lang/invoke/MethodHandle" ∧ yX0_append.cls ≠ "java/lang/invoke/VarHandle" ∧ (parseMethodDescriptor yX0_append.desc).map (fun d => d.parameters.length) = some 4 := by decide +kernel
theorem iwX0_append : ∀ w ∈ u_ws RX0 TX0 4, w ∈ wsX0_append := by decide +kernel
theorem flX0_append_15 : Cond.fieldLink RX0 15 "LoomPanel$Patches" "acts" "[I" ∈ wsX0_append := by decide +kernel
theorem flX0_append_18 : Cond.fieldLink RX0 18 "LoomPanel$Patches" "ys" "[I" ∈ wsX0_append := by decide +kernel
theorem flX0_append_21 : Cond.fieldLink RX0 21 "LoomPanel$Patches" "ns" "[I" ∈ wsX0_append := by decide +kernel
theorem flX0_append_9 : Cond.fieldLink RX0 9 "LoomPanel$Patches" "lengths" "[I" ∈ wsX0_append := by decide +kernel
def f_X0_append (S : KS) (x1 : Int32) (x2 : Int32) (x3 : Int32) (x4 : Int32) : Int32 × KS := if (f_X0_has S x1) = 0 then (((-4), S)) else (if (S.plen x1.toNatClampNeg) < 12 then (((((((S.set_pact (upd S.pact ((x1 * 12) + (S.plen x1.toNatClampNeg)).toNatClampNeg x2)).set_py (upd ((S.set_pact (upd S.pact ((x1 * 12) + (S.plen x1.toNatClampNeg)).toNatClampNeg x2)).py) ((x1 * 12) + (S.plen x1.toNatClampNeg)).toNatClampNeg x3)).set_pn (upd (((S.set_pact (upd S.pact ((x1 * 12) + (S.plen x1.toNatClampNeg)).toNatClampNeg x2)).set_py (upd ((S.set_pact (upd S.pact ((x1 * 12) + (S.plen x1.toNatClampNeg)).toNatClampNeg x2)).py) ((x1 * 12) + (S.plen x1.toNatClampNeg)).toNatClampNeg x3)).pn) ((x1 * 12) + (S.plen x1.toNatClampNeg)).toNatClampNeg x4)).set_plen (upd ((((S.set_pact (upd S.pact ((x1 * 12) + (S.plen x1.toNatClampNeg)).toNatClampNeg x2)).set_py (upd ((S.set_pact (upd S.pact ((x1 * 12) + (S.plen x1.toNatClampNeg)).toNatClampNeg x2)).py) ((x1 * 12) + (S.plen x1.toNatClampNeg)).toNatClampNeg x3)).set_pn (upd (((S.set_pact (upd S.pact ((x1 * 12) + (S.plen x1.toNatClampNeg)).toNatClampNeg x2)).set_py (upd ((S.set_pact (upd S.pact ((x1 * 12) + (S.plen x1.toNatClampNeg)).toNatClampNeg x2)).py) ((x1 * 12) + (S.plen x1.toNatClampNeg)).toNatClampNeg x3)).pn) ((x1 * 12) + (S.plen x1.toNatClampNeg)).toNatClampNeg x4)).plen) x1.toNatClampNeg ((((((S.set_pact (upd S.pact ((x1 * 12) + (S.plen x1.toNatClampNeg)).toNatClampNeg x2)).set_py (upd ((S.set_pact (upd S.pact ((x1 * 12) + (S.plen x1.toNatClampNeg)).toNatClampNeg x2)).py) ((x1 * 12) + (S.plen x1.toNatClampNeg)).toNatClampNeg x3)).set_pn (upd (((S.set_pact (upd S.pact ((x1 * 12) + (S.plen x1.toNatClampNeg)).toNatClampNeg x2)).set_py (upd ((S.set_pact (upd S.pact ((x1 * 12) + (S.plen x1.toNatClampNeg)).toNatClampNeg x2)).py) ((x1 * 12) + (S.plen x1.toNatClampNeg)).toNatClampNeg x3)).pn) ((x1 * 12) + (S.plen x1.toNatClampNeg)).toNatClampNeg x4)).plen) x1.toNatClampNeg) + 1))).plen) x1.toNatClampNeg, (((S.set_pact (upd S.pact ((x1 * 12) + (S.plen x1.toNatClampNeg)).toNatClampNeg x2)).set_py (upd ((S.set_pact (upd S.pact ((x1 * 12) + (S.plen x1.toNatClampNeg)).toNatClampNeg x2)).py) ((x1 * 12) + (S.plen x1.toNatClampNeg)).toNatClampNeg x3)).set_pn (upd (((S.set_pact (upd S.pact ((x1 * 12) + (S.plen x1.toNatClampNeg)).toNatClampNeg x2)).set_py (upd ((S.set_pact (upd S.pact ((x1 * 12) + (S.plen x1.toNatClampNeg)).toNatClampNeg x2)).py) ((x1 * 12) + (S.plen x1.toNatClampNeg)).toNatClampNeg x3)).pn) ((x1 * 12) + (S.plen x1.toNatClampNeg)).toNatClampNeg x4)).set_plen (upd ((((S.set_pact (upd S.pact ((x1 * 12) + (S.plen x1.toNatClampNeg)).toNatClampNeg x2)).set_py (upd ((S.set_pact (upd S.pact ((x1 * 12) + (S.plen x1.toNatClampNeg)).toNatClampNeg x2)).py) ((x1 * 12) + (S.plen x1.toNatClampNeg)).toNatClampNeg x3)).set_pn (upd (((S.set_pact (upd S.pact ((x1 * 12) + (S.plen x1.toNatClampNeg)).toNatClampNeg x2)).set_py (upd ((S.set_pact (upd S.pact ((x1 * 12) + (S.plen x1.toNatClampNeg)).toNatClampNeg x2)).py) ((x1 * 12) + (S.plen x1.toNatClampNeg)).toNatClampNeg x3)).pn) ((x1 * 12) + (S.plen x1.toNatClampNeg)).toNatClampNeg x4)).plen) x1.toNatClampNeg ((((((S.set_pact (upd S.pact ((x1 * 12) + (S.plen x1.toNatClampNeg)).toNatClampNeg x2)).set_py (upd ((S.set_pact (upd S.pact ((x1 * 12) + (S.plen x1.toNatClampNeg)).toNatClampNeg x2)).py) ((x1 * 12) + (S.plen x1.toNatClampNeg)).toNatClampNeg x3)).set_pn (upd (((S.set_pact (upd S.pact ((x1 * 12) + (S.plen x1.toNatClampNeg)).toNatClampNeg x2)).set_py (upd ((S.set_pact (upd S.pact ((x1 * 12) + (S.plen x1.toNatClampNeg)).toNatClampNeg x2)).py) ((x1 * 12) + (S.plen x1.toNatClampNeg)).toNatClampNeg x3)).pn) ((x1 * 12) + (S.plen x1.toNatClampNeg)).toNatClampNeg x4)).plen) x1.toNatClampNeg) + 1)))) else (((-4), S)))
set_option maxHeartbeats 4000000 in
set_option maxRecDepth 100000 in
theorem c_X0_append (l : Launch) (D : va_G) (cI cJ : ClassId) (a : Nat → Nat) (hd : ∀ i j, i < 11 → j < 11 → a i = a j → i = j) (S : KS) (x1 : Int32) (x2 : Int32) (x3 : Int32) (x4 : Int32) : GWi l yX0_append wsX0_append rmX0_append [.ref (a 2), .int x1, .int x2, .int x3, .int x4] D (cw_tys cI cJ) (cw cI cJ a) KInv (kA a) S (f_X0_append S x1 x2 x3 x4) := by
  refine GB_of (cc := cX0_append) (maxL := 6) (ret := (some .int)) (by decide) rfl (Nat.le_of_ble_eq_true rfl) ?_
  intro p e s m below meth c C hP hI ls hl
  obtain ⟨hx, hb, hr, hlocks, hml, hown, hts, hK, hN⟩ := id C
  have hS : va_S (kA a) s.heap s.heap [] := va_S.rf
  have hl : lv_has ls 6 [(0, .ref (a 2)), (1, .int x1), (2, .int x2), (3, .int x3), (4, .int x4)] := hl
  refine lv_aload_n hx hb dX0_append_0 rfl (lv_at hl 0 rfl) ?_
  refine lv_iload_n hx hb dX0_append_1 rfl (lv_at hl 1 rfl) ?_
  refine g_Ri (As := [.int x1]) (rest := []) ⟨hx, hb, hml, hown, hts⟩ (c_X0_has l D cI cJ a hd S x1 ) (cwV 1 hts gX0_append_X0_has rfl rfl rfl eeX0_has ⟨Nat.le_of_ble_eq_true rfl, Nat.le_of_ble_eq_true rfl⟩) hK hN hP hI (va_recv hK hP (ci := 0) (q0 := 2) rfl rfl) hS rfl hl.1 rfl (Nat.le_of_ble_eq_true rfl) dX0_append_2 ⟨Nat.zero_le _, Nat.zero_le _⟩ (fun H locs hP hS => ?_)
  refine lv_if_eq (tgt := 19) hx hb dX0_append_5 (by decide) (fun c_5 => ?_) (fun c_5 => ?_)
  · skip
    refine lv_bipush (v := (-4)) hx hb dX0_append_19 (by decide) ?_
    exact r_Wi hx hb hr hlocks hP hI hS (by simp only [f_X0_append, if_pos c_5]) dX0_append_21
  · skip
    refine lv_aload_n hx hb dX0_append_8 rfl (lv_at hl 0 rfl) ?_
    refine va_get (D := D) (ci := 0) (v := .ref (a 7)) (C := RX0) (T := TX0) (N := 4) hx hb hts iwX0_append hown hK hP 2 rfl rfl 0 (by decide) (hts (.fieldLink RX0 9 "LoomPanel$Patches" "lengths" "[I") flX0_append_9) (fun _ h9 => h9) rfl dX0_append_9 ?_
    refine lv_iload_n hx hb dX0_append_12 rfl (lv_at hl 1 rfl) ?_
    refine va_iald hx hb hK hP 7 0 (f := S.plen) rfl rfl (hasP_in c_5) dX0_append_13 ?_
    refine lv_bipush (v := 12) hx hb dX0_append_14 (by decide) ?_
    refine lv_icmp_lt (tgt := 22) hx hb dX0_append_16 (by decide) (fun c_16 => ?_) (fun c_16 => ?_)
    · skip
      refine lv_iload_n hx hb dX0_append_22 rfl (lv_at hl 1 rfl) ?_
      refine lv_bipush (v := 12) hx hb dX0_append_23 (by decide) ?_
      refine lv_imul hx hb dX0_append_25 ?_
      refine lv_aload_n hx hb dX0_append_26 rfl (lv_at hl 0 rfl) ?_
      refine va_get (D := D) (ci := 0) (v := .ref (a 7)) (C := RX0) (T := TX0) (N := 4) hx hb hts iwX0_append hown hK hP 2 rfl rfl 0 (by decide) (hts (.fieldLink RX0 9 "LoomPanel$Patches" "lengths" "[I") flX0_append_9) (fun _ h9 => h9) rfl dX0_append_27 ?_
      refine lv_iload_n hx hb dX0_append_30 rfl (lv_at hl 1 rfl) ?_
      refine va_iald hx hb hK hP 7 0 (f := S.plen) rfl rfl (hasP_in c_5) dX0_append_31 ?_
      refine lv_iadd hx hb dX0_append_32 ?_
      refine lv_istore (lv' := [(5, .int ((x1 * 12) + (S.plen x1.toNatClampNeg))), (0, .ref (a 2)), (1, .int x1), (2, .int x2), (3, .int x3), (4, .int x4)]) hx hb dX0_append_33 hl (by decide) rfl (fun ls hl => ?_)
      refine lv_aload_n hx hb dX0_append_35 rfl (lv_at hl 1 rfl) ?_
      refine va_get (D := D) (ci := 0) (v := .ref (a 8)) (C := RX0) (T := TX0) (N := 4) hx hb hts iwX0_append hown hK hP 2 rfl rfl 1 (by decide) (hts (.fieldLink RX0 15 "LoomPanel$Patches" "acts" "[I") flX0_append_15) (fun _ h9 => h9) rfl dX0_append_36 ?_
      refine lv_iload hx hb dX0_append_39 (lv_at hl 0 rfl) ?_
      refine lv_iload_n hx hb dX0_append_41 rfl (lv_at hl 3 rfl) ?_
      refine va_iast hx hb hK hP (cw_D hd) hS 8 0 (f := S.pact) rfl rfl (ix12 (hasP_in c_5) (in2 (hI.2.2 _).1 (by have h7 := Int32.lt_iff_toInt_lt.mp c_16; exact h7))) dX0_append_42 (fun H locs hP _ hS => ?_)
      have hP : va_P D vwCl (cw cI cJ a (S.set_pact (upd S.pact ((x1 * 12) + (S.plen x1.toNatClampNeg)).toNatClampNeg x2))) H := by rw [← cw_set_pact]; exact hP
      have hI : KInv (S.set_pact (upd S.pact ((x1 * 12) + (S.plen x1.toNatClampNeg)).toNatClampNeg x2)) := KInv_set_pact hI
      refine lv_aload_n hx hb dX0_append_43 rfl (lv_at hl 1 rfl) ?_
      refine va_get (D := D) (ci := 0) (v := .ref (a 9)) (C := RX0) (T := TX0) (N := 4) hx hb hts iwX0_append hown hK hP 2 rfl rfl 2 (by decide) (hts (.fieldLink RX0 18 "LoomPanel$Patches" "ys" "[I") flX0_append_18) (fun _ h9 => h9) rfl dX0_append_44 ?_
      refine lv_iload hx hb dX0_append_47 (lv_at hl 0 rfl) ?_
      refine lv_iload_n hx hb dX0_append_49 rfl (lv_at hl 4 rfl) ?_
      refine va_iast hx hb hK hP (cw_D hd) hS 9 0 (f := (S.set_pact (upd S.pact ((x1 * 12) + (S.plen x1.toNatClampNeg)).toNatClampNeg x2)).py) rfl rfl (ix12 (hasP_in c_5) (in2 (hI.2.2 _).1 (by have h7 := Int32.lt_iff_toInt_lt.mp c_16; exact h7))) dX0_append_50 (fun H locs hP _ hS => ?_)
      have hP : va_P D vwCl (cw cI cJ a ((S.set_pact (upd S.pact ((x1 * 12) + (S.plen x1.toNatClampNeg)).toNatClampNeg x2)).set_py (upd ((S.set_pact (upd S.pact ((x1 * 12) + (S.plen x1.toNatClampNeg)).toNatClampNeg x2)).py) ((x1 * 12) + (S.plen x1.toNatClampNeg)).toNatClampNeg x3))) H := by rw [← cw_set_py]; exact hP
      have hI : KInv ((S.set_pact (upd S.pact ((x1 * 12) + (S.plen x1.toNatClampNeg)).toNatClampNeg x2)).set_py (upd ((S.set_pact (upd S.pact ((x1 * 12) + (S.plen x1.toNatClampNeg)).toNatClampNeg x2)).py) ((x1 * 12) + (S.plen x1.toNatClampNeg)).toNatClampNeg x3)) := KInv_set_py hI
      refine lv_aload_n hx hb dX0_append_51 rfl (lv_at hl 1 rfl) ?_
      refine va_get (D := D) (ci := 0) (v := .ref (a 10)) (C := RX0) (T := TX0) (N := 4) hx hb hts iwX0_append hown hK hP 2 rfl rfl 3 (by decide) (hts (.fieldLink RX0 21 "LoomPanel$Patches" "ns" "[I") flX0_append_21) (fun _ h9 => h9) rfl dX0_append_52 ?_
      refine lv_iload hx hb dX0_append_55 (lv_at hl 0 rfl) ?_
      refine lv_iload hx hb dX0_append_57 (lv_at hl 5 rfl) ?_
      refine va_iast hx hb hK hP (cw_D hd) hS 10 0 (f := ((S.set_pact (upd S.pact ((x1 * 12) + (S.plen x1.toNatClampNeg)).toNatClampNeg x2)).set_py (upd ((S.set_pact (upd S.pact ((x1 * 12) + (S.plen x1.toNatClampNeg)).toNatClampNeg x2)).py) ((x1 * 12) + (S.plen x1.toNatClampNeg)).toNatClampNeg x3)).pn) rfl rfl (ix12 (hasP_in c_5) (in2 (hI.2.2 _).1 (by have h7 := Int32.lt_iff_toInt_lt.mp c_16; exact h7))) dX0_append_59 (fun H locs hP _ hS => ?_)
      have hP : va_P D vwCl (cw cI cJ a (((S.set_pact (upd S.pact ((x1 * 12) + (S.plen x1.toNatClampNeg)).toNatClampNeg x2)).set_py (upd ((S.set_pact (upd S.pact ((x1 * 12) + (S.plen x1.toNatClampNeg)).toNatClampNeg x2)).py) ((x1 * 12) + (S.plen x1.toNatClampNeg)).toNatClampNeg x3)).set_pn (upd (((S.set_pact (upd S.pact ((x1 * 12) + (S.plen x1.toNatClampNeg)).toNatClampNeg x2)).set_py (upd ((S.set_pact (upd S.pact ((x1 * 12) + (S.plen x1.toNatClampNeg)).toNatClampNeg x2)).py) ((x1 * 12) + (S.plen x1.toNatClampNeg)).toNatClampNeg x3)).pn) ((x1 * 12) + (S.plen x1.toNatClampNeg)).toNatClampNeg x4))) H := by rw [← cw_set_pn]; exact hP
      have hI : KInv (((S.set_pact (upd S.pact ((x1 * 12) + (S.plen x1.toNatClampNeg)).toNatClampNeg x2)).set_py (upd ((S.set_pact (upd S.pact ((x1 * 12) + (S.plen x1.toNatClampNeg)).toNatClampNeg x2)).py) ((x1 * 12) + (S.plen x1.toNatClampNeg)).toNatClampNeg x3)).set_pn (upd (((S.set_pact (upd S.pact ((x1 * 12) + (S.plen x1.toNatClampNeg)).toNatClampNeg x2)).set_py (upd ((S.set_pact (upd S.pact ((x1 * 12) + (S.plen x1.toNatClampNeg)).toNatClampNeg x2)).py) ((x1 * 12) + (S.plen x1.toNatClampNeg)).toNatClampNeg x3)).pn) ((x1 * 12) + (S.plen x1.toNatClampNeg)).toNatClampNeg x4)) := KInv_set_pn hI
      refine lv_aload_n hx hb dX0_append_60 rfl (lv_at hl 1 rfl) ?_
      refine va_get (D := D) (ci := 0) (v := .ref (a 7)) (C := RX0) (T := TX0) (N := 4) hx hb hts iwX0_append hown hK hP 2 rfl rfl 0 (by decide) (hts (.fieldLink RX0 9 "LoomPanel$Patches" "lengths" "[I") flX0_append_9) (fun _ h9 => h9) rfl dX0_append_61 ?_
      refine lv_iload_n hx hb dX0_append_64 rfl (lv_at hl 2 rfl) ?_
      refine lv_dup2_11 hx hb dX0_append_65 rfl rfl ?_
      refine va_iald hx hb hK hP 7 0 (f := (((S.set_pact (upd S.pact ((x1 * 12) + (S.plen x1.toNatClampNeg)).toNatClampNeg x2)).set_py (upd ((S.set_pact (upd S.pact ((x1 * 12) + (S.plen x1.toNatClampNeg)).toNatClampNeg x2)).py) ((x1 * 12) + (S.plen x1.toNatClampNeg)).toNatClampNeg x3)).set_pn (upd (((S.set_pact (upd S.pact ((x1 * 12) + (S.plen x1.toNatClampNeg)).toNatClampNeg x2)).set_py (upd ((S.set_pact (upd S.pact ((x1 * 12) + (S.plen x1.toNatClampNeg)).toNatClampNeg x2)).py) ((x1 * 12) + (S.plen x1.toNatClampNeg)).toNatClampNeg x3)).pn) ((x1 * 12) + (S.plen x1.toNatClampNeg)).toNatClampNeg x4)).plen) rfl rfl (hasP_in c_5) dX0_append_66 ?_
      refine lv_iconst (v := 1) hx hb dX0_append_67 (by decide) ?_
      refine lv_iadd hx hb dX0_append_68 ?_
      refine va_iast hx hb hK hP (cw_D hd) hS 7 0 (f := (((S.set_pact (upd S.pact ((x1 * 12) + (S.plen x1.toNatClampNeg)).toNatClampNeg x2)).set_py (upd ((S.set_pact (upd S.pact ((x1 * 12) + (S.plen x1.toNatClampNeg)).toNatClampNeg x2)).py) ((x1 * 12) + (S.plen x1.toNatClampNeg)).toNatClampNeg x3)).set_pn (upd (((S.set_pact (upd S.pact ((x1 * 12) + (S.plen x1.toNatClampNeg)).toNatClampNeg x2)).set_py (upd ((S.set_pact (upd S.pact ((x1 * 12) + (S.plen x1.toNatClampNeg)).toNatClampNeg x2)).py) ((x1 * 12) + (S.plen x1.toNatClampNeg)).toNatClampNeg x3)).pn) ((x1 * 12) + (S.plen x1.toNatClampNeg)).toNatClampNeg x4)).plen) rfl rfl (hasP_in c_5) dX0_append_69 (fun H locs hP _ hS => ?_)
      have hP : va_P D vwCl (cw cI cJ a ((((S.set_pact (upd S.pact ((x1 * 12) + (S.plen x1.toNatClampNeg)).toNatClampNeg x2)).set_py (upd ((S.set_pact (upd S.pact ((x1 * 12) + (S.plen x1.toNatClampNeg)).toNatClampNeg x2)).py) ((x1 * 12) + (S.plen x1.toNatClampNeg)).toNatClampNeg x3)).set_pn (upd (((S.set_pact (upd S.pact ((x1 * 12) + (S.plen x1.toNatClampNeg)).toNatClampNeg x2)).set_py (upd ((S.set_pact (upd S.pact ((x1 * 12) + (S.plen x1.toNatClampNeg)).toNatClampNeg x2)).py) ((x1 * 12) + (S.plen x1.toNatClampNeg)).toNatClampNeg x3)).pn) ((x1 * 12) + (S.plen x1.toNatClampNeg)).toNatClampNeg x4)).set_plen (upd ((((S.set_pact (upd S.pact ((x1 * 12) + (S.plen x1.toNatClampNeg)).toNatClampNeg x2)).set_py (upd ((S.set_pact (upd S.pact ((x1 * 12) + (S.plen x1.toNatClampNeg)).toNatClampNeg x2)).py) ((x1 * 12) + (S.plen x1.toNatClampNeg)).toNatClampNeg x3)).set_pn (upd (((S.set_pact (upd S.pact ((x1 * 12) + (S.plen x1.toNatClampNeg)).toNatClampNeg x2)).set_py (upd ((S.set_pact (upd S.pact ((x1 * 12) + (S.plen x1.toNatClampNeg)).toNatClampNeg x2)).py) ((x1 * 12) + (S.plen x1.toNatClampNeg)).toNatClampNeg x3)).pn) ((x1 * 12) + (S.plen x1.toNatClampNeg)).toNatClampNeg x4)).plen) x1.toNatClampNeg ((((((S.set_pact (upd S.pact ((x1 * 12) + (S.plen x1.toNatClampNeg)).toNatClampNeg x2)).set_py (upd ((S.set_pact (upd S.pact ((x1 * 12) + (S.plen x1.toNatClampNeg)).toNatClampNeg x2)).py) ((x1 * 12) + (S.plen x1.toNatClampNeg)).toNatClampNeg x3)).set_pn (upd (((S.set_pact (upd S.pact ((x1 * 12) + (S.plen x1.toNatClampNeg)).toNatClampNeg x2)).set_py (upd ((S.set_pact (upd S.pact ((x1 * 12) + (S.plen x1.toNatClampNeg)).toNatClampNeg x2)).py) ((x1 * 12) + (S.plen x1.toNatClampNeg)).toNatClampNeg x3)).pn) ((x1 * 12) + (S.plen x1.toNatClampNeg)).toNatClampNeg x4)).plen) x1.toNatClampNeg) + 1)))) H := by rw [← cw_set_plen]; exact hP
      have hI : KInv ((((S.set_pact (upd S.pact ((x1 * 12) + (S.plen x1.toNatClampNeg)).toNatClampNeg x2)).set_py (upd ((S.set_pact (upd S.pact ((x1 * 12) + (S.plen x1.toNatClampNeg)).toNatClampNeg x2)).py) ((x1 * 12) + (S.plen x1.toNatClampNeg)).toNatClampNeg x3)).set_pn (upd (((S.set_pact (upd S.pact ((x1 * 12) + (S.plen x1.toNatClampNeg)).toNatClampNeg x2)).set_py (upd ((S.set_pact (upd S.pact ((x1 * 12) + (S.plen x1.toNatClampNeg)).toNatClampNeg x2)).py) ((x1 * 12) + (S.plen x1.toNatClampNeg)).toNatClampNeg x3)).pn) ((x1 * 12) + (S.plen x1.toNatClampNeg)).toNatClampNeg x4)).set_plen (upd ((((S.set_pact (upd S.pact ((x1 * 12) + (S.plen x1.toNatClampNeg)).toNatClampNeg x2)).set_py (upd ((S.set_pact (upd S.pact ((x1 * 12) + (S.plen x1.toNatClampNeg)).toNatClampNeg x2)).py) ((x1 * 12) + (S.plen x1.toNatClampNeg)).toNatClampNeg x3)).set_pn (upd (((S.set_pact (upd S.pact ((x1 * 12) + (S.plen x1.toNatClampNeg)).toNatClampNeg x2)).set_py (upd ((S.set_pact (upd S.pact ((x1 * 12) + (S.plen x1.toNatClampNeg)).toNatClampNeg x2)).py) ((x1 * 12) + (S.plen x1.toNatClampNeg)).toNatClampNeg x3)).pn) ((x1 * 12) + (S.plen x1.toNatClampNeg)).toNatClampNeg x4)).plen) x1.toNatClampNeg ((((((S.set_pact (upd S.pact ((x1 * 12) + (S.plen x1.toNatClampNeg)).toNatClampNeg x2)).set_py (upd ((S.set_pact (upd S.pact ((x1 * 12) + (S.plen x1.toNatClampNeg)).toNatClampNeg x2)).py) ((x1 * 12) + (S.plen x1.toNatClampNeg)).toNatClampNeg x3)).set_pn (upd (((S.set_pact (upd S.pact ((x1 * 12) + (S.plen x1.toNatClampNeg)).toNatClampNeg x2)).set_py (upd ((S.set_pact (upd S.pact ((x1 * 12) + (S.plen x1.toNatClampNeg)).toNatClampNeg x2)).py) ((x1 * 12) + (S.plen x1.toNatClampNeg)).toNatClampNeg x3)).pn) ((x1 * 12) + (S.plen x1.toNatClampNeg)).toNatClampNeg x4)).plen) x1.toNatClampNeg) + 1))) := plen_up hI (by simp only [KS.plen_set_pact, KS.plen_set_py, KS.plen_set_pn]; exact Int32.lt_iff_toInt_lt.mp c_16)
      refine lv_aload_n hx hb dX0_append_70 rfl (lv_at hl 1 rfl) ?_
      refine va_get (D := D) (ci := 0) (v := .ref (a 7)) (C := RX0) (T := TX0) (N := 4) hx hb hts iwX0_append hown hK hP 2 rfl rfl 0 (by decide) (hts (.fieldLink RX0 9 "LoomPanel$Patches" "lengths" "[I") flX0_append_9) (fun _ h9 => h9) rfl dX0_append_71 ?_
      refine lv_iload_n hx hb dX0_append_74 rfl (lv_at hl 2 rfl) ?_
      refine va_iald hx hb hK hP 7 0 (f := ((((S.set_pact (upd S.pact ((x1 * 12) + (S.plen x1.toNatClampNeg)).toNatClampNeg x2)).set_py (upd ((S.set_pact (upd S.pact ((x1 * 12) + (S.plen x1.toNatClampNeg)).toNatClampNeg x2)).py) ((x1 * 12) + (S.plen x1.toNatClampNeg)).toNatClampNeg x3)).set_pn (upd (((S.set_pact (upd S.pact ((x1 * 12) + (S.plen x1.toNatClampNeg)).toNatClampNeg x2)).set_py (upd ((S.set_pact (upd S.pact ((x1 * 12) + (S.plen x1.toNatClampNeg)).toNatClampNeg x2)).py) ((x1 * 12) + (S.plen x1.toNatClampNeg)).toNatClampNeg x3)).pn) ((x1 * 12) + (S.plen x1.toNatClampNeg)).toNatClampNeg x4)).set_plen (upd ((((S.set_pact (upd S.pact ((x1 * 12) + (S.plen x1.toNatClampNeg)).toNatClampNeg x2)).set_py (upd ((S.set_pact (upd S.pact ((x1 * 12) + (S.plen x1.toNatClampNeg)).toNatClampNeg x2)).py) ((x1 * 12) + (S.plen x1.toNatClampNeg)).toNatClampNeg x3)).set_pn (upd (((S.set_pact (upd S.pact ((x1 * 12) + (S.plen x1.toNatClampNeg)).toNatClampNeg x2)).set_py (upd ((S.set_pact (upd S.pact ((x1 * 12) + (S.plen x1.toNatClampNeg)).toNatClampNeg x2)).py) ((x1 * 12) + (S.plen x1.toNatClampNeg)).toNatClampNeg x3)).pn) ((x1 * 12) + (S.plen x1.toNatClampNeg)).toNatClampNeg x4)).plen) x1.toNatClampNeg ((((((S.set_pact (upd S.pact ((x1 * 12) + (S.plen x1.toNatClampNeg)).toNatClampNeg x2)).set_py (upd ((S.set_pact (upd S.pact ((x1 * 12) + (S.plen x1.toNatClampNeg)).toNatClampNeg x2)).py) ((x1 * 12) + (S.plen x1.toNatClampNeg)).toNatClampNeg x3)).set_pn (upd (((S.set_pact (upd S.pact ((x1 * 12) + (S.plen x1.toNatClampNeg)).toNatClampNeg x2)).set_py (upd ((S.set_pact (upd S.pact ((x1 * 12) + (S.plen x1.toNatClampNeg)).toNatClampNeg x2)).py) ((x1 * 12) + (S.plen x1.toNatClampNeg)).toNatClampNeg x3)).pn) ((x1 * 12) + (S.plen x1.toNatClampNeg)).toNatClampNeg x4)).plen) x1.toNatClampNeg) + 1))).plen) rfl rfl (hasP_in c_5) dX0_append_75 ?_
      exact r_Wi hx hb hr hlocks hP hI hS (by simp only [f_X0_append, if_neg c_5, if_pos c_16]) dX0_append_76
    · skip
      refine lv_bipush (v := (-4)) hx hb dX0_append_19 (by decide) ?_
      exact r_Wi hx hb hr hlocks hP hI hS (by simp only [f_X0_append, if_neg c_5, if_neg c_16]) dX0_append_21
abbrev rmX0_drop : Room := { frames := 2, cells := 0, slots := 0, locals := 42 }
theorem eeX0_drop : yX0_drop.cls = RX0 ∧ yX0_drop.cls ≠ "java/lang/invoke/MethodHandle" ∧ yX0_drop.cls ≠ "java/lang/invoke/VarHandle" ∧ (parseMethodDescriptor yX0_drop.desc).map (fun d => d.parameters.length) = some 1 := by decide +kernel
theorem iwX0_drop : ∀ w ∈ u_ws RX0 TX0 4, w ∈ wsX0_drop := by decide +kernel
theorem flX0_drop_9 : Cond.fieldLink RX0 9 "LoomPanel$Patches" "lengths" "[I" ∈ wsX0_drop := by decide +kernel
def f_X0_drop (S : KS) (x1 : Int32) : Int32 × KS := if (f_X0_has S x1) = 0 then ((f_X0_lengthOf S x1, S)) else ((f_X0_lengthOf S x1, S.set_plen (upd S.plen x1.toNatClampNeg 0)))
set_option maxHeartbeats 4000000 in
set_option maxRecDepth 100000 in
theorem c_X0_drop (l : Launch) (D : va_G) (cI cJ : ClassId) (a : Nat → Nat) (hd : ∀ i j, i < 11 → j < 11 → a i = a j → i = j) (S : KS) (x1 : Int32) : GWi l yX0_drop wsX0_drop rmX0_drop [.ref (a 2), .int x1] D (cw_tys cI cJ) (cw cI cJ a) KInv (kA a) S (f_X0_drop S x1) := by
  refine GB_of (cc := cX0_drop) (maxL := 3) (ret := (some .int)) (by decide) rfl (Nat.le_of_ble_eq_true rfl) ?_
  intro p e s m below meth c C hP hI ls hl
  obtain ⟨hx, hb, hr, hlocks, hml, hown, hts, hK, hN⟩ := id C
  have hS : va_S (kA a) s.heap s.heap [] := va_S.rf
  have hl : lv_has ls 3 [(0, .ref (a 2)), (1, .int x1)] := hl
  refine lv_aload_n hx hb dX0_drop_0 rfl (lv_at hl 0 rfl) ?_
  refine lv_iload_n hx hb dX0_drop_1 rfl (lv_at hl 1 rfl) ?_
  refine g_Ri (As := [.int x1]) (rest := []) ⟨hx, hb, hml, hown, hts⟩ (c_X0_lengthOf l D cI cJ a hd S x1 ) (cwV 1 hts gX0_drop_X0_lengthOf rfl rfl rfl eeX0_lengthOf ⟨Nat.le_of_ble_eq_true rfl, Nat.le_of_ble_eq_true rfl⟩) hK hN hP hI (va_recv hK hP (ci := 0) (q0 := 2) rfl rfl) hS rfl hl.1 rfl (Nat.le_of_ble_eq_true rfl) dX0_drop_2 ⟨Nat.zero_le _, Nat.zero_le _⟩ (fun H locs hP hS => ?_)
  refine lv_istore_n (lv' := [(2, .int (f_X0_lengthOf S x1)), (0, .ref (a 2)), (1, .int x1)]) hx hb dX0_drop_5 rfl hl (by decide) rfl (fun ls hl => ?_)
  refine lv_aload_n hx hb dX0_drop_6 rfl (lv_at hl 1 rfl) ?_
  refine lv_iload_n hx hb dX0_drop_7 rfl (lv_at hl 2 rfl) ?_
  refine g_Ri (As := [.int x1]) (rest := []) ⟨hx, hb, hml, hown, hts⟩ (c_X0_has l D cI cJ a hd S x1 ) (cwV 1 hts gX0_drop_X0_has rfl rfl rfl eeX0_has ⟨Nat.le_of_ble_eq_true rfl, Nat.le_of_ble_eq_true rfl⟩) hK hN hP hI (va_recv hK hP (ci := 0) (q0 := 2) rfl rfl) hS rfl hl.1 rfl (Nat.le_of_ble_eq_true rfl) dX0_drop_8 ⟨Nat.zero_le _, Nat.zero_le _⟩ (fun H locs hP hS => ?_)
  refine lv_if_eq (tgt := 21) hx hb dX0_drop_11 (by decide) (fun c_11 => ?_) (fun c_11 => ?_)
  · skip
    refine lv_iload_n hx hb dX0_drop_21 rfl (lv_at hl 0 rfl) ?_
    exact r_Wi hx hb hr hlocks hP hI hS (by simp only [f_X0_drop, if_pos c_11]) dX0_drop_22
  · skip
    refine lv_aload_n hx hb dX0_drop_14 rfl (lv_at hl 1 rfl) ?_
    refine va_get (D := D) (ci := 0) (v := .ref (a 7)) (C := RX0) (T := TX0) (N := 4) hx hb hts iwX0_drop hown hK hP 2 rfl rfl 0 (by decide) (hts (.fieldLink RX0 9 "LoomPanel$Patches" "lengths" "[I") flX0_drop_9) (fun _ h9 => h9) rfl dX0_drop_15 ?_
    refine lv_iload_n hx hb dX0_drop_18 rfl (lv_at hl 2 rfl) ?_
    refine lv_iconst (v := 0) hx hb dX0_drop_19 (by decide) ?_
    refine va_iast hx hb hK hP (cw_D hd) hS 7 0 (f := S.plen) rfl rfl (hasP_in c_11) dX0_drop_20 (fun H locs hP _ hS => ?_)
    have hP : va_P D vwCl (cw cI cJ a (S.set_plen (upd S.plen x1.toNatClampNeg 0))) H := by rw [← cw_set_plen]; exact hP
    have hI : KInv (S.set_plen (upd S.plen x1.toNatClampNeg 0)) := plen_set hI (by decide) (by decide)
    refine lv_iload_n hx hb dX0_drop_21 rfl (lv_at hl 0 rfl) ?_
    exact r_Wi hx hb hr hlocks hP hI hS (by simp only [f_X0_drop, if_neg c_11]) dX0_drop_22
abbrev rmX0_dropAll : Room := { frames := 0, cells := 0, slots := 0, locals := 0 }
theorem eeX0_dropAll : yX0_dropAll.cls = RX0 ∧ yX0_dropAll.cls ≠ "java/lang/invoke/MethodHandle" ∧ yX0_dropAll.cls ≠ "java/lang/invoke/VarHandle" ∧ (parseMethodDescriptor yX0_dropAll.desc).map (fun d => d.parameters.length) = some 0 := by decide +kernel
theorem iwX0_dropAll : ∀ w ∈ u_ws RX0 TX0 4, w ∈ wsX0_dropAll := by decide +kernel
theorem flX0_dropAll_9 : Cond.fieldLink RX0 9 "LoomPanel$Patches" "lengths" "[I" ∈ wsX0_dropAll := by decide +kernel
def f_X0_dropAll_c2 : Nat → KS → Nat → KS
  | 0, S, _ => S
  | n + 1, S, j => if 6 ≤ (nI j) then (S) else (f_X0_dropAll_c2 n (S.set_plen (upd S.plen (nI j).toNatClampNeg 0)) (j + 1))
set_option maxHeartbeats 4000000 in
set_option maxRecDepth 100000 in
theorem w_X0_dropAll_c2 {l : Launch} {D : va_G} {cI cJ : ClassId} {a : Nat → Nat} (hd : ∀ i j, i < 11 → j < 11 → a i = a j → i = j) {p : Program} {e : Env} {s : State} {m : MethodId} {args : Array Value} {below : List Frame} {meth : Method} {c : Code} (C : GC p s m meth c cX0_dropAll none 2 RX0 wsX0_dropAll args D (cw_tys cI cJ)) {v : KS} : ∀ (n : Nat) (S : KS) (j : Nat) (hj : j ≤ 6) (hn : j + n = 7) (H : Heap) (locs : List Loc) (ls : Array Slot), va_P D vwCl (cw cI cJ a S) H → KInv S → va_S (kA a) s.heap H locs → lv_has ls 2 [(0, .ref (a 2)), (1, .int (nI j))] → v = f_X0_dropAll_c2 n S j → W p l e rmX0_dropAll s m args below meth c H locs 0 0 (MQ below (va_Qv (fun u => v = u) (GE D (cw cI cJ a) KInv) (kA a)) args s 0 0 (kA a)) (F0 m 2 ls []) := by
  obtain ⟨hx, hb, hr, hlocks, hml, hown, hts, hK, hN⟩ := id C
  intro n
  induction n with
  | zero =>
    intro S j hj hn H locs ls hP hI hS hl hq
    exact absurd hn (by omega)
  | succ n ih =>
    intro S j hj hn H locs ls hP hI hS hl hq
    refine lv_iload_n hx hb dX0_dropAll_2 rfl (lv_at hl 1 rfl) ?_
    refine lv_bipush (v := 6) hx hb dX0_dropAll_3 (by decide) ?_
    refine lv_icmp_ge (tgt := 21) hx hb dX0_dropAll_5 (by decide) (fun c_5 => ?_) (fun c_5 => ?_)
    · skip
      exact r_Wv hx hb hr hlocks hP hI hS (hq.trans (by simp only [f_X0_dropAll_c2, if_pos c_5])) dX0_dropAll_21
    · skip
      refine lv_aload_n hx hb dX0_dropAll_8 rfl (lv_at hl 0 rfl) ?_
      refine va_get (D := D) (ci := 0) (v := .ref (a 7)) (C := RX0) (T := TX0) (N := 4) hx hb hts iwX0_dropAll hown hK hP 2 rfl rfl 0 (by decide) (hts (.fieldLink RX0 9 "LoomPanel$Patches" "lengths" "[I") flX0_dropAll_9) (fun _ h9 => h9) rfl dX0_dropAll_9 ?_
      refine lv_iload_n hx hb dX0_dropAll_12 rfl (lv_at hl 1 rfl) ?_
      refine lv_iconst (v := 0) hx hb dX0_dropAll_13 (by decide) ?_
      refine va_iast hx hb hK hP (cw_D hd) hS 7 0 (f := S.plen) rfl rfl (jin (jl6 c_5 hj) (by decide)) dX0_dropAll_14 (fun H locs hP _ hS => ?_)
      have hP : va_P D vwCl (cw cI cJ a (S.set_plen (upd S.plen (nI j).toNatClampNeg 0))) H := by rw [← cw_set_plen]; exact hP
      have hI : KInv (S.set_plen (upd S.plen (nI j).toNatClampNeg 0)) := plen_set hI (by decide) (by decide)
      refine lv_iinc (v := nI (j + 1)) (lv' := [(1, .int (nI (j + 1))), (0, .ref (a 2))]) hx hb dX0_dropAll_15 hl (k := 1) rfl (nI_1 _) (by decide) rfl (fun ls hl => ?_)
      refine lv_goto (tgt := 2) hx hb dX0_dropAll_18 (by decide) ?_
      exact ih (S.set_plen (upd S.plen (nI j).toNatClampNeg 0)) (j + 1) (jl6 c_5 hj) (by omega) _ _ _ hP hI hS (lv_sub hl [1, 0] rfl) (hq.trans (by simp only [f_X0_dropAll_c2, if_neg c_5]))
def f_X0_dropAll (S : KS)  : KS := f_X0_dropAll_c2 7 S 0
set_option maxHeartbeats 4000000 in
set_option maxRecDepth 100000 in
theorem c_X0_dropAll (l : Launch) (D : va_G) (cI cJ : ClassId) (a : Nat → Nat) (hd : ∀ i j, i < 11 → j < 11 → a i = a j → i = j) (S : KS)  : GWv l yX0_dropAll wsX0_dropAll rmX0_dropAll [.ref (a 2)] D (cw_tys cI cJ) (cw cI cJ a) KInv (kA a) S (f_X0_dropAll S ) := by
  refine GB_of (cc := cX0_dropAll) (maxL := 2) (ret := none) (by decide) rfl (Nat.le_of_ble_eq_true rfl) ?_
  intro p e s m below meth c C hP hI ls hl
  obtain ⟨hx, hb, hr, hlocks, hml, hown, hts, hK, hN⟩ := id C
  have hS : va_S (kA a) s.heap s.heap [] := va_S.rf
  have hl : lv_has ls 2 [(0, .ref (a 2))] := hl
  refine lv_iconst (v := 0) hx hb dX0_dropAll_0 (by decide) ?_
  refine lv_istore_n (lv' := [(1, .int 0), (0, .ref (a 2))]) hx hb dX0_dropAll_1 rfl hl (by decide) rfl (fun ls hl => ?_)
  exact w_X0_dropAll_c2 hd C 7 S 0 (Nat.zero_le _) rfl _ _ _ hP hI hS (lv_sub hl [1, 0] rfl) (by simp only [f_X0_dropAll])
abbrev rmX1_made : Room := { frames := 0, cells := 0, slots := 0, locals := 0 }
theorem eeX1_made : yX1_made.cls = RX1 ∧ yX1_made.cls ≠ "java/lang/invoke/MethodHandle" ∧ yX1_made.cls ≠ "java/lang/invoke/VarHandle" ∧ (parseMethodDescriptor yX1_made.desc).map (fun d => d.parameters.length) = some 0 := by decide +kernel
theorem iwX1_made : ∀ w ∈ u_ws RX1 TX1 5, w ∈ wsX1_made := by decide +kernel
theorem flX1_made_25 : Cond.fieldLink RX1 25 "LoomPanel$Values" "made" "I" ∈ wsX1_made := by decide +kernel
def f_X1_made (S : KS)  : Int32 := S.made
set_option maxHeartbeats 4000000 in
set_option maxRecDepth 100000 in
theorem c_X1_made (l : Launch) (D : va_G) (cI cJ : ClassId) (a : Nat → Nat) (hd : ∀ i j, i < 11 → j < 11 → a i = a j → i = j) (S : KS)  : GRi l yX1_made wsX1_made rmX1_made [.ref (a 1)] D (cw_tys cI cJ) (cw cI cJ a) KInv (kA a) S (f_X1_made S ) := by
  refine GB_of (cc := cX1_made) (maxL := 1) (ret := (some .int)) (by decide) rfl (Nat.le_of_ble_eq_true rfl) ?_
  intro p e s m below meth c C hP hI ls hl
  obtain ⟨hx, hb, hr, hlocks, hml, hown, hts, hK, hN⟩ := id C
  have hS : va_S (kA a) s.heap s.heap [] := va_S.rf
  have hl : lv_has ls 1 [(0, .ref (a 1))] := hl
  refine lv_aload_n hx hb dX1_made_0 rfl (lv_at hl 0 rfl) ?_
  refine va_get (D := D) (ci := 1) (v := .int S.made) (C := RX1) (T := TX1) (N := 5) hx hb hts iwX1_made hown hK hP 1 rfl rfl 4 (by decide) (hts (.fieldLink RX1 25 "LoomPanel$Values" "made" "I") flX1_made_25) (fun _ h9 => h9) rfl dX1_made_1 ?_
  exact r_Ri hx hb hr hlocks hP hI hS (by simp only [f_X1_made]) dX1_made_4
abbrev rmX1_has : Room := { frames := 0, cells := 0, slots := 0, locals := 0 }
theorem eeX1_has : yX1_has.cls = RX1 ∧ yX1_has.cls ≠ "java/lang/invoke/MethodHandle" ∧ yX1_has.cls ≠ "java/lang/invoke/VarHandle" ∧ (parseMethodDescriptor yX1_has.desc).map (fun d => d.parameters.length) = some 1 := by decide +kernel
theorem iwX1_has : ∀ w ∈ u_ws RX1 TX1 5, w ∈ wsX1_has := by decide +kernel
theorem flX1_has_25 : Cond.fieldLink RX1 25 "LoomPanel$Values" "made" "I" ∈ wsX1_has := by decide +kernel
def f_X1_has (S : KS) (x1 : Int32) : Int32 := if x1 < 0 then (0) else (if S.made ≤ x1 then (0) else (1))
set_option maxHeartbeats 4000000 in
set_option maxRecDepth 100000 in
theorem c_X1_has (l : Launch) (D : va_G) (cI cJ : ClassId) (a : Nat → Nat) (hd : ∀ i j, i < 11 → j < 11 → a i = a j → i = j) (S : KS) (x1 : Int32) : GRi l yX1_has wsX1_has rmX1_has [.ref (a 1), .int x1] D (cw_tys cI cJ) (cw cI cJ a) KInv (kA a) S (f_X1_has S x1) := by
  refine GB_of (cc := cX1_has) (maxL := 2) (ret := (some .boolean)) (by decide) rfl (Nat.le_of_ble_eq_true rfl) ?_
  intro p e s m below meth c C hP hI ls hl
  obtain ⟨hx, hb, hr, hlocks, hml, hown, hts, hK, hN⟩ := id C
  have hS : va_S (kA a) s.heap s.heap [] := va_S.rf
  have hl : lv_has ls 2 [(0, .ref (a 1)), (1, .int x1)] := hl
  refine lv_iload_n hx hb dX1_has_0 rfl (lv_at hl 1 rfl) ?_
  refine lv_if_lt (tgt := 16) hx hb dX1_has_1 (by decide) (fun c_1 => ?_) (fun c_1 => ?_)
  · skip
    refine lv_iconst (v := 0) hx hb dX1_has_16 (by decide) ?_
    exact r_Rz hx hb hr hlocks hP hI hS rfl (by simp only [f_X1_has, if_pos c_1]) dX1_has_17
  · skip
    refine lv_iload_n hx hb dX1_has_4 rfl (lv_at hl 1 rfl) ?_
    refine lv_aload_n hx hb dX1_has_5 rfl (lv_at hl 0 rfl) ?_
    refine va_get (D := D) (ci := 1) (v := .int S.made) (C := RX1) (T := TX1) (N := 5) hx hb hts iwX1_has hown hK hP 1 rfl rfl 4 (by decide) (hts (.fieldLink RX1 25 "LoomPanel$Values" "made" "I") flX1_has_25) (fun _ h9 => h9) rfl dX1_has_6 ?_
    refine lv_icmp_ge (tgt := 16) hx hb dX1_has_9 (by decide) (fun c_9 => ?_) (fun c_9 => ?_)
    · skip
      refine lv_iconst (v := 0) hx hb dX1_has_16 (by decide) ?_
      exact r_Rz hx hb hr hlocks hP hI hS rfl (by simp only [f_X1_has, if_neg c_1, if_pos c_9]) dX1_has_17
    · skip
      refine lv_iconst (v := 1) hx hb dX1_has_12 (by decide) ?_
      refine lv_goto (tgt := 17) hx hb dX1_has_13 (by decide) ?_
      exact r_Rz hx hb hr hlocks hP hI hS rfl (by simp only [f_X1_has, if_neg c_1, if_neg c_9]) dX1_has_17
abbrev rmX1_hasPlace : Room := { frames := 0, cells := 0, slots := 0, locals := 0 }
theorem eeX1_hasPlace : yX1_hasPlace.cls = RX1 ∧ yX1_hasPlace.cls ≠ "java/lang/invoke/MethodHandle" ∧ yX1_hasPlace.cls ≠ "java/lang/invoke/VarHandle" ∧ (parseMethodDescriptor yX1_hasPlace.desc).map (fun d => d.parameters.length) = some 2 := by decide +kernel
theorem iwX1_hasPlace : ∀ w ∈ u_ws RX1 TX1 5, w ∈ wsX1_hasPlace := by decide +kernel
theorem flX1_hasPlace_15 : Cond.fieldLink RX1 15 "LoomPanel$Values" "lengths" "[I" ∈ wsX1_hasPlace := by decide +kernel
theorem flX1_hasPlace_25 : Cond.fieldLink RX1 25 "LoomPanel$Values" "made" "I" ∈ wsX1_hasPlace := by decide +kernel
def f_X1_hasPlace (S : KS) (x1 : Int32) (x2 : Int32) : Int32 := if x1 < 0 then (0) else (if S.made ≤ x1 then (0) else (if x2 < 0 then (0) else (if (S.lens x1.toNatClampNeg) ≤ x2 then (0) else (1))))
set_option maxHeartbeats 4000000 in
set_option maxRecDepth 100000 in
theorem c_X1_hasPlace (l : Launch) (D : va_G) (cI cJ : ClassId) (a : Nat → Nat) (hd : ∀ i j, i < 11 → j < 11 → a i = a j → i = j) (S : KS) (x1 : Int32) (x2 : Int32) : GRi l yX1_hasPlace wsX1_hasPlace rmX1_hasPlace [.ref (a 1), .int x1, .int x2] D (cw_tys cI cJ) (cw cI cJ a) KInv (kA a) S (f_X1_hasPlace S x1 x2) := by
  refine GB_of (cc := cX1_hasPlace) (maxL := 3) (ret := (some .boolean)) (by decide) rfl (Nat.le_of_ble_eq_true rfl) ?_
  intro p e s m below meth c C hP hI ls hl
  obtain ⟨hx, hb, hr, hlocks, hml, hown, hts, hK, hN⟩ := id C
  have hS : va_S (kA a) s.heap s.heap [] := va_S.rf
  have hl : lv_has ls 3 [(0, .ref (a 1)), (1, .int x1), (2, .int x2)] := hl
  refine lv_iload_n hx hb dX1_hasPlace_0 rfl (lv_at hl 1 rfl) ?_
  refine lv_if_lt (tgt := 30) hx hb dX1_hasPlace_1 (by decide) (fun c_1 => ?_) (fun c_1 => ?_)
  · skip
    refine lv_iconst (v := 0) hx hb dX1_hasPlace_30 (by decide) ?_
    exact r_Rz hx hb hr hlocks hP hI hS rfl (by simp only [f_X1_hasPlace, if_pos c_1]) dX1_hasPlace_31
  · skip
    refine lv_iload_n hx hb dX1_hasPlace_4 rfl (lv_at hl 1 rfl) ?_
    refine lv_aload_n hx hb dX1_hasPlace_5 rfl (lv_at hl 0 rfl) ?_
    refine va_get (D := D) (ci := 1) (v := .int S.made) (C := RX1) (T := TX1) (N := 5) hx hb hts iwX1_hasPlace hown hK hP 1 rfl rfl 4 (by decide) (hts (.fieldLink RX1 25 "LoomPanel$Values" "made" "I") flX1_hasPlace_25) (fun _ h9 => h9) rfl dX1_hasPlace_6 ?_
    refine lv_icmp_ge (tgt := 30) hx hb dX1_hasPlace_9 (by decide) (fun c_9 => ?_) (fun c_9 => ?_)
    · skip
      refine lv_iconst (v := 0) hx hb dX1_hasPlace_30 (by decide) ?_
      exact r_Rz hx hb hr hlocks hP hI hS rfl (by simp only [f_X1_hasPlace, if_neg c_1, if_pos c_9]) dX1_hasPlace_31
    · skip
      refine lv_iload_n hx hb dX1_hasPlace_12 rfl (lv_at hl 2 rfl) ?_
      refine lv_if_lt (tgt := 30) hx hb dX1_hasPlace_13 (by decide) (fun c_13 => ?_) (fun c_13 => ?_)
      · skip
        refine lv_iconst (v := 0) hx hb dX1_hasPlace_30 (by decide) ?_
        exact r_Rz hx hb hr hlocks hP hI hS rfl (by simp only [f_X1_hasPlace, if_neg c_1, if_neg c_9, if_pos c_13]) dX1_hasPlace_31
      · skip
        refine lv_iload_n hx hb dX1_hasPlace_16 rfl (lv_at hl 2 rfl) ?_
        refine lv_aload_n hx hb dX1_hasPlace_17 rfl (lv_at hl 0 rfl) ?_
        refine va_get (D := D) (ci := 1) (v := .ref (a 4)) (C := RX1) (T := TX1) (N := 5) hx hb hts iwX1_hasPlace hown hK hP 1 rfl rfl 1 (by decide) (hts (.fieldLink RX1 15 "LoomPanel$Values" "lengths" "[I") flX1_hasPlace_15) (fun _ h9 => h9) rfl dX1_hasPlace_18 ?_
        refine lv_iload_n hx hb dX1_hasPlace_21 rfl (lv_at hl 1 rfl) ?_
        refine va_iald hx hb hK hP 4 0 (f := S.lens) rfl rfl (in2 (lt0 c_1) (by have := nle c_9; have := hI.1.2; omega)) dX1_hasPlace_22 ?_
        refine lv_icmp_ge (tgt := 30) hx hb dX1_hasPlace_23 (by decide) (fun c_23 => ?_) (fun c_23 => ?_)
        · skip
          refine lv_iconst (v := 0) hx hb dX1_hasPlace_30 (by decide) ?_
          exact r_Rz hx hb hr hlocks hP hI hS rfl (by simp only [f_X1_hasPlace, if_neg c_1, if_neg c_9, if_neg c_13, if_pos c_23]) dX1_hasPlace_31
        · skip
          refine lv_iconst (v := 1) hx hb dX1_hasPlace_26 (by decide) ?_
          refine lv_goto (tgt := 31) hx hb dX1_hasPlace_27 (by decide) ?_
          exact r_Rz hx hb hr hlocks hP hI hS rfl (by simp only [f_X1_hasPlace, if_neg c_1, if_neg c_9, if_neg c_13, if_neg c_23]) dX1_hasPlace_31
theorem has_in {S : KS} {x : Int32} (hI : KInv S) (h : ¬ f_X1_has S x = 0) : vp_in x 60 := by
  unfold f_X1_has at h
  obtain ⟨h1, h⟩ := ne_ite h
  obtain ⟨h2, h⟩ := ne_ite h
  have := hI.1
  have := nle h2
  exact in2 (lt0 h1) (by omega)
abbrev rmX1_formOf : Room := { frames := 1, cells := 0, slots := 0, locals := 21 }
theorem eeX1_formOf : yX1_formOf.cls = RX1 ∧ yX1_formOf.cls ≠ "java/lang/invoke/MethodHandle" ∧ yX1_formOf.cls ≠ "java/lang/invoke/VarHandle" ∧ (parseMethodDescriptor yX1_formOf.desc).map (fun d => d.parameters.length) = some 1 := by decide +kernel
theorem iwX1_formOf : ∀ w ∈ u_ws RX1 TX1 5, w ∈ wsX1_formOf := by decide +kernel
theorem flX1_formOf_9 : Cond.fieldLink RX1 9 "LoomPanel$Values" "forms" "[I" ∈ wsX1_formOf := by decide +kernel
def f_X1_formOf (S : KS) (x1 : Int32) : Int32 := if (f_X1_has S x1) = 0 then ((-1)) else (S.forms x1.toNatClampNeg)
set_option maxHeartbeats 4000000 in
set_option maxRecDepth 100000 in
theorem c_X1_formOf (l : Launch) (D : va_G) (cI cJ : ClassId) (a : Nat → Nat) (hd : ∀ i j, i < 11 → j < 11 → a i = a j → i = j) (S : KS) (x1 : Int32) : GRi l yX1_formOf wsX1_formOf rmX1_formOf [.ref (a 1), .int x1] D (cw_tys cI cJ) (cw cI cJ a) KInv (kA a) S (f_X1_formOf S x1) := by
  refine GB_of (cc := cX1_formOf) (maxL := 2) (ret := (some .int)) (by decide) rfl (Nat.le_of_ble_eq_true rfl) ?_
  intro p e s m below meth c C hP hI ls hl
  obtain ⟨hx, hb, hr, hlocks, hml, hown, hts, hK, hN⟩ := id C
  have hS : va_S (kA a) s.heap s.heap [] := va_S.rf
  have hl : lv_has ls 2 [(0, .ref (a 1)), (1, .int x1)] := hl
  refine lv_aload_n hx hb dX1_formOf_0 rfl (lv_at hl 0 rfl) ?_
  refine lv_iload_n hx hb dX1_formOf_1 rfl (lv_at hl 1 rfl) ?_
  refine g_Ri (As := [.int x1]) (rest := []) ⟨hx, hb, hml, hown, hts⟩ (c_X1_has l D cI cJ a hd S x1 ) (cwV 1 hts gX1_formOf_X1_has rfl rfl rfl eeX1_has ⟨Nat.le_of_ble_eq_true rfl, Nat.le_of_ble_eq_true rfl⟩) hK hN hP hI (va_recv hK hP (ci := 1) (q0 := 1) rfl rfl) hS rfl hl.1 rfl (Nat.le_of_ble_eq_true rfl) dX1_formOf_2 ⟨Nat.zero_le _, Nat.zero_le _⟩ (fun H locs hP hS => ?_)
  refine lv_if_eq (tgt := 17) hx hb dX1_formOf_5 (by decide) (fun c_5 => ?_) (fun c_5 => ?_)
  · skip
    refine lv_iconst (v := (-1)) hx hb dX1_formOf_17 (by decide) ?_
    exact r_Ri hx hb hr hlocks hP hI hS (by simp only [f_X1_formOf, if_pos c_5]) dX1_formOf_18
  · skip
    refine lv_aload_n hx hb dX1_formOf_8 rfl (lv_at hl 0 rfl) ?_
    refine va_get (D := D) (ci := 1) (v := .ref (a 3)) (C := RX1) (T := TX1) (N := 5) hx hb hts iwX1_formOf hown hK hP 1 rfl rfl 0 (by decide) (hts (.fieldLink RX1 9 "LoomPanel$Values" "forms" "[I") flX1_formOf_9) (fun _ h9 => h9) rfl dX1_formOf_9 ?_
    refine lv_iload_n hx hb dX1_formOf_12 rfl (lv_at hl 1 rfl) ?_
    refine va_iald hx hb hK hP 3 0 (f := S.forms) rfl rfl (has_in hI c_5) dX1_formOf_13 ?_
    refine lv_goto (tgt := 18) hx hb dX1_formOf_14 (by decide) ?_
    exact r_Ri hx hb hr hlocks hP hI hS (by simp only [f_X1_formOf, if_neg c_5]) dX1_formOf_18
abbrev rmX2_viewsOfForm : Room := { frames := 0, cells := 0, slots := 0, locals := 0 }
theorem esX2_viewsOfForm : yX2_viewsOfForm.cls ≠ "java/lang/invoke/MethodHandle" ∧ yX2_viewsOfForm.cls ≠ "java/lang/invoke/VarHandle" ∧ (parseMethodDescriptor yX2_viewsOfForm.desc).map (fun d => d.parameters.length) = some 1 := by decide +kernel
def f_X2_viewsOfForm (x0 : Int32) : Int32 := if x0 = 5 then (2096) else (if x0 = 7 then (448) else (if x0 = 10 then (1536) else (1 <<< (x0 &&& 31))))
set_option maxHeartbeats 4000000 in
set_option maxRecDepth 100000 in
theorem c_X2_viewsOfForm (l : Launch) (x0 : Int32) : GSi l yX2_viewsOfForm wsX2_viewsOfForm rmX2_viewsOfForm [.int x0] (f_X2_viewsOfForm x0) := by
  refine GS_of (cc := cX2_viewsOfForm) (maxL := 1) (ret := (some .int)) (by decide) rfl (Nat.le_of_ble_eq_true rfl) ?_
  intro p e s m below meth c C ls hl
  obtain ⟨hx, hb, hr, hlocks, hml, hown, hts⟩ := id C
  have hl : lv_has ls 1 [(0, .int x0)] := hl
  refine lv_iload_n hx hb dX2_viewsOfForm_0 rfl (lv_at hl 0 rfl) ?_
  by_cases c_1_5 : x0 = 5
  · refine lv_lookup (tgt := 36) hx hb dX2_viewsOfForm_1 (by decide) (by rw [c_1_5] <;> rfl) (by decide) ?_
    refine lv_sipush (v := 2096) hx hb dX2_viewsOfForm_36 (by decide) ?_
    exact r_Si hx hb hr hlocks (by simp only [f_X2_viewsOfForm, if_pos c_1_5]) dX2_viewsOfForm_39
  by_cases c_1_7 : x0 = 7
  · refine lv_lookup (tgt := 40) hx hb dX2_viewsOfForm_1 (by decide) (by rw [c_1_7] <;> rfl) (by decide) ?_
    refine lv_sipush (v := 448) hx hb dX2_viewsOfForm_40 (by decide) ?_
    exact r_Si hx hb hr hlocks (by simp only [f_X2_viewsOfForm, if_neg c_1_5, if_pos c_1_7]) dX2_viewsOfForm_43
  by_cases c_1_10 : x0 = 10
  · refine lv_lookup (tgt := 44) hx hb dX2_viewsOfForm_1 (by decide) (by rw [c_1_10] <;> rfl) (by decide) ?_
    refine lv_sipush (v := 1536) hx hb dX2_viewsOfForm_44 (by decide) ?_
    exact r_Si hx hb hr hlocks (by simp only [f_X2_viewsOfForm, if_neg c_1_5, if_neg c_1_7, if_pos c_1_10]) dX2_viewsOfForm_47
  refine lv_lookup (off := 47) (tgt := 48) hx hb dX2_viewsOfForm_1 (by decide) ((lv_osw c_1_5 (by decide)).trans ((lv_osw c_1_7 (by decide)).trans ((lv_osw c_1_10 (by decide)).trans (rfl)))) (by decide) ?_
  refine lv_iconst (v := 1) hx hb dX2_viewsOfForm_48 (by decide) ?_
  refine lv_iload_n hx hb dX2_viewsOfForm_49 rfl (lv_at hl 0 rfl) ?_
  refine lv_ishl hx hb dX2_viewsOfForm_50 ?_
  exact r_Si hx hb hr hlocks (by simp only [f_X2_viewsOfForm, if_neg c_1_5, if_neg c_1_7, if_neg c_1_10]) dX2_viewsOfForm_51
abbrev rmX1_isA : Room := { frames := 1, cells := 0, slots := 0, locals := 21 }
theorem eeX1_isA : yX1_isA.cls = RX1 ∧ yX1_isA.cls ≠ "java/lang/invoke/MethodHandle" ∧ yX1_isA.cls ≠ "java/lang/invoke/VarHandle" ∧ (parseMethodDescriptor yX1_isA.desc).map (fun d => d.parameters.length) = some 2 := by decide +kernel
theorem iwX1_isA : ∀ w ∈ u_ws RX1 TX1 5, w ∈ wsX1_isA := by decide +kernel
theorem flX1_isA_9 : Cond.fieldLink RX1 9 "LoomPanel$Values" "forms" "[I" ∈ wsX1_isA := by decide +kernel
theorem wiX1_isA_X2 : Cond.initialized RX2 ∈ wsX1_isA := by decide +kernel
theorem wstX1_isA_viewsOfForm : Cond.static yX2_viewsOfForm ∈ wsX1_isA := by decide +kernel
def f_X1_isA (S : KS) (x1 : Int32) (x2 : Int32) : Int32 := if (f_X1_has S x1) = 0 then (0) else (if (((f_X2_viewsOfForm (S.forms x1.toNatClampNeg)) >>> (x2 &&& 31)) &&& 1) = 1 then (1) else (0))
set_option maxHeartbeats 4000000 in
set_option maxRecDepth 100000 in
theorem c_X1_isA (l : Launch) (D : va_G) (cI cJ : ClassId) (a : Nat → Nat) (hd : ∀ i j, i < 11 → j < 11 → a i = a j → i = j) (S : KS) (x1 : Int32) (x2 : Int32) : GRi l yX1_isA wsX1_isA rmX1_isA [.ref (a 1), .int x1, .int x2] D (cw_tys cI cJ) (cw cI cJ a) KInv (kA a) S (f_X1_isA S x1 x2) := by
  refine GB_of (cc := cX1_isA) (maxL := 3) (ret := (some .boolean)) (by decide) rfl (Nat.le_of_ble_eq_true rfl) ?_
  intro p e s m below meth c C hP hI ls hl
  obtain ⟨hx, hb, hr, hlocks, hml, hown, hts, hK, hN⟩ := id C
  have hS : va_S (kA a) s.heap s.heap [] := va_S.rf
  have hl : lv_has ls 3 [(0, .ref (a 1)), (1, .int x1), (2, .int x2)] := hl
  refine lv_aload_n hx hb dX1_isA_0 rfl (lv_at hl 0 rfl) ?_
  refine lv_iload_n hx hb dX1_isA_1 rfl (lv_at hl 1 rfl) ?_
  refine g_Ri (As := [.int x1]) (rest := []) ⟨hx, hb, hml, hown, hts⟩ (c_X1_has l D cI cJ a hd S x1 ) (cwV 1 hts gX1_isA_X1_has rfl rfl rfl eeX1_has ⟨Nat.le_of_ble_eq_true rfl, Nat.le_of_ble_eq_true rfl⟩) hK hN hP hI (va_recv hK hP (ci := 1) (q0 := 1) rfl rfl) hS rfl hl.1 rfl (Nat.le_of_ble_eq_true rfl) dX1_isA_2 ⟨Nat.zero_le _, Nat.zero_le _⟩ (fun H locs hP hS => ?_)
  refine lv_if_eq (tgt := 29) hx hb dX1_isA_5 (by decide) (fun c_5 => ?_) (fun c_5 => ?_)
  · skip
    refine lv_iconst (v := 0) hx hb dX1_isA_29 (by decide) ?_
    exact r_Rz hx hb hr hlocks hP hI hS rfl (by simp only [f_X1_isA, if_pos c_5]) dX1_isA_30
  · skip
    refine lv_aload_n hx hb dX1_isA_8 rfl (lv_at hl 0 rfl) ?_
    refine va_get (D := D) (ci := 1) (v := .ref (a 3)) (C := RX1) (T := TX1) (N := 5) hx hb hts iwX1_isA hown hK hP 1 rfl rfl 0 (by decide) (hts (.fieldLink RX1 9 "LoomPanel$Values" "forms" "[I") flX1_isA_9) (fun _ h9 => h9) rfl dX1_isA_9 ?_
    refine lv_iload_n hx hb dX1_isA_12 rfl (lv_at hl 1 rfl) ?_
    refine va_iald hx hb hK hP 3 0 (f := S.forms) rfl rfl (has_in hI c_5) dX1_isA_13 ?_
    refine g_SiN (As := [.int (S.forms x1.toNatClampNeg)]) (rest := []) ⟨hx, hb, hml, hown, hts⟩ (c_X2_viewsOfForm l (S.forms x1.toNatClampNeg)) ⟨va_cnB 1 hts gX1_isA_X2_viewsOfForm_n33 rfl rfl rfl hN.1 (hts (.initialized RX2) wiX1_isA_X2) esX2_viewsOfForm ⟨Nat.le_of_ble_eq_true rfl, Nat.le_of_ble_eq_true rfl⟩, hts (.static yX2_viewsOfForm) wstX1_isA_viewsOfForm, trivial⟩ hP hS rfl hl.1 rfl (Nat.le_of_ble_eq_true rfl) dX1_isA_14 ⟨Nat.zero_le _, Nat.zero_le _⟩ (fun H locs hP hS => ?_)
    refine lv_iload_n hx hb dX1_isA_17 rfl (lv_at hl 2 rfl) ?_
    refine lv_ishr hx hb dX1_isA_18 ?_
    refine lv_iconst (v := 1) hx hb dX1_isA_19 (by decide) ?_
    refine lv_iand hx hb dX1_isA_20 ?_
    refine lv_iconst (v := 1) hx hb dX1_isA_21 (by decide) ?_
    refine lv_icmp_ne (tgt := 29) hx hb dX1_isA_22 (by decide) (fun c_22 => ?_) (fun c_22 => ?_)
    · skip
      refine lv_iconst (v := 0) hx hb dX1_isA_29 (by decide) ?_
      exact r_Rz hx hb hr hlocks hP hI hS rfl (by simp only [f_X1_isA, if_neg c_5, if_neg c_22]) dX1_isA_30
    · skip
      refine lv_iconst (v := 1) hx hb dX1_isA_25 (by decide) ?_
      refine lv_goto (tgt := 30) hx hb dX1_isA_26 (by decide) ?_
      exact r_Rz hx hb hr hlocks hP hI hS rfl (by simp only [f_X1_isA, if_neg c_5, if_pos c_22]) dX1_isA_30
abbrev rmX1_isNumbers : Room := { frames := 1, cells := 0, slots := 0, locals := 21 }
theorem eeX1_isNumbers : yX1_isNumbers.cls = RX1 ∧ yX1_isNumbers.cls ≠ "java/lang/invoke/MethodHandle" ∧ yX1_isNumbers.cls ≠ "java/lang/invoke/VarHandle" ∧ (parseMethodDescriptor yX1_isNumbers.desc).map (fun d => d.parameters.length) = some 1 := by decide +kernel
theorem iwX1_isNumbers : ∀ w ∈ u_ws RX1 TX1 5, w ∈ wsX1_isNumbers := by decide +kernel
theorem flX1_isNumbers_9 : Cond.fieldLink RX1 9 "LoomPanel$Values" "forms" "[I" ∈ wsX1_isNumbers := by decide +kernel
def f_X1_isNumbers (S : KS) (x1 : Int32) : Int32 := if (f_X1_has S x1) = 0 then (0) else (if 2 < (S.forms x1.toNatClampNeg) then (0) else (1))
set_option maxHeartbeats 4000000 in
set_option maxRecDepth 100000 in
theorem c_X1_isNumbers (l : Launch) (D : va_G) (cI cJ : ClassId) (a : Nat → Nat) (hd : ∀ i j, i < 11 → j < 11 → a i = a j → i = j) (S : KS) (x1 : Int32) : GRi l yX1_isNumbers wsX1_isNumbers rmX1_isNumbers [.ref (a 1), .int x1] D (cw_tys cI cJ) (cw cI cJ a) KInv (kA a) S (f_X1_isNumbers S x1) := by
  refine GB_of (cc := cX1_isNumbers) (maxL := 2) (ret := (some .boolean)) (by decide) rfl (Nat.le_of_ble_eq_true rfl) ?_
  intro p e s m below meth c C hP hI ls hl
  obtain ⟨hx, hb, hr, hlocks, hml, hown, hts, hK, hN⟩ := id C
  have hS : va_S (kA a) s.heap s.heap [] := va_S.rf
  have hl : lv_has ls 2 [(0, .ref (a 1)), (1, .int x1)] := hl
  refine lv_aload_n hx hb dX1_isNumbers_0 rfl (lv_at hl 0 rfl) ?_
  refine lv_iload_n hx hb dX1_isNumbers_1 rfl (lv_at hl 1 rfl) ?_
  refine g_Ri (As := [.int x1]) (rest := []) ⟨hx, hb, hml, hown, hts⟩ (c_X1_has l D cI cJ a hd S x1 ) (cwV 1 hts gX1_isNumbers_X1_has rfl rfl rfl eeX1_has ⟨Nat.le_of_ble_eq_true rfl, Nat.le_of_ble_eq_true rfl⟩) hK hN hP hI (va_recv hK hP (ci := 1) (q0 := 1) rfl rfl) hS rfl hl.1 rfl (Nat.le_of_ble_eq_true rfl) dX1_isNumbers_2 ⟨Nat.zero_le _, Nat.zero_le _⟩ (fun H locs hP hS => ?_)
  refine lv_if_eq (tgt := 22) hx hb dX1_isNumbers_5 (by decide) (fun c_5 => ?_) (fun c_5 => ?_)
  · skip
    refine lv_iconst (v := 0) hx hb dX1_isNumbers_22 (by decide) ?_
    exact r_Rz hx hb hr hlocks hP hI hS rfl (by simp only [f_X1_isNumbers, if_pos c_5]) dX1_isNumbers_23
  · skip
    refine lv_aload_n hx hb dX1_isNumbers_8 rfl (lv_at hl 0 rfl) ?_
    refine va_get (D := D) (ci := 1) (v := .ref (a 3)) (C := RX1) (T := TX1) (N := 5) hx hb hts iwX1_isNumbers hown hK hP 1 rfl rfl 0 (by decide) (hts (.fieldLink RX1 9 "LoomPanel$Values" "forms" "[I") flX1_isNumbers_9) (fun _ h9 => h9) rfl dX1_isNumbers_9 ?_
    refine lv_iload_n hx hb dX1_isNumbers_12 rfl (lv_at hl 1 rfl) ?_
    refine va_iald hx hb hK hP 3 0 (f := S.forms) rfl rfl (has_in hI c_5) dX1_isNumbers_13 ?_
    refine lv_iconst (v := 2) hx hb dX1_isNumbers_14 (by decide) ?_
    refine lv_icmp_gt (tgt := 22) hx hb dX1_isNumbers_15 (by decide) (fun c_15 => ?_) (fun c_15 => ?_)
    · skip
      refine lv_iconst (v := 0) hx hb dX1_isNumbers_22 (by decide) ?_
      exact r_Rz hx hb hr hlocks hP hI hS rfl (by simp only [f_X1_isNumbers, if_neg c_5, if_pos c_15]) dX1_isNumbers_23
    · skip
      refine lv_iconst (v := 1) hx hb dX1_isNumbers_18 (by decide) ?_
      refine lv_goto (tgt := 23) hx hb dX1_isNumbers_19 (by decide) ?_
      exact r_Rz hx hb hr hlocks hP hI hS rfl (by simp only [f_X1_isNumbers, if_neg c_5, if_neg c_15]) dX1_isNumbers_23
abbrev rmX1_lengthOf : Room := { frames := 1, cells := 0, slots := 0, locals := 21 }
theorem eeX1_lengthOf : yX1_lengthOf.cls = RX1 ∧ yX1_lengthOf.cls ≠ "java/lang/invoke/MethodHandle" ∧ yX1_lengthOf.cls ≠ "java/lang/invoke/VarHandle" ∧ (parseMethodDescriptor yX1_lengthOf.desc).map (fun d => d.parameters.length) = some 1 := by decide +kernel
theorem iwX1_lengthOf : ∀ w ∈ u_ws RX1 TX1 5, w ∈ wsX1_lengthOf := by decide +kernel
theorem flX1_lengthOf_15 : Cond.fieldLink RX1 15 "LoomPanel$Values" "lengths" "[I" ∈ wsX1_lengthOf := by decide +kernel
def f_X1_lengthOf (S : KS) (x1 : Int32) : Int32 := if (f_X1_has S x1) = 0 then (0) else (S.lens x1.toNatClampNeg)
set_option maxHeartbeats 4000000 in
set_option maxRecDepth 100000 in
theorem c_X1_lengthOf (l : Launch) (D : va_G) (cI cJ : ClassId) (a : Nat → Nat) (hd : ∀ i j, i < 11 → j < 11 → a i = a j → i = j) (S : KS) (x1 : Int32) : GRi l yX1_lengthOf wsX1_lengthOf rmX1_lengthOf [.ref (a 1), .int x1] D (cw_tys cI cJ) (cw cI cJ a) KInv (kA a) S (f_X1_lengthOf S x1) := by
  refine GB_of (cc := cX1_lengthOf) (maxL := 2) (ret := (some .int)) (by decide) rfl (Nat.le_of_ble_eq_true rfl) ?_
  intro p e s m below meth c C hP hI ls hl
  obtain ⟨hx, hb, hr, hlocks, hml, hown, hts, hK, hN⟩ := id C
  have hS : va_S (kA a) s.heap s.heap [] := va_S.rf
  have hl : lv_has ls 2 [(0, .ref (a 1)), (1, .int x1)] := hl
  refine lv_aload_n hx hb dX1_lengthOf_0 rfl (lv_at hl 0 rfl) ?_
  refine lv_iload_n hx hb dX1_lengthOf_1 rfl (lv_at hl 1 rfl) ?_
  refine g_Ri (As := [.int x1]) (rest := []) ⟨hx, hb, hml, hown, hts⟩ (c_X1_has l D cI cJ a hd S x1 ) (cwV 1 hts gX1_lengthOf_X1_has rfl rfl rfl eeX1_has ⟨Nat.le_of_ble_eq_true rfl, Nat.le_of_ble_eq_true rfl⟩) hK hN hP hI (va_recv hK hP (ci := 1) (q0 := 1) rfl rfl) hS rfl hl.1 rfl (Nat.le_of_ble_eq_true rfl) dX1_lengthOf_2 ⟨Nat.zero_le _, Nat.zero_le _⟩ (fun H locs hP hS => ?_)
  refine lv_if_eq (tgt := 17) hx hb dX1_lengthOf_5 (by decide) (fun c_5 => ?_) (fun c_5 => ?_)
  · skip
    refine lv_iconst (v := 0) hx hb dX1_lengthOf_17 (by decide) ?_
    exact r_Ri hx hb hr hlocks hP hI hS (by simp only [f_X1_lengthOf, if_pos c_5]) dX1_lengthOf_18
  · skip
    refine lv_aload_n hx hb dX1_lengthOf_8 rfl (lv_at hl 0 rfl) ?_
    refine va_get (D := D) (ci := 1) (v := .ref (a 4)) (C := RX1) (T := TX1) (N := 5) hx hb hts iwX1_lengthOf hown hK hP 1 rfl rfl 1 (by decide) (hts (.fieldLink RX1 15 "LoomPanel$Values" "lengths" "[I") flX1_lengthOf_15) (fun _ h9 => h9) rfl dX1_lengthOf_9 ?_
    refine lv_iload_n hx hb dX1_lengthOf_12 rfl (lv_at hl 1 rfl) ?_
    refine va_iald hx hb hK hP 4 0 (f := S.lens) rfl rfl (has_in hI c_5) dX1_lengthOf_13 ?_
    refine lv_goto (tgt := 18) hx hb dX1_lengthOf_14 (by decide) ?_
    exact r_Ri hx hb hr hlocks hP hI hS (by simp only [f_X1_lengthOf, if_neg c_5]) dX1_lengthOf_18
abbrev rmX1_levelOf : Room := { frames := 1, cells := 0, slots := 0, locals := 21 }
theorem eeX1_levelOf : yX1_levelOf.cls = RX1 ∧ yX1_levelOf.cls ≠ "java/lang/invoke/MethodHandle" ∧ yX1_levelOf.cls ≠ "java/lang/invoke/VarHandle" ∧ (parseMethodDescriptor yX1_levelOf.desc).map (fun d => d.parameters.length) = some 1 := by decide +kernel
theorem iwX1_levelOf : ∀ w ∈ u_ws RX1 TX1 5, w ∈ wsX1_levelOf := by decide +kernel
theorem flX1_levelOf_18 : Cond.fieldLink RX1 18 "LoomPanel$Values" "levels" "[I" ∈ wsX1_levelOf := by decide +kernel
def f_X1_levelOf (S : KS) (x1 : Int32) : Int32 := if (f_X1_has S x1) = 0 then (0) else (S.levels x1.toNatClampNeg)
set_option maxHeartbeats 4000000 in
set_option maxRecDepth 100000 in
theorem c_X1_levelOf (l : Launch) (D : va_G) (cI cJ : ClassId) (a : Nat → Nat) (hd : ∀ i j, i < 11 → j < 11 → a i = a j → i = j) (S : KS) (x1 : Int32) : GRi l yX1_levelOf wsX1_levelOf rmX1_levelOf [.ref (a 1), .int x1] D (cw_tys cI cJ) (cw cI cJ a) KInv (kA a) S (f_X1_levelOf S x1) := by
  refine GB_of (cc := cX1_levelOf) (maxL := 2) (ret := (some .int)) (by decide) rfl (Nat.le_of_ble_eq_true rfl) ?_
  intro p e s m below meth c C hP hI ls hl
  obtain ⟨hx, hb, hr, hlocks, hml, hown, hts, hK, hN⟩ := id C
  have hS : va_S (kA a) s.heap s.heap [] := va_S.rf
  have hl : lv_has ls 2 [(0, .ref (a 1)), (1, .int x1)] := hl
  refine lv_aload_n hx hb dX1_levelOf_0 rfl (lv_at hl 0 rfl) ?_
  refine lv_iload_n hx hb dX1_levelOf_1 rfl (lv_at hl 1 rfl) ?_
  refine g_Ri (As := [.int x1]) (rest := []) ⟨hx, hb, hml, hown, hts⟩ (c_X1_has l D cI cJ a hd S x1 ) (cwV 1 hts gX1_levelOf_X1_has rfl rfl rfl eeX1_has ⟨Nat.le_of_ble_eq_true rfl, Nat.le_of_ble_eq_true rfl⟩) hK hN hP hI (va_recv hK hP (ci := 1) (q0 := 1) rfl rfl) hS rfl hl.1 rfl (Nat.le_of_ble_eq_true rfl) dX1_levelOf_2 ⟨Nat.zero_le _, Nat.zero_le _⟩ (fun H locs hP hS => ?_)
  refine lv_if_eq (tgt := 17) hx hb dX1_levelOf_5 (by decide) (fun c_5 => ?_) (fun c_5 => ?_)
  · skip
    refine lv_iconst (v := 0) hx hb dX1_levelOf_17 (by decide) ?_
    exact r_Ri hx hb hr hlocks hP hI hS (by simp only [f_X1_levelOf, if_pos c_5]) dX1_levelOf_18
  · skip
    refine lv_aload_n hx hb dX1_levelOf_8 rfl (lv_at hl 0 rfl) ?_
    refine va_get (D := D) (ci := 1) (v := .ref (a 5)) (C := RX1) (T := TX1) (N := 5) hx hb hts iwX1_levelOf hown hK hP 1 rfl rfl 2 (by decide) (hts (.fieldLink RX1 18 "LoomPanel$Values" "levels" "[I") flX1_levelOf_18) (fun _ h9 => h9) rfl dX1_levelOf_9 ?_
    refine lv_iload_n hx hb dX1_levelOf_12 rfl (lv_at hl 1 rfl) ?_
    refine va_iald hx hb hK hP 5 0 (f := S.levels) rfl rfl (has_in hI c_5) dX1_levelOf_13 ?_
    refine lv_goto (tgt := 18) hx hb dX1_levelOf_14 (by decide) ?_
    exact r_Ri hx hb hr hlocks hP hI hS (by simp only [f_X1_levelOf, if_neg c_5]) dX1_levelOf_18
theorem hasPlace_in {S : KS} {x k : Int32} (hI : KInv S) (h : ¬ f_X1_hasPlace S x k = 0) : vp_in x 60 ∧ vp_in k 8 := by
  unfold f_X1_hasPlace at h
  obtain ⟨h1, h⟩ := ne_ite h
  obtain ⟨h2, h⟩ := ne_ite h
  obtain ⟨h3, h⟩ := ne_ite h
  obtain ⟨h4, h⟩ := ne_ite h
  have := hI.1
  have := nle h2
  have := hI.2.1 x.toNatClampNeg
  have := nle h4
  exact ⟨in2 (lt0 h1) (by omega), in2 (lt0 h3) (by omega)⟩
abbrev rmX1_cellOf : Room := { frames := 1, cells := 0, slots := 0, locals := 22 }
theorem eeX1_cellOf : yX1_cellOf.cls = RX1 ∧ yX1_cellOf.cls ≠ "java/lang/invoke/MethodHandle" ∧ yX1_cellOf.cls ≠ "java/lang/invoke/VarHandle" ∧ (parseMethodDescriptor yX1_cellOf.desc).map (fun d => d.parameters.length) = some 2 := by decide +kernel
theorem iwX1_cellOf : ∀ w ∈ u_ws RX1 TX1 5, w ∈ wsX1_cellOf := by decide +kernel
theorem flX1_cellOf_21 : Cond.fieldLink RX1 21 "LoomPanel$Values" "cells" "[J" ∈ wsX1_cellOf := by decide +kernel
def f_X1_cellOf (S : KS) (x1 : Int32) (x2 : Int32) : Int64 := if (f_X1_hasPlace S x1 x2) = 0 then (0) else (S.cells ((x1 * 8) + x2).toNatClampNeg)
set_option maxHeartbeats 4000000 in
set_option maxRecDepth 100000 in
theorem c_X1_cellOf (l : Launch) (D : va_G) (cI cJ : ClassId) (a : Nat → Nat) (hd : ∀ i j, i < 11 → j < 11 → a i = a j → i = j) (S : KS) (x1 : Int32) (x2 : Int32) : GRl l yX1_cellOf wsX1_cellOf rmX1_cellOf [.ref (a 1), .int x1, .int x2] D (cw_tys cI cJ) (cw cI cJ a) KInv (kA a) S (f_X1_cellOf S x1 x2) := by
  refine GB_of (cc := cX1_cellOf) (maxL := 3) (ret := (some .long)) (by decide) rfl (Nat.le_of_ble_eq_true rfl) ?_
  intro p e s m below meth c C hP hI ls hl
  obtain ⟨hx, hb, hr, hlocks, hml, hown, hts, hK, hN⟩ := id C
  have hS : va_S (kA a) s.heap s.heap [] := va_S.rf
  have hl : lv_has ls 3 [(0, .ref (a 1)), (1, .int x1), (2, .int x2)] := hl
  refine lv_aload_n hx hb dX1_cellOf_0 rfl (lv_at hl 0 rfl) ?_
  refine lv_iload_n hx hb dX1_cellOf_1 rfl (lv_at hl 1 rfl) ?_
  refine lv_iload_n hx hb dX1_cellOf_2 rfl (lv_at hl 2 rfl) ?_
  refine g_Ri (As := [.int x1, .int x2]) (rest := []) ⟨hx, hb, hml, hown, hts⟩ (c_X1_hasPlace l D cI cJ a hd S x1 x2 ) (cwV 2 hts gX1_cellOf_X1_hasPlace rfl rfl rfl eeX1_hasPlace ⟨Nat.le_of_ble_eq_true rfl, Nat.le_of_ble_eq_true rfl⟩) hK hN hP hI (va_recv hK hP (ci := 1) (q0 := 1) rfl rfl) hS rfl hl.1 rfl (Nat.le_of_ble_eq_true rfl) dX1_cellOf_3 ⟨Nat.zero_le _, Nat.zero_le _⟩ (fun H locs hP hS => ?_)
  refine lv_if_eq (tgt := 23) hx hb dX1_cellOf_6 (by decide) (fun c_6 => ?_) (fun c_6 => ?_)
  · skip
    refine lv_lconst (v := 0) hx hb dX1_cellOf_23 (by decide) ?_
    exact r_Rl hx hb hr hlocks hP hI hS (by simp only [f_X1_cellOf, if_pos c_6]) dX1_cellOf_24
  · skip
    refine lv_aload_n hx hb dX1_cellOf_9 rfl (lv_at hl 0 rfl) ?_
    refine va_get (D := D) (ci := 1) (v := .ref (a 6)) (C := RX1) (T := TX1) (N := 5) hx hb hts iwX1_cellOf hown hK hP 1 rfl rfl 3 (by decide) (hts (.fieldLink RX1 21 "LoomPanel$Values" "cells" "[J") flX1_cellOf_21) (fun _ h9 => h9) rfl dX1_cellOf_10 ?_
    refine lv_iload_n hx hb dX1_cellOf_13 rfl (lv_at hl 1 rfl) ?_
    refine lv_bipush (v := 8) hx hb dX1_cellOf_14 (by decide) ?_
    refine lv_imul hx hb dX1_cellOf_16 ?_
    refine lv_iload_n hx hb dX1_cellOf_17 rfl (lv_at hl 2 rfl) ?_
    refine lv_iadd hx hb dX1_cellOf_18 ?_
    refine va_lald hx hb hK hP 6 1 (f := S.cells) rfl rfl (ix8 (hasPlace_in hI c_6).1 (hasPlace_in hI c_6).2) dX1_cellOf_19 ?_
    refine lv_goto (tgt := 24) hx hb dX1_cellOf_20 (by decide) ?_
    exact r_Rl hx hb hr hlocks hP hI hS (by simp only [f_X1_cellOf, if_neg c_6]) dX1_cellOf_24
abbrev rmX1_placed : Room := { frames := 1, cells := 0, slots := 0, locals := 22 }
theorem eeX1_placed : yX1_placed.cls = RX1 ∧ yX1_placed.cls ≠ "java/lang/invoke/MethodHandle" ∧ yX1_placed.cls ≠ "java/lang/invoke/VarHandle" ∧ (parseMethodDescriptor yX1_placed.desc).map (fun d => d.parameters.length) = some 2 := by decide +kernel
theorem iwX1_placed : ∀ w ∈ u_ws RX1 TX1 5, w ∈ wsX1_placed := by decide +kernel
theorem flX1_placed_21 : Cond.fieldLink RX1 21 "LoomPanel$Values" "cells" "[J" ∈ wsX1_placed := by decide +kernel
def f_X1_placed (S : KS) (x1 : Int32) (x2 : Int32) : Int32 := if (f_X1_hasPlace S x1 x2) = 0 then ((-1)) else ((S.cells ((x1 * 8) + x2).toNatClampNeg).toInt32)
set_option maxHeartbeats 4000000 in
set_option maxRecDepth 100000 in
theorem c_X1_placed (l : Launch) (D : va_G) (cI cJ : ClassId) (a : Nat → Nat) (hd : ∀ i j, i < 11 → j < 11 → a i = a j → i = j) (S : KS) (x1 : Int32) (x2 : Int32) : GRi l yX1_placed wsX1_placed rmX1_placed [.ref (a 1), .int x1, .int x2] D (cw_tys cI cJ) (cw cI cJ a) KInv (kA a) S (f_X1_placed S x1 x2) := by
  refine GB_of (cc := cX1_placed) (maxL := 3) (ret := (some .int)) (by decide) rfl (Nat.le_of_ble_eq_true rfl) ?_
  intro p e s m below meth c C hP hI ls hl
  obtain ⟨hx, hb, hr, hlocks, hml, hown, hts, hK, hN⟩ := id C
  have hS : va_S (kA a) s.heap s.heap [] := va_S.rf
  have hl : lv_has ls 3 [(0, .ref (a 1)), (1, .int x1), (2, .int x2)] := hl
  refine lv_aload_n hx hb dX1_placed_0 rfl (lv_at hl 0 rfl) ?_
  refine lv_iload_n hx hb dX1_placed_1 rfl (lv_at hl 1 rfl) ?_
  refine lv_iload_n hx hb dX1_placed_2 rfl (lv_at hl 2 rfl) ?_
  refine g_Ri (As := [.int x1, .int x2]) (rest := []) ⟨hx, hb, hml, hown, hts⟩ (c_X1_hasPlace l D cI cJ a hd S x1 x2 ) (cwV 2 hts gX1_placed_X1_hasPlace rfl rfl rfl eeX1_hasPlace ⟨Nat.le_of_ble_eq_true rfl, Nat.le_of_ble_eq_true rfl⟩) hK hN hP hI (va_recv hK hP (ci := 1) (q0 := 1) rfl rfl) hS rfl hl.1 rfl (Nat.le_of_ble_eq_true rfl) dX1_placed_3 ⟨Nat.zero_le _, Nat.zero_le _⟩ (fun H locs hP hS => ?_)
  refine lv_if_eq (tgt := 24) hx hb dX1_placed_6 (by decide) (fun c_6 => ?_) (fun c_6 => ?_)
  · skip
    refine lv_iconst (v := (-1)) hx hb dX1_placed_24 (by decide) ?_
    exact r_Ri hx hb hr hlocks hP hI hS (by simp only [f_X1_placed, if_pos c_6]) dX1_placed_25
  · skip
    refine lv_aload_n hx hb dX1_placed_9 rfl (lv_at hl 0 rfl) ?_
    refine va_get (D := D) (ci := 1) (v := .ref (a 6)) (C := RX1) (T := TX1) (N := 5) hx hb hts iwX1_placed hown hK hP 1 rfl rfl 3 (by decide) (hts (.fieldLink RX1 21 "LoomPanel$Values" "cells" "[J") flX1_placed_21) (fun _ h9 => h9) rfl dX1_placed_10 ?_
    refine lv_iload_n hx hb dX1_placed_13 rfl (lv_at hl 1 rfl) ?_
    refine lv_bipush (v := 8) hx hb dX1_placed_14 (by decide) ?_
    refine lv_imul hx hb dX1_placed_16 ?_
    refine lv_iload_n hx hb dX1_placed_17 rfl (lv_at hl 2 rfl) ?_
    refine lv_iadd hx hb dX1_placed_18 ?_
    refine va_lald hx hb hK hP 6 1 (f := S.cells) rfl rfl (ix8 (hasPlace_in hI c_6).1 (hasPlace_in hI c_6).2) dX1_placed_19 ?_
    refine lv_l2i (v := (S.cells ((x1 * 8) + x2).toNatClampNeg).toInt32) hx hb dX1_placed_20 rfl ?_
    refine lv_goto (tgt := 25) hx hb dX1_placed_21 (by decide) ?_
    exact r_Ri hx hb hr hlocks hP hI hS (by simp only [f_X1_placed, if_neg c_6]) dX1_placed_25
abbrev rmX1_lowestBits : Room := { frames := 0, cells := 0, slots := 0, locals := 0 }
theorem esX1_lowestBits : yX1_lowestBits.cls ≠ "java/lang/invoke/MethodHandle" ∧ yX1_lowestBits.cls ≠ "java/lang/invoke/VarHandle" ∧ (parseMethodDescriptor yX1_lowestBits.desc).map (fun d => d.parameters.length) = some 2 := by decide +kernel
def f_X1_lowestBits (x0 : Int32) (x1 : Int64) : Int64 := if x0 = 0 then (x1.toInt32.toInt8.toInt32.toInt64) else (if x0 = 1 then (x1.toInt32.toInt64) else (x1))
set_option maxHeartbeats 4000000 in
set_option maxRecDepth 100000 in
theorem c_X1_lowestBits (l : Launch) (x0 : Int32) (x1 : Int64) : GSl l yX1_lowestBits wsX1_lowestBits rmX1_lowestBits [.int x0, .long x1] (f_X1_lowestBits x0 x1) := by
  refine GS_of (cc := cX1_lowestBits) (maxL := 3) (ret := (some .long)) (by decide) rfl (Nat.le_of_ble_eq_true rfl) ?_
  intro p e s m below meth c C ls hl
  obtain ⟨hx, hb, hr, hlocks, hml, hown, hts⟩ := id C
  have hl : lv_has ls 3 [(0, .int x0), (1, .long x1)] := hl
  refine lv_iload_n hx hb dX1_lowestBits_0 rfl (lv_at hl 0 rfl) ?_
  by_cases c_1_0 : x0 = 0
  · refine lv_lookup (tgt := 28) hx hb dX1_lowestBits_1 (by decide) (by rw [c_1_0] <;> rfl) (by decide) ?_
    refine lv_lload_n hx hb dX1_lowestBits_28 rfl (lv_at hl 1 rfl) ?_
    refine lv_l2i (v := x1.toInt32) hx hb dX1_lowestBits_29 rfl ?_
    refine lv_i2b (v := x1.toInt32.toInt8.toInt32) hx hb dX1_lowestBits_30 rfl ?_
    refine lv_i2l (v := x1.toInt32.toInt8.toInt32.toInt64) hx hb dX1_lowestBits_31 rfl ?_
    exact r_Sl hx hb hr hlocks (by simp only [f_X1_lowestBits, if_pos c_1_0]) dX1_lowestBits_32
  by_cases c_1_1 : x0 = 1
  · refine lv_lookup (tgt := 33) hx hb dX1_lowestBits_1 (by decide) (by rw [c_1_1] <;> rfl) (by decide) ?_
    refine lv_lload_n hx hb dX1_lowestBits_33 rfl (lv_at hl 1 rfl) ?_
    refine lv_l2i (v := x1.toInt32) hx hb dX1_lowestBits_34 rfl ?_
    refine lv_i2l (v := x1.toInt32.toInt64) hx hb dX1_lowestBits_35 rfl ?_
    exact r_Sl hx hb hr hlocks (by simp only [f_X1_lowestBits, if_neg c_1_0, if_pos c_1_1]) dX1_lowestBits_36
  refine lv_lookup (off := 36) (tgt := 37) hx hb dX1_lowestBits_1 (by decide) ((lv_osw c_1_0 (by decide)).trans ((lv_osw c_1_1 (by decide)).trans (rfl))) (by decide) ?_
  refine lv_lload_n hx hb dX1_lowestBits_37 rfl (lv_at hl 1 rfl) ?_
  exact r_Sl hx hb hr hlocks (by simp only [f_X1_lowestBits, if_neg c_1_0, if_neg c_1_1]) dX1_lowestBits_38
abbrev rmX1_put : Room := { frames := 1, cells := 0, slots := 0, locals := 22 }
theorem eeX1_put : yX1_put.cls = RX1 ∧ yX1_put.cls ≠ "java/lang/invoke/MethodHandle" ∧ yX1_put.cls ≠ "java/lang/invoke/VarHandle" ∧ (parseMethodDescriptor yX1_put.desc).map (fun d => d.parameters.length) = some 3 := by decide +kernel
theorem iwX1_put : ∀ w ∈ u_ws RX1 TX1 5, w ∈ wsX1_put := by decide +kernel
theorem flX1_put_21 : Cond.fieldLink RX1 21 "LoomPanel$Values" "cells" "[J" ∈ wsX1_put := by decide +kernel
theorem flX1_put_9 : Cond.fieldLink RX1 9 "LoomPanel$Values" "forms" "[I" ∈ wsX1_put := by decide +kernel
def f_X1_put (S : KS) (x1 : Int32) (x2 : Int32) (x3 : Int64) : KS := if (f_X1_hasPlace S x1 x2) = 0 then (S) else (S.set_cells (vp_updL S.cells ((x1 * 8) + x2).toNatClampNeg (f_X1_lowestBits (S.forms x1.toNatClampNeg) x3)))
set_option maxHeartbeats 4000000 in
set_option maxRecDepth 100000 in
theorem c_X1_put (l : Launch) (D : va_G) (cI cJ : ClassId) (a : Nat → Nat) (hd : ∀ i j, i < 11 → j < 11 → a i = a j → i = j) (S : KS) (x1 : Int32) (x2 : Int32) (x3 : Int64) : GWv l yX1_put wsX1_put rmX1_put [.ref (a 1), .int x1, .int x2, .long x3] D (cw_tys cI cJ) (cw cI cJ a) KInv (kA a) S (f_X1_put S x1 x2 x3) := by
  refine GB_of (cc := cX1_put) (maxL := 5) (ret := none) (by decide) rfl (Nat.le_of_ble_eq_true rfl) ?_
  intro p e s m below meth c C hP hI ls hl
  obtain ⟨hx, hb, hr, hlocks, hml, hown, hts, hK, hN⟩ := id C
  have hS : va_S (kA a) s.heap s.heap [] := va_S.rf
  have hl : lv_has ls 5 [(0, .ref (a 1)), (1, .int x1), (2, .int x2), (3, .long x3)] := hl
  refine lv_aload_n hx hb dX1_put_0 rfl (lv_at hl 0 rfl) ?_
  refine lv_iload_n hx hb dX1_put_1 rfl (lv_at hl 1 rfl) ?_
  refine lv_iload_n hx hb dX1_put_2 rfl (lv_at hl 2 rfl) ?_
  refine g_Ri (As := [.int x1, .int x2]) (rest := []) ⟨hx, hb, hml, hown, hts⟩ (c_X1_hasPlace l D cI cJ a hd S x1 x2 ) (cwV 2 hts gX1_put_X1_hasPlace rfl rfl rfl eeX1_hasPlace ⟨Nat.le_of_ble_eq_true rfl, Nat.le_of_ble_eq_true rfl⟩) hK hN hP hI (va_recv hK hP (ci := 1) (q0 := 1) rfl rfl) hS rfl hl.1 rfl (Nat.le_of_ble_eq_true rfl) dX1_put_3 ⟨Nat.zero_le _, Nat.zero_le _⟩ (fun H locs hP hS => ?_)
  refine lv_if_eq (tgt := 30) hx hb dX1_put_6 (by decide) (fun c_6 => ?_) (fun c_6 => ?_)
  · skip
    exact r_Wv hx hb hr hlocks hP hI hS (by simp only [f_X1_put, if_pos c_6]) dX1_put_30
  · skip
    refine lv_aload_n hx hb dX1_put_9 rfl (lv_at hl 0 rfl) ?_
    refine va_get (D := D) (ci := 1) (v := .ref (a 6)) (C := RX1) (T := TX1) (N := 5) hx hb hts iwX1_put hown hK hP 1 rfl rfl 3 (by decide) (hts (.fieldLink RX1 21 "LoomPanel$Values" "cells" "[J") flX1_put_21) (fun _ h9 => h9) rfl dX1_put_10 ?_
    refine lv_iload_n hx hb dX1_put_13 rfl (lv_at hl 1 rfl) ?_
    refine lv_bipush (v := 8) hx hb dX1_put_14 (by decide) ?_
    refine lv_imul hx hb dX1_put_16 ?_
    refine lv_iload_n hx hb dX1_put_17 rfl (lv_at hl 2 rfl) ?_
    refine lv_iadd hx hb dX1_put_18 ?_
    refine lv_aload_n hx hb dX1_put_19 rfl (lv_at hl 0 rfl) ?_
    refine va_get (D := D) (ci := 1) (v := .ref (a 3)) (C := RX1) (T := TX1) (N := 5) hx hb hts iwX1_put hown hK hP 1 rfl rfl 0 (by decide) (hts (.fieldLink RX1 9 "LoomPanel$Values" "forms" "[I") flX1_put_9) (fun _ h9 => h9) rfl dX1_put_20 ?_
    refine lv_iload_n hx hb dX1_put_23 rfl (lv_at hl 1 rfl) ?_
    refine va_iald hx hb hK hP 3 0 (f := S.forms) rfl rfl ((hasPlace_in hI c_6).1) dX1_put_24 ?_
    refine lv_lload_n hx hb dX1_put_25 rfl (lv_at hl 3 rfl) ?_
    refine g_Sl (As := [.int (S.forms x1.toNatClampNeg), .long x3]) (rest := [.int ((x1 * 8) + x2), .ref (a 6)]) ⟨hx, hb, hml, hown, hts⟩ (c_X1_lowestBits l (S.forms x1.toNatClampNeg) x3) (va_cwS 2 hts gX1_put_X1_lowestBits rfl rfl rfl esX1_lowestBits ⟨Nat.le_of_ble_eq_true rfl, Nat.le_of_ble_eq_true rfl⟩) hP hS rfl hl.1 rfl (Nat.le_of_ble_eq_true rfl) dX1_put_26 ⟨Nat.zero_le _, Nat.zero_le _⟩ (fun H locs hP hS => ?_)
    refine va_last hx hb hK hP (cw_D hd) hS 6 1 (f := S.cells) rfl rfl (ix8 (hasPlace_in hI c_6).1 (hasPlace_in hI c_6).2) dX1_put_29 (fun H locs hP _ hS => ?_)
    have hP : va_P D vwCl (cw cI cJ a (S.set_cells (vp_updL S.cells ((x1 * 8) + x2).toNatClampNeg (f_X1_lowestBits (S.forms x1.toNatClampNeg) x3)))) H := by rw [← cw_set_cells]; exact hP
    have hI : KInv (S.set_cells (vp_updL S.cells ((x1 * 8) + x2).toNatClampNeg (f_X1_lowestBits (S.forms x1.toNatClampNeg) x3))) := KInv_set_cells hI
    exact r_Wv hx hb hr hlocks hP hI hS (by simp only [f_X1_put, if_neg c_6]) dX1_put_30
abbrev rmX2_isBoardForm : Room := { frames := 0, cells := 0, slots := 0, locals := 0 }
theorem esX2_isBoardForm : yX2_isBoardForm.cls ≠ "java/lang/invoke/MethodHandle" ∧ yX2_isBoardForm.cls ≠ "java/lang/invoke/VarHandle" ∧ (parseMethodDescriptor yX2_isBoardForm.desc).map (fun d => d.parameters.length) = some 1 := by decide +kernel
def f_X2_isBoardForm (x0 : Int32) : Int32 := if x0 = 3 then (1) else (if x0 < 6 then (0) else (if 10 < x0 then (0) else (1)))
set_option maxHeartbeats 4000000 in
set_option maxRecDepth 100000 in
theorem c_X2_isBoardForm (l : Launch) (x0 : Int32) : GSi l yX2_isBoardForm wsX2_isBoardForm rmX2_isBoardForm [.int x0] (f_X2_isBoardForm x0) := by
  refine GS_of (cc := cX2_isBoardForm) (maxL := 1) (ret := (some .boolean)) (by decide) rfl (Nat.le_of_ble_eq_true rfl) ?_
  intro p e s m below meth c C ls hl
  obtain ⟨hx, hb, hr, hlocks, hml, hown, hts⟩ := id C
  have hl : lv_has ls 1 [(0, .int x0)] := hl
  refine lv_iload_n hx hb dX2_isBoardForm_0 rfl (lv_at hl 0 rfl) ?_
  refine lv_iconst (v := 3) hx hb dX2_isBoardForm_1 (by decide) ?_
  refine lv_icmp_eq (tgt := 17) hx hb dX2_isBoardForm_2 (by decide) (fun c_2 => ?_) (fun c_2 => ?_)
  · skip
    refine lv_iconst (v := 1) hx hb dX2_isBoardForm_17 (by decide) ?_
    refine lv_goto (tgt := 22) hx hb dX2_isBoardForm_18 (by decide) ?_
    exact r_Sz hx hb hr hlocks rfl (by simp only [f_X2_isBoardForm, if_pos c_2]) dX2_isBoardForm_22
  · skip
    refine lv_iload_n hx hb dX2_isBoardForm_5 rfl (lv_at hl 0 rfl) ?_
    refine lv_bipush (v := 6) hx hb dX2_isBoardForm_6 (by decide) ?_
    refine lv_icmp_lt (tgt := 21) hx hb dX2_isBoardForm_8 (by decide) (fun c_8 => ?_) (fun c_8 => ?_)
    · skip
      refine lv_iconst (v := 0) hx hb dX2_isBoardForm_21 (by decide) ?_
      exact r_Sz hx hb hr hlocks rfl (by simp only [f_X2_isBoardForm, if_neg c_2, if_pos c_8]) dX2_isBoardForm_22
    · skip
      refine lv_iload_n hx hb dX2_isBoardForm_11 rfl (lv_at hl 0 rfl) ?_
      refine lv_bipush (v := 10) hx hb dX2_isBoardForm_12 (by decide) ?_
      refine lv_icmp_gt (tgt := 21) hx hb dX2_isBoardForm_14 (by decide) (fun c_14 => ?_) (fun c_14 => ?_)
      · skip
        refine lv_iconst (v := 0) hx hb dX2_isBoardForm_21 (by decide) ?_
        exact r_Sz hx hb hr hlocks rfl (by simp only [f_X2_isBoardForm, if_neg c_2, if_neg c_8, if_pos c_14]) dX2_isBoardForm_22
      · skip
        refine lv_iconst (v := 1) hx hb dX2_isBoardForm_17 (by decide) ?_
        refine lv_goto (tgt := 22) hx hb dX2_isBoardForm_18 (by decide) ?_
        exact r_Sz hx hb hr hlocks rfl (by simp only [f_X2_isBoardForm, if_neg c_2, if_neg c_8, if_neg c_14]) dX2_isBoardForm_22
abbrev rmX2_isLength : Room := { frames := 0, cells := 0, slots := 0, locals := 0 }
theorem esX2_isLength : yX2_isLength.cls ≠ "java/lang/invoke/MethodHandle" ∧ yX2_isLength.cls ≠ "java/lang/invoke/VarHandle" ∧ (parseMethodDescriptor yX2_isLength.desc).map (fun d => d.parameters.length) = some 1 := by decide +kernel
def f_X2_isLength (x0 : Int32) : Int32 := if x0 < 0 then (0) else (if 8 < x0 then (0) else (1))
set_option maxHeartbeats 4000000 in
set_option maxRecDepth 100000 in
theorem c_X2_isLength (l : Launch) (x0 : Int32) : GSi l yX2_isLength wsX2_isLength rmX2_isLength [.int x0] (f_X2_isLength x0) := by
  refine GS_of (cc := cX2_isLength) (maxL := 1) (ret := (some .boolean)) (by decide) rfl (Nat.le_of_ble_eq_true rfl) ?_
  intro p e s m below meth c C ls hl
  obtain ⟨hx, hb, hr, hlocks, hml, hown, hts⟩ := id C
  have hl : lv_has ls 1 [(0, .int x0)] := hl
  refine lv_iload_n hx hb dX2_isLength_0 rfl (lv_at hl 0 rfl) ?_
  refine lv_if_lt (tgt := 14) hx hb dX2_isLength_1 (by decide) (fun c_1 => ?_) (fun c_1 => ?_)
  · skip
    refine lv_iconst (v := 0) hx hb dX2_isLength_14 (by decide) ?_
    exact r_Sz hx hb hr hlocks rfl (by simp only [f_X2_isLength, if_pos c_1]) dX2_isLength_15
  · skip
    refine lv_iload_n hx hb dX2_isLength_4 rfl (lv_at hl 0 rfl) ?_
    refine lv_bipush (v := 8) hx hb dX2_isLength_5 (by decide) ?_
    refine lv_icmp_gt (tgt := 14) hx hb dX2_isLength_7 (by decide) (fun c_7 => ?_) (fun c_7 => ?_)
    · skip
      refine lv_iconst (v := 0) hx hb dX2_isLength_14 (by decide) ?_
      exact r_Sz hx hb hr hlocks rfl (by simp only [f_X2_isLength, if_neg c_1, if_pos c_7]) dX2_isLength_15
    · skip
      refine lv_iconst (v := 1) hx hb dX2_isLength_10 (by decide) ?_
      refine lv_goto (tgt := 15) hx hb dX2_isLength_11 (by decide) ?_
      exact r_Sz hx hb hr hlocks rfl (by simp only [f_X2_isLength, if_neg c_1, if_neg c_7]) dX2_isLength_15
theorem isLength_in {x : Int32} (h : ¬ f_X2_isLength x = 0) : 0 ≤ x.toInt ∧ x.toInt ≤ 8 := by
  unfold f_X2_isLength at h
  obtain ⟨h1, h⟩ := ne_ite h
  obtain ⟨h2, h⟩ := ne_ite h
  exact ⟨lt0 h1, nlt h2⟩
theorem made_set {S : KS} {v : Int32} (hI : KInv S) (h0 : 0 ≤ v.toInt) (h1 : v.toInt ≤ 60) : KInv (S.set_made v) := ⟨⟨h0, h1⟩, hI.2⟩
theorem made_up {S : KS} (hI : KInv S) (h : ¬ (60 : Int32) ≤ S.made) : KInv (S.set_made (S.made + 1)) := by
  have h1 := nle h
  have h2 := add1 (k := 60) hI.1.1 h1 (by decide)
  have := hI.1
  have : (60 : Int32).toInt = 60 := by decide
  exact made_set hI (by omega) (by omega)
theorem lens_set {S : KS} {k : Nat} {v : Int32} (hI : KInv S) (h : 0 ≤ v.toInt ∧ v.toInt ≤ 8) : KInv (S.set_lens (upd S.lens k v)) := by
  refine ⟨hI.1, fun i => ?_, hI.2.2⟩
  show 0 ≤ (upd S.lens k v i).toInt ∧ (upd S.lens k v i).toInt ≤ 8
  by_cases hh : i = k
  · subst hh; rw [pk_us]; exact h
  · rw [pk_un hh]; exact hI.2.1 i
theorem made_in {S : KS} (hI : KInv S) (h : ¬ (60 : Int32) ≤ S.made) : vp_in S.made 60 := in2 hI.1.1 (nle h)
abbrev rmX1_add : Room := { frames := 1, cells := 0, slots := 0, locals := 20 }
theorem eeX1_add : yX1_add.cls = RX1 ∧ yX1_add.cls ≠ "java/lang/invoke/MethodHandle" ∧ yX1_add.cls ≠ "java/lang/invoke/VarHandle" ∧ (parseMethodDescriptor yX1_add.desc).map (fun d => d.parameters.length) = some 2 := by decide +kernel
theorem iwX1_add : ∀ w ∈ u_ws RX1 TX1 5, w ∈ wsX1_add := by decide +kernel
theorem flX1_add_15 : Cond.fieldLink RX1 15 "LoomPanel$Values" "lengths" "[I" ∈ wsX1_add := by decide +kernel
theorem flX1_add_18 : Cond.fieldLink RX1 18 "LoomPanel$Values" "levels" "[I" ∈ wsX1_add := by decide +kernel
theorem flX1_add_21 : Cond.fieldLink RX1 21 "LoomPanel$Values" "cells" "[J" ∈ wsX1_add := by decide +kernel
theorem flX1_add_25 : Cond.fieldLink RX1 25 "LoomPanel$Values" "made" "I" ∈ wsX1_add := by decide +kernel
theorem flX1_add_9 : Cond.fieldLink RX1 9 "LoomPanel$Values" "forms" "[I" ∈ wsX1_add := by decide +kernel
theorem wiX1_add_X2 : Cond.initialized RX2 ∈ wsX1_add := by decide +kernel
theorem wstX1_add_isBoardForm : Cond.static yX2_isBoardForm ∈ wsX1_add := by decide +kernel
theorem wstX1_add_isLength : Cond.static yX2_isLength ∈ wsX1_add := by decide +kernel
def f_X1_add_c72 : Nat → KS → Int32 → Int32 → Int32 → Nat → Int32 × KS
  | 0, S, _, _, _, _ => (0, S)
  | n + 1, S, x2, x3, x4, j => if x2 ≤ (nI j) then ((x3, S)) else (f_X1_add_c72 n (S.set_cells (vp_updL S.cells ((x3 * 8) + (nI j)).toNatClampNeg x4.toInt64)) x2 x3 x4 (j + 1))
set_option maxHeartbeats 4000000 in
set_option maxRecDepth 100000 in
theorem w_X1_add_c72 {l : Launch} {D : va_G} {cI cJ : ClassId} {a : Nat → Nat} (hd : ∀ i j, i < 11 → j < 11 → a i = a j → i = j) {p : Program} {e : Env} {s : State} {m : MethodId} {args : Array Value} {below : List Frame} {meth : Method} {c : Code} (C : GC p s m meth c cX1_add (some .int) 6 RX1 wsX1_add args D (cw_tys cI cJ)) {v : Int32 × KS} : ∀ (n : Nat) (S : KS) (x2 : Int32) (x3 : Int32) (x4 : Int32) (j : Nat) (hx3 : vp_in x3 60) (hx2 : x2.toInt ≤ 8) (hj : j ≤ 8) (hn : j + n = 9) (H : Heap) (locs : List Loc) (ls : Array Slot), va_P D vwCl (cw cI cJ a S) H → KInv S → va_S (kA a) s.heap H locs → lv_has ls 6 [(0, .ref (a 1)), (2, .int x2), (3, .int x3), (4, .int x4), (5, .int (nI j))] → v = f_X1_add_c72 n S x2 x3 x4 j → W p l e rmX1_add s m args below meth c H locs 0 0 (MQ below (va_Qi (fun r u => v = (r, u)) (GE D (cw cI cJ a) KInv) (kA a)) args s 0 0 (kA a)) (F0 m 72 ls []) := by
  obtain ⟨hx, hb, hr, hlocks, hml, hown, hts, hK, hN⟩ := id C
  intro n
  induction n with
  | zero =>
    intro S x2 x3 x4 j hx3 hx2 hj hn H locs ls hP hI hS hl hq
    exact absurd hn (by omega)
  | succ n ih =>
    intro S x2 x3 x4 j hx3 hx2 hj hn H locs ls hP hI hS hl hq
    refine lv_iload hx hb dX1_add_72 (lv_at hl 4 rfl) ?_
    refine lv_iload_n hx hb dX1_add_74 rfl (lv_at hl 1 rfl) ?_
    refine lv_icmp_ge (tgt := 99) hx hb dX1_add_75 (by decide) (fun c_75 => ?_) (fun c_75 => ?_)
    · skip
      refine lv_iload_n hx hb dX1_add_99 rfl (lv_at hl 2 rfl) ?_
      exact r_Wi hx hb hr hlocks hP hI hS (hq.trans (by simp only [f_X1_add_c72, if_pos c_75])) dX1_add_100
    · skip
      refine lv_aload_n hx hb dX1_add_78 rfl (lv_at hl 0 rfl) ?_
      refine va_get (D := D) (ci := 1) (v := .ref (a 6)) (C := RX1) (T := TX1) (N := 5) hx hb hts iwX1_add hown hK hP 1 rfl rfl 3 (by decide) (hts (.fieldLink RX1 21 "LoomPanel$Values" "cells" "[J") flX1_add_21) (fun _ h9 => h9) rfl dX1_add_79 ?_
      refine lv_iload_n hx hb dX1_add_82 rfl (lv_at hl 2 rfl) ?_
      refine lv_bipush (v := 8) hx hb dX1_add_83 (by decide) ?_
      refine lv_imul hx hb dX1_add_85 ?_
      refine lv_iload hx hb dX1_add_86 (lv_at hl 4 rfl) ?_
      refine lv_iadd hx hb dX1_add_88 ?_
      refine lv_iload hx hb dX1_add_89 (lv_at hl 3 rfl) ?_
      refine lv_i2l (v := x4.toInt64) hx hb dX1_add_91 rfl ?_
      refine va_last hx hb hK hP (cw_D hd) hS 6 1 (f := S.cells) rfl rfl (ix8 hx3 (jin (jl8 c_75 hx2 hj) (by decide))) dX1_add_92 (fun H locs hP _ hS => ?_)
      have hP : va_P D vwCl (cw cI cJ a (S.set_cells (vp_updL S.cells ((x3 * 8) + (nI j)).toNatClampNeg x4.toInt64))) H := by rw [← cw_set_cells]; exact hP
      have hI : KInv (S.set_cells (vp_updL S.cells ((x3 * 8) + (nI j)).toNatClampNeg x4.toInt64)) := KInv_set_cells hI
      refine lv_iinc (v := nI (j + 1)) (lv' := [(5, .int (nI (j + 1))), (0, .ref (a 1)), (2, .int x2), (3, .int x3), (4, .int x4)]) hx hb dX1_add_93 hl (k := 4) rfl (nI_1 _) (by decide) rfl (fun ls hl => ?_)
      refine lv_goto (tgt := 72) hx hb dX1_add_96 (by decide) ?_
      exact ih (S.set_cells (vp_updL S.cells ((x3 * 8) + (nI j)).toNatClampNeg x4.toInt64)) x2 x3 x4 (j + 1) hx3 hx2 (jl8 c_75 hx2 hj) (by omega) _ _ _ hP hI hS (lv_sub hl [1, 2, 3, 4, 0] rfl) (hq.trans (by simp only [f_X1_add_c72, if_neg c_75]))
def f_X1_add (S : KS) (x1 : Int32) (x2 : Int32) : Int32 × KS := if 60 ≤ S.made then (((-4), S)) else (if (f_X2_isLength x2) = 0 then (((-4), S)) else (if (f_X2_isBoardForm x1) = 0 then (f_X1_add_c72 9 ((((S.set_made (S.made + 1)).set_forms (upd ((S.set_made (S.made + 1)).forms) S.made.toNatClampNeg x1)).set_lens (upd (((S.set_made (S.made + 1)).set_forms (upd ((S.set_made (S.made + 1)).forms) S.made.toNatClampNeg x1)).lens) S.made.toNatClampNeg x2)).set_levels (upd ((((S.set_made (S.made + 1)).set_forms (upd ((S.set_made (S.made + 1)).forms) S.made.toNatClampNeg x1)).set_lens (upd (((S.set_made (S.made + 1)).set_forms (upd ((S.set_made (S.made + 1)).forms) S.made.toNatClampNeg x1)).lens) S.made.toNatClampNeg x2)).levels) S.made.toNatClampNeg 0)) x2 S.made 0 0) else (f_X1_add_c72 9 ((((S.set_made (S.made + 1)).set_forms (upd ((S.set_made (S.made + 1)).forms) S.made.toNatClampNeg x1)).set_lens (upd (((S.set_made (S.made + 1)).set_forms (upd ((S.set_made (S.made + 1)).forms) S.made.toNatClampNeg x1)).lens) S.made.toNatClampNeg x2)).set_levels (upd ((((S.set_made (S.made + 1)).set_forms (upd ((S.set_made (S.made + 1)).forms) S.made.toNatClampNeg x1)).set_lens (upd (((S.set_made (S.made + 1)).set_forms (upd ((S.set_made (S.made + 1)).forms) S.made.toNatClampNeg x1)).lens) S.made.toNatClampNeg x2)).levels) S.made.toNatClampNeg 0)) x2 S.made (-1) 0)))
set_option maxHeartbeats 4000000 in
set_option maxRecDepth 100000 in
theorem c_X1_add (l : Launch) (D : va_G) (cI cJ : ClassId) (a : Nat → Nat) (hd : ∀ i j, i < 11 → j < 11 → a i = a j → i = j) (S : KS) (x1 : Int32) (x2 : Int32) : GWi l yX1_add wsX1_add rmX1_add [.ref (a 1), .int x1, .int x2] D (cw_tys cI cJ) (cw cI cJ a) KInv (kA a) S (f_X1_add S x1 x2) := by
  refine GB_of (cc := cX1_add) (maxL := 6) (ret := (some .int)) (by decide) rfl (Nat.le_of_ble_eq_true rfl) ?_
  intro p e s m below meth c C hP hI ls hl
  obtain ⟨hx, hb, hr, hlocks, hml, hown, hts, hK, hN⟩ := id C
  have hS : va_S (kA a) s.heap s.heap [] := va_S.rf
  have hl : lv_has ls 6 [(0, .ref (a 1)), (1, .int x1), (2, .int x2)] := hl
  refine lv_aload_n hx hb dX1_add_0 rfl (lv_at hl 0 rfl) ?_
  refine va_get (D := D) (ci := 1) (v := .int S.made) (C := RX1) (T := TX1) (N := 5) hx hb hts iwX1_add hown hK hP 1 rfl rfl 4 (by decide) (hts (.fieldLink RX1 25 "LoomPanel$Values" "made" "I") flX1_add_25) (fun _ h9 => h9) rfl dX1_add_1 ?_
  refine lv_bipush (v := 60) hx hb dX1_add_4 (by decide) ?_
  refine lv_icmp_ge (tgt := 16) hx hb dX1_add_6 (by decide) (fun c_6 => ?_) (fun c_6 => ?_)
  · skip
    refine lv_bipush (v := (-4)) hx hb dX1_add_16 (by decide) ?_
    exact r_Wi hx hb hr hlocks hP hI hS (by simp only [f_X1_add, if_pos c_6]) dX1_add_18
  · skip
    refine lv_iload_n hx hb dX1_add_9 rfl (lv_at hl 2 rfl) ?_
    refine g_SiN (As := [.int x2]) (rest := []) ⟨hx, hb, hml, hown, hts⟩ (c_X2_isLength l x2) ⟨va_cnB 1 hts gX1_add_X2_isLength_n45 rfl rfl rfl hN.2.1 (hts (.initialized RX2) wiX1_add_X2) esX2_isLength ⟨Nat.le_of_ble_eq_true rfl, Nat.le_of_ble_eq_true rfl⟩, hts (.static yX2_isLength) wstX1_add_isLength, trivial⟩ hP hS rfl hl.1 rfl (Nat.le_of_ble_eq_true rfl) dX1_add_10 ⟨Nat.zero_le _, Nat.zero_le _⟩ (fun H locs hP hS => ?_)
    refine lv_if_ne (tgt := 19) hx hb dX1_add_13 (by decide) (fun c_13 => ?_) (fun c_13 => ?_)
    · skip
      have hm := made_in hI c_6
      refine lv_aload_n hx hb dX1_add_19 rfl (lv_at hl 0 rfl) ?_
      refine va_get (D := D) (ci := 1) (v := .int S.made) (C := RX1) (T := TX1) (N := 5) hx hb hts iwX1_add hown hK hP 1 rfl rfl 4 (by decide) (hts (.fieldLink RX1 25 "LoomPanel$Values" "made" "I") flX1_add_25) (fun _ h9 => h9) rfl dX1_add_20 ?_
      refine lv_istore_n (lv' := [(3, .int S.made), (0, .ref (a 1)), (1, .int x1), (2, .int x2)]) hx hb dX1_add_23 rfl hl (by decide) rfl (fun ls hl => ?_)
      refine lv_aload_n hx hb dX1_add_24 rfl (lv_at hl 1 rfl) ?_
      refine lv_dup hx hb dX1_add_25 rfl ?_
      refine va_get (D := D) (ci := 1) (v := .int S.made) (C := RX1) (T := TX1) (N := 5) hx hb hts iwX1_add hown hK hP 1 rfl rfl 4 (by decide) (hts (.fieldLink RX1 25 "LoomPanel$Values" "made" "I") flX1_add_25) (fun _ h9 => h9) rfl dX1_add_26 ?_
      refine lv_iconst (v := 1) hx hb dX1_add_29 (by decide) ?_
      refine lv_iadd hx hb dX1_add_30 ?_
      refine va_put (D := D) (ci := 1) (v := .int (S.made + 1)) (ty := .int) (C := RX1) (T := TX1) (N := 5) hx hb hts iwX1_add tyX1 tyX1_ok nmX1 hown hK hP (cw_D hd) hS 1 rfl rfl 4 (by decide) (hts (.fieldLink RX1 25 "LoomPanel$Values" "made" "I") flX1_add_25) (fun _ h9 => h9) rfl (by decide +kernel) rfl rfl (Nat.le_of_ble_eq_true rfl) dX1_add_31 (fun H locs hP _ hS => ?_)
      have hP : va_P D vwCl (cw cI cJ a (S.set_made (S.made + 1))) H := by rw [← cw_set_made]; exact hP
      have hI : KInv (S.set_made (S.made + 1)) := made_up hI c_6
      refine lv_aload_n hx hb dX1_add_34 rfl (lv_at hl 1 rfl) ?_
      refine va_get (D := D) (ci := 1) (v := .ref (a 3)) (C := RX1) (T := TX1) (N := 5) hx hb hts iwX1_add hown hK hP 1 rfl rfl 0 (by decide) (hts (.fieldLink RX1 9 "LoomPanel$Values" "forms" "[I") flX1_add_9) (fun _ h9 => h9) rfl dX1_add_35 ?_
      refine lv_iload_n hx hb dX1_add_38 rfl (lv_at hl 0 rfl) ?_
      refine lv_iload_n hx hb dX1_add_39 rfl (lv_at hl 2 rfl) ?_
      refine va_iast hx hb hK hP (cw_D hd) hS 3 0 (f := (S.set_made (S.made + 1)).forms) rfl rfl hm dX1_add_40 (fun H locs hP _ hS => ?_)
      have hP : va_P D vwCl (cw cI cJ a ((S.set_made (S.made + 1)).set_forms (upd ((S.set_made (S.made + 1)).forms) S.made.toNatClampNeg x1))) H := by rw [← cw_set_forms]; exact hP
      have hI : KInv ((S.set_made (S.made + 1)).set_forms (upd ((S.set_made (S.made + 1)).forms) S.made.toNatClampNeg x1)) := KInv_set_forms hI
      refine lv_aload_n hx hb dX1_add_41 rfl (lv_at hl 1 rfl) ?_
      refine va_get (D := D) (ci := 1) (v := .ref (a 4)) (C := RX1) (T := TX1) (N := 5) hx hb hts iwX1_add hown hK hP 1 rfl rfl 1 (by decide) (hts (.fieldLink RX1 15 "LoomPanel$Values" "lengths" "[I") flX1_add_15) (fun _ h9 => h9) rfl dX1_add_42 ?_
      refine lv_iload_n hx hb dX1_add_45 rfl (lv_at hl 0 rfl) ?_
      refine lv_iload_n hx hb dX1_add_46 rfl (lv_at hl 3 rfl) ?_
      refine va_iast hx hb hK hP (cw_D hd) hS 4 0 (f := ((S.set_made (S.made + 1)).set_forms (upd ((S.set_made (S.made + 1)).forms) S.made.toNatClampNeg x1)).lens) rfl rfl hm dX1_add_47 (fun H locs hP _ hS => ?_)
      have hP : va_P D vwCl (cw cI cJ a (((S.set_made (S.made + 1)).set_forms (upd ((S.set_made (S.made + 1)).forms) S.made.toNatClampNeg x1)).set_lens (upd (((S.set_made (S.made + 1)).set_forms (upd ((S.set_made (S.made + 1)).forms) S.made.toNatClampNeg x1)).lens) S.made.toNatClampNeg x2))) H := by rw [← cw_set_lens]; exact hP
      have hI : KInv (((S.set_made (S.made + 1)).set_forms (upd ((S.set_made (S.made + 1)).forms) S.made.toNatClampNeg x1)).set_lens (upd (((S.set_made (S.made + 1)).set_forms (upd ((S.set_made (S.made + 1)).forms) S.made.toNatClampNeg x1)).lens) S.made.toNatClampNeg x2)) := lens_set hI (isLength_in c_13)
      refine lv_aload_n hx hb dX1_add_48 rfl (lv_at hl 1 rfl) ?_
      refine va_get (D := D) (ci := 1) (v := .ref (a 5)) (C := RX1) (T := TX1) (N := 5) hx hb hts iwX1_add hown hK hP 1 rfl rfl 2 (by decide) (hts (.fieldLink RX1 18 "LoomPanel$Values" "levels" "[I") flX1_add_18) (fun _ h9 => h9) rfl dX1_add_49 ?_
      refine lv_iload_n hx hb dX1_add_52 rfl (lv_at hl 0 rfl) ?_
      refine lv_iconst (v := 0) hx hb dX1_add_53 (by decide) ?_
      refine va_iast hx hb hK hP (cw_D hd) hS 5 0 (f := (((S.set_made (S.made + 1)).set_forms (upd ((S.set_made (S.made + 1)).forms) S.made.toNatClampNeg x1)).set_lens (upd (((S.set_made (S.made + 1)).set_forms (upd ((S.set_made (S.made + 1)).forms) S.made.toNatClampNeg x1)).lens) S.made.toNatClampNeg x2)).levels) rfl rfl hm dX1_add_54 (fun H locs hP _ hS => ?_)
      have hP : va_P D vwCl (cw cI cJ a ((((S.set_made (S.made + 1)).set_forms (upd ((S.set_made (S.made + 1)).forms) S.made.toNatClampNeg x1)).set_lens (upd (((S.set_made (S.made + 1)).set_forms (upd ((S.set_made (S.made + 1)).forms) S.made.toNatClampNeg x1)).lens) S.made.toNatClampNeg x2)).set_levels (upd ((((S.set_made (S.made + 1)).set_forms (upd ((S.set_made (S.made + 1)).forms) S.made.toNatClampNeg x1)).set_lens (upd (((S.set_made (S.made + 1)).set_forms (upd ((S.set_made (S.made + 1)).forms) S.made.toNatClampNeg x1)).lens) S.made.toNatClampNeg x2)).levels) S.made.toNatClampNeg 0))) H := by rw [← cw_set_levels]; exact hP
      have hI : KInv ((((S.set_made (S.made + 1)).set_forms (upd ((S.set_made (S.made + 1)).forms) S.made.toNatClampNeg x1)).set_lens (upd (((S.set_made (S.made + 1)).set_forms (upd ((S.set_made (S.made + 1)).forms) S.made.toNatClampNeg x1)).lens) S.made.toNatClampNeg x2)).set_levels (upd ((((S.set_made (S.made + 1)).set_forms (upd ((S.set_made (S.made + 1)).forms) S.made.toNatClampNeg x1)).set_lens (upd (((S.set_made (S.made + 1)).set_forms (upd ((S.set_made (S.made + 1)).forms) S.made.toNatClampNeg x1)).lens) S.made.toNatClampNeg x2)).levels) S.made.toNatClampNeg 0)) := KInv_set_levels hI
      refine lv_iload_n hx hb dX1_add_55 rfl (lv_at hl 2 rfl) ?_
      refine g_SiN (As := [.int x1]) (rest := []) ⟨hx, hb, hml, hown, hts⟩ (c_X2_isBoardForm l x1) ⟨va_cnB 1 hts gX1_add_X2_isBoardForm_n48 rfl rfl rfl hN.2.2.1 (hts (.initialized RX2) wiX1_add_X2) esX2_isBoardForm ⟨Nat.le_of_ble_eq_true rfl, Nat.le_of_ble_eq_true rfl⟩, hts (.static yX2_isBoardForm) wstX1_add_isBoardForm, trivial⟩ hP hS rfl hl.1 rfl (Nat.le_of_ble_eq_true rfl) dX1_add_56 ⟨Nat.zero_le _, Nat.zero_le _⟩ (fun H locs hP hS => ?_)
      refine lv_if_eq (tgt := 66) hx hb dX1_add_59 (by decide) (fun c_59 => ?_) (fun c_59 => ?_)
      · skip
        refine lv_iconst (v := 0) hx hb dX1_add_66 (by decide) ?_
        refine lv_istore (lv' := [(4, .int 0), (3, .int S.made), (0, .ref (a 1)), (1, .int x1), (2, .int x2)]) hx hb dX1_add_67 hl (by decide) rfl (fun ls hl => ?_)
        refine lv_iconst (v := 0) hx hb dX1_add_69 (by decide) ?_
        refine lv_istore (lv' := [(5, .int 0), (4, .int 0), (3, .int S.made), (0, .ref (a 1)), (1, .int x1), (2, .int x2)]) hx hb dX1_add_70 hl (by decide) rfl (fun ls hl => ?_)
        exact w_X1_add_c72 hd C 9 ((((S.set_made (S.made + 1)).set_forms (upd ((S.set_made (S.made + 1)).forms) S.made.toNatClampNeg x1)).set_lens (upd (((S.set_made (S.made + 1)).set_forms (upd ((S.set_made (S.made + 1)).forms) S.made.toNatClampNeg x1)).lens) S.made.toNatClampNeg x2)).set_levels (upd ((((S.set_made (S.made + 1)).set_forms (upd ((S.set_made (S.made + 1)).forms) S.made.toNatClampNeg x1)).set_lens (upd (((S.set_made (S.made + 1)).set_forms (upd ((S.set_made (S.made + 1)).forms) S.made.toNatClampNeg x1)).lens) S.made.toNatClampNeg x2)).levels) S.made.toNatClampNeg 0)) x2 S.made 0 0 hm ((isLength_in c_13).2) (Nat.zero_le _) rfl _ _ _ hP hI hS (lv_sub hl [3, 5, 2, 1, 0] rfl) (by simp only [f_X1_add, if_neg c_6, if_neg c_13, if_pos c_59])
      · skip
        refine lv_iconst (v := (-1)) hx hb dX1_add_62 (by decide) ?_
        refine lv_goto (tgt := 67) hx hb dX1_add_63 (by decide) ?_
        refine lv_istore (lv' := [(4, .int (-1)), (3, .int S.made), (0, .ref (a 1)), (1, .int x1), (2, .int x2)]) hx hb dX1_add_67 hl (by decide) rfl (fun ls hl => ?_)
        refine lv_iconst (v := 0) hx hb dX1_add_69 (by decide) ?_
        refine lv_istore (lv' := [(5, .int 0), (4, .int (-1)), (3, .int S.made), (0, .ref (a 1)), (1, .int x1), (2, .int x2)]) hx hb dX1_add_70 hl (by decide) rfl (fun ls hl => ?_)
        exact w_X1_add_c72 hd C 9 ((((S.set_made (S.made + 1)).set_forms (upd ((S.set_made (S.made + 1)).forms) S.made.toNatClampNeg x1)).set_lens (upd (((S.set_made (S.made + 1)).set_forms (upd ((S.set_made (S.made + 1)).forms) S.made.toNatClampNeg x1)).lens) S.made.toNatClampNeg x2)).set_levels (upd ((((S.set_made (S.made + 1)).set_forms (upd ((S.set_made (S.made + 1)).forms) S.made.toNatClampNeg x1)).set_lens (upd (((S.set_made (S.made + 1)).set_forms (upd ((S.set_made (S.made + 1)).forms) S.made.toNatClampNeg x1)).lens) S.made.toNatClampNeg x2)).levels) S.made.toNatClampNeg 0)) x2 S.made (-1) 0 hm ((isLength_in c_13).2) (Nat.zero_le _) rfl _ _ _ hP hI hS (lv_sub hl [3, 5, 2, 1, 0] rfl) (by simp only [f_X1_add, if_neg c_6, if_neg c_13, if_neg c_59])
    · skip
      refine lv_bipush (v := (-4)) hx hb dX1_add_16 (by decide) ?_
      exact r_Wi hx hb hr hlocks hP hI hS (by simp only [f_X1_add, if_neg c_6, if_pos c_13]) dX1_add_18
abbrev rmX1_addWire : Room := { frames := 2, cells := 0, slots := 0, locals := 45 }
theorem eeX1_addWire : yX1_addWire.cls = RX1 ∧ yX1_addWire.cls ≠ "java/lang/invoke/MethodHandle" ∧ yX1_addWire.cls ≠ "java/lang/invoke/VarHandle" ∧ (parseMethodDescriptor yX1_addWire.desc).map (fun d => d.parameters.length) = some 2 := by decide +kernel
theorem iwX1_addWire : ∀ w ∈ u_ws RX1 TX1 5, w ∈ wsX1_addWire := by decide +kernel
theorem flX1_addWire_18 : Cond.fieldLink RX1 18 "LoomPanel$Values" "levels" "[I" ∈ wsX1_addWire := by decide +kernel
def f_X1_addWire (S : KS) (x1 : Int32) (x2 : Int32) : Int32 × KS := if (f_X1_has ((f_X1_add S x1 0).2) ((f_X1_add S x1 0).1)) = 0 then (((f_X1_add S x1 0).1, (f_X1_add S x1 0).2)) else (((f_X1_add S x1 0).1, ((f_X1_add S x1 0).2).set_levels (upd (((f_X1_add S x1 0).2).levels) ((f_X1_add S x1 0).1).toNatClampNeg x2)))
set_option maxHeartbeats 4000000 in
set_option maxRecDepth 100000 in
theorem c_X1_addWire (l : Launch) (D : va_G) (cI cJ : ClassId) (a : Nat → Nat) (hd : ∀ i j, i < 11 → j < 11 → a i = a j → i = j) (S : KS) (x1 : Int32) (x2 : Int32) : GWi l yX1_addWire wsX1_addWire rmX1_addWire [.ref (a 1), .int x1, .int x2] D (cw_tys cI cJ) (cw cI cJ a) KInv (kA a) S (f_X1_addWire S x1 x2) := by
  refine GB_of (cc := cX1_addWire) (maxL := 4) (ret := (some .int)) (by decide) rfl (Nat.le_of_ble_eq_true rfl) ?_
  intro p e s m below meth c C hP hI ls hl
  obtain ⟨hx, hb, hr, hlocks, hml, hown, hts, hK, hN⟩ := id C
  have hS : va_S (kA a) s.heap s.heap [] := va_S.rf
  have hl : lv_has ls 4 [(0, .ref (a 1)), (1, .int x1), (2, .int x2)] := hl
  refine lv_aload_n hx hb dX1_addWire_0 rfl (lv_at hl 0 rfl) ?_
  refine lv_iload_n hx hb dX1_addWire_1 rfl (lv_at hl 1 rfl) ?_
  refine lv_iconst (v := 0) hx hb dX1_addWire_2 (by decide) ?_
  refine g_Wi (As := [.int x1, .int 0]) (rest := []) ⟨hx, hb, hml, hown, hts⟩ (c_X1_add l D cI cJ a hd S x1 0 ) (cwV 2 hts gX1_addWire_X1_add rfl rfl rfl eeX1_add ⟨Nat.le_of_ble_eq_true rfl, Nat.le_of_ble_eq_true rfl⟩) hK hN hP hI (va_recv hK hP (ci := 1) (q0 := 1) rfl rfl) hS rfl hl.1 rfl (Nat.le_of_ble_eq_true rfl) dX1_addWire_3 ⟨Nat.zero_le _, Nat.zero_le _⟩ (fun H locs hI hP hS => ?_)
  refine lv_istore_n (lv' := [(3, .int ((f_X1_add S x1 0).1)), (0, .ref (a 1)), (1, .int x1), (2, .int x2)]) hx hb dX1_addWire_6 rfl hl (by decide) rfl (fun ls hl => ?_)
  refine lv_aload_n hx hb dX1_addWire_7 rfl (lv_at hl 1 rfl) ?_
  refine lv_iload_n hx hb dX1_addWire_8 rfl (lv_at hl 0 rfl) ?_
  refine g_Ri (As := [.int ((f_X1_add S x1 0).1)]) (rest := []) ⟨hx, hb, hml, hown, hts⟩ (c_X1_has l D cI cJ a hd ((f_X1_add S x1 0).2) ((f_X1_add S x1 0).1) ) (cwV 1 hts gX1_addWire_X1_has rfl rfl rfl eeX1_has ⟨Nat.le_of_ble_eq_true rfl, Nat.le_of_ble_eq_true rfl⟩) hK hN hP hI (va_recv hK hP (ci := 1) (q0 := 1) rfl rfl) hS rfl hl.1 rfl (Nat.le_of_ble_eq_true rfl) dX1_addWire_9 ⟨Nat.zero_le _, Nat.zero_le _⟩ (fun H locs hP hS => ?_)
  refine lv_if_eq (tgt := 22) hx hb dX1_addWire_12 (by decide) (fun c_12 => ?_) (fun c_12 => ?_)
  · skip
    refine lv_iload_n hx hb dX1_addWire_22 rfl (lv_at hl 0 rfl) ?_
    exact r_Wi hx hb hr hlocks hP hI hS (by simp only [f_X1_addWire, if_pos c_12]) dX1_addWire_23
  · skip
    refine lv_aload_n hx hb dX1_addWire_15 rfl (lv_at hl 1 rfl) ?_
    refine va_get (D := D) (ci := 1) (v := .ref (a 5)) (C := RX1) (T := TX1) (N := 5) hx hb hts iwX1_addWire hown hK hP 1 rfl rfl 2 (by decide) (hts (.fieldLink RX1 18 "LoomPanel$Values" "levels" "[I") flX1_addWire_18) (fun _ h9 => h9) rfl dX1_addWire_16 ?_
    refine lv_iload_n hx hb dX1_addWire_19 rfl (lv_at hl 0 rfl) ?_
    refine lv_iload_n hx hb dX1_addWire_20 rfl (lv_at hl 3 rfl) ?_
    refine va_iast hx hb hK hP (cw_D hd) hS 5 0 (f := ((f_X1_add S x1 0).2).levels) rfl rfl (has_in hI c_12) dX1_addWire_21 (fun H locs hP _ hS => ?_)
    have hP : va_P D vwCl (cw cI cJ a (((f_X1_add S x1 0).2).set_levels (upd (((f_X1_add S x1 0).2).levels) ((f_X1_add S x1 0).1).toNatClampNeg x2))) H := by rw [← cw_set_levels]; exact hP
    have hI : KInv (((f_X1_add S x1 0).2).set_levels (upd (((f_X1_add S x1 0).2).levels) ((f_X1_add S x1 0).1).toNatClampNeg x2)) := KInv_set_levels hI
    refine lv_iload_n hx hb dX1_addWire_22 rfl (lv_at hl 0 rfl) ?_
    exact r_Wi hx hb hr hlocks hP hI hS (by simp only [f_X1_addWire, if_neg c_12]) dX1_addWire_23
abbrev rmX1_addSingle : Room := { frames := 2, cells := 0, slots := 0, locals := 46 }
theorem eeX1_addSingle : yX1_addSingle.cls = RX1 ∧ yX1_addSingle.cls ≠ "java/lang/invoke/MethodHandle" ∧ yX1_addSingle.cls ≠ "java/lang/invoke/VarHandle" ∧ (parseMethodDescriptor yX1_addSingle.desc).map (fun d => d.parameters.length) = some 2 := by decide +kernel
def f_X1_addSingle (S : KS) (x1 : Int32) (x2 : Int64) : Int32 × KS := ((f_X1_add S x1 1).1, f_X1_put ((f_X1_add S x1 1).2) ((f_X1_add S x1 1).1) 0 x2)
set_option maxHeartbeats 4000000 in
set_option maxRecDepth 100000 in
theorem c_X1_addSingle (l : Launch) (D : va_G) (cI cJ : ClassId) (a : Nat → Nat) (hd : ∀ i j, i < 11 → j < 11 → a i = a j → i = j) (S : KS) (x1 : Int32) (x2 : Int64) : GWi l yX1_addSingle wsX1_addSingle rmX1_addSingle [.ref (a 1), .int x1, .long x2] D (cw_tys cI cJ) (cw cI cJ a) KInv (kA a) S (f_X1_addSingle S x1 x2) := by
  refine GB_of (cc := cX1_addSingle) (maxL := 5) (ret := (some .int)) (by decide) rfl (Nat.le_of_ble_eq_true rfl) ?_
  intro p e s m below meth c C hP hI ls hl
  obtain ⟨hx, hb, hr, hlocks, hml, hown, hts, hK, hN⟩ := id C
  have hS : va_S (kA a) s.heap s.heap [] := va_S.rf
  have hl : lv_has ls 5 [(0, .ref (a 1)), (1, .int x1), (2, .long x2)] := hl
  refine lv_aload_n hx hb dX1_addSingle_0 rfl (lv_at hl 0 rfl) ?_
  refine lv_iload_n hx hb dX1_addSingle_1 rfl (lv_at hl 1 rfl) ?_
  refine lv_iconst (v := 1) hx hb dX1_addSingle_2 (by decide) ?_
  refine g_Wi (As := [.int x1, .int 1]) (rest := []) ⟨hx, hb, hml, hown, hts⟩ (c_X1_add l D cI cJ a hd S x1 1 ) (cwV 2 hts gX1_addSingle_X1_add rfl rfl rfl eeX1_add ⟨Nat.le_of_ble_eq_true rfl, Nat.le_of_ble_eq_true rfl⟩) hK hN hP hI (va_recv hK hP (ci := 1) (q0 := 1) rfl rfl) hS rfl hl.1 rfl (Nat.le_of_ble_eq_true rfl) dX1_addSingle_3 ⟨Nat.zero_le _, Nat.zero_le _⟩ (fun H locs hI hP hS => ?_)
  refine lv_istore (lv' := [(4, .int ((f_X1_add S x1 1).1)), (0, .ref (a 1)), (1, .int x1), (2, .long x2)]) hx hb dX1_addSingle_6 hl (by decide) rfl (fun ls hl => ?_)
  refine lv_aload_n hx hb dX1_addSingle_8 rfl (lv_at hl 1 rfl) ?_
  refine lv_iload hx hb dX1_addSingle_9 (lv_at hl 0 rfl) ?_
  refine lv_iconst (v := 0) hx hb dX1_addSingle_11 (by decide) ?_
  refine lv_lload_n hx hb dX1_addSingle_12 rfl (lv_at hl 3 rfl) ?_
  refine g_Wv (As := [.int ((f_X1_add S x1 1).1), .int 0, .long x2]) (rest := []) ⟨hx, hb, hml, hown, hts⟩ (c_X1_put l D cI cJ a hd ((f_X1_add S x1 1).2) ((f_X1_add S x1 1).1) 0 x2 ) (cwV 3 hts gX1_addSingle_X1_put rfl rfl rfl eeX1_put ⟨Nat.le_of_ble_eq_true rfl, Nat.le_of_ble_eq_true rfl⟩) hK hN hP hI (va_recv hK hP (ci := 1) (q0 := 1) rfl rfl) hS rfl hl.1 rfl (Nat.le_of_ble_eq_true rfl) dX1_addSingle_13 ⟨Nat.zero_le _, Nat.zero_le _⟩ (fun H locs hI hP hS => ?_)
  refine lv_iload hx hb dX1_addSingle_16 (lv_at hl 0 rfl) ?_
  exact r_Wi hx hb hr hlocks hP hI hS (by simp only [f_X1_addSingle]) dX1_addSingle_18
theorem lengthOf_le {S : KS} {x : Int32} (hI : KInv S) : 0 ≤ (f_X1_lengthOf S x).toInt ∧ (f_X1_lengthOf S x).toInt ≤ 8 := by
  unfold f_X1_lengthOf
  by_cases h : f_X1_has S x = 0
  · rw [if_pos h]; decide
  · rw [if_neg h]; exact hI.2.1 _
abbrev rmX1_copyCells : Room := { frames := 2, cells := 0, slots := 0, locals := 46 }
theorem eeX1_copyCells : yX1_copyCells.cls = RX1 ∧ yX1_copyCells.cls ≠ "java/lang/invoke/MethodHandle" ∧ yX1_copyCells.cls ≠ "java/lang/invoke/VarHandle" ∧ (parseMethodDescriptor yX1_copyCells.desc).map (fun d => d.parameters.length) = some 3 := by decide +kernel
def f_X1_copyCells_c10 : Nat → KS → Int32 → Int32 → Int32 → Int32 → Nat → KS
  | 0, S, _, _, _, _, _ => S
  | n + 1, S, x1, x2, x3, x4, j => if x4 ≤ (nI j) then (S) else (f_X1_copyCells_c10 n (f_X1_put S x2 (x3 + (nI j)) (f_X1_cellOf S x1 (nI j))) x1 x2 x3 x4 (j + 1))
set_option maxHeartbeats 4000000 in
set_option maxRecDepth 100000 in
theorem w_X1_copyCells_c10 {l : Launch} {D : va_G} {cI cJ : ClassId} {a : Nat → Nat} (hd : ∀ i j, i < 11 → j < 11 → a i = a j → i = j) {p : Program} {e : Env} {s : State} {m : MethodId} {args : Array Value} {below : List Frame} {meth : Method} {c : Code} (C : GC p s m meth c cX1_copyCells none 6 RX1 wsX1_copyCells args D (cw_tys cI cJ)) {v : KS} : ∀ (n : Nat) (S : KS) (x1 : Int32) (x2 : Int32) (x3 : Int32) (x4 : Int32) (j : Nat) (hx4 : x4.toInt ≤ 8) (hj : j ≤ 8) (hn : j + n = 9) (H : Heap) (locs : List Loc) (ls : Array Slot), va_P D vwCl (cw cI cJ a S) H → KInv S → va_S (kA a) s.heap H locs → lv_has ls 6 [(0, .ref (a 1)), (1, .int x1), (2, .int x2), (3, .int x3), (4, .int x4), (5, .int (nI j))] → v = f_X1_copyCells_c10 n S x1 x2 x3 x4 j → W p l e rmX1_copyCells s m args below meth c H locs 0 0 (MQ below (va_Qv (fun u => v = u) (GE D (cw cI cJ a) KInv) (kA a)) args s 0 0 (kA a)) (F0 m 10 ls []) := by
  obtain ⟨hx, hb, hr, hlocks, hml, hown, hts, hK, hN⟩ := id C
  intro n
  induction n with
  | zero =>
    intro S x1 x2 x3 x4 j hx4 hj hn H locs ls hP hI hS hl hq
    exact absurd hn (by omega)
  | succ n ih =>
    intro S x1 x2 x3 x4 j hx4 hj hn H locs ls hP hI hS hl hq
    refine lv_iload hx hb dX1_copyCells_10 (lv_at hl 5 rfl) ?_
    refine lv_iload hx hb dX1_copyCells_12 (lv_at hl 4 rfl) ?_
    refine lv_icmp_ge (tgt := 39) hx hb dX1_copyCells_14 (by decide) (fun c_14 => ?_) (fun c_14 => ?_)
    · skip
      exact r_Wv hx hb hr hlocks hP hI hS (hq.trans (by simp only [f_X1_copyCells_c10, if_pos c_14])) dX1_copyCells_39
    · skip
      refine lv_aload_n hx hb dX1_copyCells_17 rfl (lv_at hl 0 rfl) ?_
      refine lv_iload_n hx hb dX1_copyCells_18 rfl (lv_at hl 2 rfl) ?_
      refine lv_iload_n hx hb dX1_copyCells_19 rfl (lv_at hl 3 rfl) ?_
      refine lv_iload hx hb dX1_copyCells_20 (lv_at hl 5 rfl) ?_
      refine lv_iadd hx hb dX1_copyCells_22 ?_
      refine lv_aload_n hx hb dX1_copyCells_23 rfl (lv_at hl 0 rfl) ?_
      refine lv_iload_n hx hb dX1_copyCells_24 rfl (lv_at hl 1 rfl) ?_
      refine lv_iload hx hb dX1_copyCells_25 (lv_at hl 5 rfl) ?_
      refine g_Rl (As := [.int x1, .int (nI j)]) (rest := [.int (x3 + (nI j)), .int x2, .ref (a 1)]) ⟨hx, hb, hml, hown, hts⟩ (c_X1_cellOf l D cI cJ a hd S x1 (nI j) ) (cwV 2 hts gX1_copyCells_X1_cellOf rfl rfl rfl eeX1_cellOf ⟨Nat.le_of_ble_eq_true rfl, Nat.le_of_ble_eq_true rfl⟩) hK hN hP hI (va_recv hK hP (ci := 1) (q0 := 1) rfl rfl) hS rfl hl.1 rfl (Nat.le_of_ble_eq_true rfl) dX1_copyCells_27 ⟨Nat.zero_le _, Nat.zero_le _⟩ (fun H locs hP hS => ?_)
      refine g_Wv (As := [.int x2, .int (x3 + (nI j)), .long (f_X1_cellOf S x1 (nI j))]) (rest := []) ⟨hx, hb, hml, hown, hts⟩ (c_X1_put l D cI cJ a hd S x2 (x3 + (nI j)) (f_X1_cellOf S x1 (nI j)) ) (cwV 3 hts gX1_copyCells_X1_put rfl rfl rfl eeX1_put ⟨Nat.le_of_ble_eq_true rfl, Nat.le_of_ble_eq_true rfl⟩) hK hN hP hI (va_recv hK hP (ci := 1) (q0 := 1) rfl rfl) hS rfl hl.1 rfl (Nat.le_of_ble_eq_true rfl) dX1_copyCells_30 ⟨Nat.zero_le _, Nat.zero_le _⟩ (fun H locs hI hP hS => ?_)
      refine lv_iinc (v := nI (j + 1)) (lv' := [(5, .int (nI (j + 1))), (0, .ref (a 1)), (1, .int x1), (2, .int x2), (3, .int x3), (4, .int x4)]) hx hb dX1_copyCells_33 hl (k := 5) rfl (nI_1 _) (by decide) rfl (fun ls hl => ?_)
      refine lv_goto (tgt := 10) hx hb dX1_copyCells_36 (by decide) ?_
      exact ih (f_X1_put S x2 (x3 + (nI j)) (f_X1_cellOf S x1 (nI j))) x1 x2 x3 x4 (j + 1) hx4 (jl8 c_14 hx4 hj) (by omega) _ _ _ hP hI hS (lv_sub hl [1, 2, 3, 4, 5, 0] rfl) (hq.trans (by simp only [f_X1_copyCells_c10, if_neg c_14]))
def f_X1_copyCells (S : KS) (x1 : Int32) (x2 : Int32) (x3 : Int32) : KS := f_X1_copyCells_c10 9 S x1 x2 x3 (f_X1_lengthOf S x1) 0
set_option maxHeartbeats 4000000 in
set_option maxRecDepth 100000 in
theorem c_X1_copyCells (l : Launch) (D : va_G) (cI cJ : ClassId) (a : Nat → Nat) (hd : ∀ i j, i < 11 → j < 11 → a i = a j → i = j) (S : KS) (x1 : Int32) (x2 : Int32) (x3 : Int32) : GWv l yX1_copyCells wsX1_copyCells rmX1_copyCells [.ref (a 1), .int x1, .int x2, .int x3] D (cw_tys cI cJ) (cw cI cJ a) KInv (kA a) S (f_X1_copyCells S x1 x2 x3) := by
  refine GB_of (cc := cX1_copyCells) (maxL := 6) (ret := none) (by decide) rfl (Nat.le_of_ble_eq_true rfl) ?_
  intro p e s m below meth c C hP hI ls hl
  obtain ⟨hx, hb, hr, hlocks, hml, hown, hts, hK, hN⟩ := id C
  have hS : va_S (kA a) s.heap s.heap [] := va_S.rf
  have hl : lv_has ls 6 [(0, .ref (a 1)), (1, .int x1), (2, .int x2), (3, .int x3)] := hl
  refine lv_aload_n hx hb dX1_copyCells_0 rfl (lv_at hl 0 rfl) ?_
  refine lv_iload_n hx hb dX1_copyCells_1 rfl (lv_at hl 1 rfl) ?_
  refine g_Ri (As := [.int x1]) (rest := []) ⟨hx, hb, hml, hown, hts⟩ (c_X1_lengthOf l D cI cJ a hd S x1 ) (cwV 1 hts gX1_copyCells_X1_lengthOf rfl rfl rfl eeX1_lengthOf ⟨Nat.le_of_ble_eq_true rfl, Nat.le_of_ble_eq_true rfl⟩) hK hN hP hI (va_recv hK hP (ci := 1) (q0 := 1) rfl rfl) hS rfl hl.1 rfl (Nat.le_of_ble_eq_true rfl) dX1_copyCells_2 ⟨Nat.zero_le _, Nat.zero_le _⟩ (fun H locs hP hS => ?_)
  refine lv_istore (lv' := [(4, .int (f_X1_lengthOf S x1)), (0, .ref (a 1)), (1, .int x1), (2, .int x2), (3, .int x3)]) hx hb dX1_copyCells_5 hl (by decide) rfl (fun ls hl => ?_)
  refine lv_iconst (v := 0) hx hb dX1_copyCells_7 (by decide) ?_
  refine lv_istore (lv' := [(5, .int 0), (4, .int (f_X1_lengthOf S x1)), (0, .ref (a 1)), (1, .int x1), (2, .int x2), (3, .int x3)]) hx hb dX1_copyCells_8 hl (by decide) rfl (fun ls hl => ?_)
  exact w_X1_copyCells_c10 hd C 9 S x1 x2 x3 (f_X1_lengthOf S x1) 0 ((lengthOf_le hI).2) (Nat.zero_le _) rfl _ _ _ hP hI hS (lv_sub hl [2, 3, 4, 5, 1, 0] rfl) (by simp only [f_X1_copyCells])
abbrev rmX1_addCopy : Room := { frames := 3, cells := 0, slots := 0, locals := 71 }
theorem eeX1_addCopy : yX1_addCopy.cls = RX1 ∧ yX1_addCopy.cls ≠ "java/lang/invoke/MethodHandle" ∧ yX1_addCopy.cls ≠ "java/lang/invoke/VarHandle" ∧ (parseMethodDescriptor yX1_addCopy.desc).map (fun d => d.parameters.length) = some 2 := by decide +kernel
def f_X1_addCopy (S : KS) (x1 : Int32) (x2 : Int32) : Int32 × KS := ((f_X1_add S x2 (f_X1_lengthOf S x1)).1, f_X1_copyCells ((f_X1_add S x2 (f_X1_lengthOf S x1)).2) x1 ((f_X1_add S x2 (f_X1_lengthOf S x1)).1) 0)
set_option maxHeartbeats 4000000 in
set_option maxRecDepth 100000 in
theorem c_X1_addCopy (l : Launch) (D : va_G) (cI cJ : ClassId) (a : Nat → Nat) (hd : ∀ i j, i < 11 → j < 11 → a i = a j → i = j) (S : KS) (x1 : Int32) (x2 : Int32) : GWi l yX1_addCopy wsX1_addCopy rmX1_addCopy [.ref (a 1), .int x1, .int x2] D (cw_tys cI cJ) (cw cI cJ a) KInv (kA a) S (f_X1_addCopy S x1 x2) := by
  refine GB_of (cc := cX1_addCopy) (maxL := 4) (ret := (some .int)) (by decide) rfl (Nat.le_of_ble_eq_true rfl) ?_
  intro p e s m below meth c C hP hI ls hl
  obtain ⟨hx, hb, hr, hlocks, hml, hown, hts, hK, hN⟩ := id C
  have hS : va_S (kA a) s.heap s.heap [] := va_S.rf
  have hl : lv_has ls 4 [(0, .ref (a 1)), (1, .int x1), (2, .int x2)] := hl
  refine lv_aload_n hx hb dX1_addCopy_0 rfl (lv_at hl 0 rfl) ?_
  refine lv_iload_n hx hb dX1_addCopy_1 rfl (lv_at hl 2 rfl) ?_
  refine lv_aload_n hx hb dX1_addCopy_2 rfl (lv_at hl 0 rfl) ?_
  refine lv_iload_n hx hb dX1_addCopy_3 rfl (lv_at hl 1 rfl) ?_
  refine g_Ri (As := [.int x1]) (rest := [.int x2, .ref (a 1)]) ⟨hx, hb, hml, hown, hts⟩ (c_X1_lengthOf l D cI cJ a hd S x1 ) (cwV 1 hts gX1_addCopy_X1_lengthOf rfl rfl rfl eeX1_lengthOf ⟨Nat.le_of_ble_eq_true rfl, Nat.le_of_ble_eq_true rfl⟩) hK hN hP hI (va_recv hK hP (ci := 1) (q0 := 1) rfl rfl) hS rfl hl.1 rfl (Nat.le_of_ble_eq_true rfl) dX1_addCopy_4 ⟨Nat.zero_le _, Nat.zero_le _⟩ (fun H locs hP hS => ?_)
  refine g_Wi (As := [.int x2, .int (f_X1_lengthOf S x1)]) (rest := []) ⟨hx, hb, hml, hown, hts⟩ (c_X1_add l D cI cJ a hd S x2 (f_X1_lengthOf S x1) ) (cwV 2 hts gX1_addCopy_X1_add rfl rfl rfl eeX1_add ⟨Nat.le_of_ble_eq_true rfl, Nat.le_of_ble_eq_true rfl⟩) hK hN hP hI (va_recv hK hP (ci := 1) (q0 := 1) rfl rfl) hS rfl hl.1 rfl (Nat.le_of_ble_eq_true rfl) dX1_addCopy_7 ⟨Nat.zero_le _, Nat.zero_le _⟩ (fun H locs hI hP hS => ?_)
  refine lv_istore_n (lv' := [(3, .int ((f_X1_add S x2 (f_X1_lengthOf S x1)).1)), (0, .ref (a 1)), (1, .int x1), (2, .int x2)]) hx hb dX1_addCopy_10 rfl hl (by decide) rfl (fun ls hl => ?_)
  refine lv_aload_n hx hb dX1_addCopy_11 rfl (lv_at hl 1 rfl) ?_
  refine lv_iload_n hx hb dX1_addCopy_12 rfl (lv_at hl 2 rfl) ?_
  refine lv_iload_n hx hb dX1_addCopy_13 rfl (lv_at hl 0 rfl) ?_
  refine lv_iconst (v := 0) hx hb dX1_addCopy_14 (by decide) ?_
  refine g_Wv (As := [.int x1, .int ((f_X1_add S x2 (f_X1_lengthOf S x1)).1), .int 0]) (rest := []) ⟨hx, hb, hml, hown, hts⟩ (c_X1_copyCells l D cI cJ a hd ((f_X1_add S x2 (f_X1_lengthOf S x1)).2) x1 ((f_X1_add S x2 (f_X1_lengthOf S x1)).1) 0 ) (cwV 3 hts gX1_addCopy_X1_copyCells rfl rfl rfl eeX1_copyCells ⟨Nat.le_of_ble_eq_true rfl, Nat.le_of_ble_eq_true rfl⟩) hK hN hP hI (va_recv hK hP (ci := 1) (q0 := 1) rfl rfl) hS rfl hl.1 rfl (Nat.le_of_ble_eq_true rfl) dX1_addCopy_15 ⟨Nat.zero_le _, Nat.zero_le _⟩ (fun H locs hI hP hS => ?_)
  refine lv_iload_n hx hb dX1_addCopy_18 rfl (lv_at hl 0 rfl) ?_
  exact r_Wi hx hb hr hlocks hP hI hS (by simp only [f_X1_addCopy]) dX1_addCopy_19
abbrev rmX1_forgetAll : Room := { frames := 0, cells := 0, slots := 0, locals := 0 }
theorem eeX1_forgetAll : yX1_forgetAll.cls = RX1 ∧ yX1_forgetAll.cls ≠ "java/lang/invoke/MethodHandle" ∧ yX1_forgetAll.cls ≠ "java/lang/invoke/VarHandle" ∧ (parseMethodDescriptor yX1_forgetAll.desc).map (fun d => d.parameters.length) = some 0 := by decide +kernel
theorem iwX1_forgetAll : ∀ w ∈ u_ws RX1 TX1 5, w ∈ wsX1_forgetAll := by decide +kernel
theorem flX1_forgetAll_25 : Cond.fieldLink RX1 25 "LoomPanel$Values" "made" "I" ∈ wsX1_forgetAll := by decide +kernel
def f_X1_forgetAll (S : KS)  : Int32 × KS := (S.made, S.set_made 0)
set_option maxHeartbeats 4000000 in
set_option maxRecDepth 100000 in
theorem c_X1_forgetAll (l : Launch) (D : va_G) (cI cJ : ClassId) (a : Nat → Nat) (hd : ∀ i j, i < 11 → j < 11 → a i = a j → i = j) (S : KS)  : GWi l yX1_forgetAll wsX1_forgetAll rmX1_forgetAll [.ref (a 1)] D (cw_tys cI cJ) (cw cI cJ a) KInv (kA a) S (f_X1_forgetAll S ) := by
  refine GB_of (cc := cX1_forgetAll) (maxL := 2) (ret := (some .int)) (by decide) rfl (Nat.le_of_ble_eq_true rfl) ?_
  intro p e s m below meth c C hP hI ls hl
  obtain ⟨hx, hb, hr, hlocks, hml, hown, hts, hK, hN⟩ := id C
  have hS : va_S (kA a) s.heap s.heap [] := va_S.rf
  have hl : lv_has ls 2 [(0, .ref (a 1))] := hl
  refine lv_aload_n hx hb dX1_forgetAll_0 rfl (lv_at hl 0 rfl) ?_
  refine va_get (D := D) (ci := 1) (v := .int S.made) (C := RX1) (T := TX1) (N := 5) hx hb hts iwX1_forgetAll hown hK hP 1 rfl rfl 4 (by decide) (hts (.fieldLink RX1 25 "LoomPanel$Values" "made" "I") flX1_forgetAll_25) (fun _ h9 => h9) rfl dX1_forgetAll_1 ?_
  refine lv_istore_n (lv' := [(1, .int S.made), (0, .ref (a 1))]) hx hb dX1_forgetAll_4 rfl hl (by decide) rfl (fun ls hl => ?_)
  refine lv_aload_n hx hb dX1_forgetAll_5 rfl (lv_at hl 1 rfl) ?_
  refine lv_iconst (v := 0) hx hb dX1_forgetAll_6 (by decide) ?_
  refine va_put (D := D) (ci := 1) (v := .int 0) (ty := .int) (C := RX1) (T := TX1) (N := 5) hx hb hts iwX1_forgetAll tyX1 tyX1_ok nmX1 hown hK hP (cw_D hd) hS 1 rfl rfl 4 (by decide) (hts (.fieldLink RX1 25 "LoomPanel$Values" "made" "I") flX1_forgetAll_25) (fun _ h9 => h9) rfl (by decide +kernel) rfl rfl (Nat.le_of_ble_eq_true rfl) dX1_forgetAll_7 (fun H locs hP _ hS => ?_)
  have hP : va_P D vwCl (cw cI cJ a (S.set_made 0)) H := by rw [← cw_set_made]; exact hP
  have hI : KInv (S.set_made 0) := made_set hI (by decide) (by decide)
  refine lv_iload_n hx hb dX1_forgetAll_10 rfl (lv_at hl 0 rfl) ?_
  exact r_Wi hx hb hr hlocks hP hI hS (by simp only [f_X1_forgetAll]) dX1_forgetAll_11
