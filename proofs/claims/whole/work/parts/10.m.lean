abbrev rmX3_isIn : Room := { frames := 0, cells := 0, slots := 0, locals := 0 }
theorem esX3_isIn : yX3_isIn.cls ≠ "java/lang/invoke/MethodHandle" ∧ yX3_isIn.cls ≠ "java/lang/invoke/VarHandle" ∧ (parseMethodDescriptor yX3_isIn.desc).map (fun d => d.parameters.length) = some 3 := by decide +kernel
def f_X3_isIn (x0 : Int32) (x1 : Int32) (x2 : Int32) : Int32 := if x0 < x1 then (0) else (if x2 < x0 then (0) else (1))
set_option maxHeartbeats 4000000 in
set_option maxRecDepth 100000 in
theorem c_X3_isIn (l : Launch) (x0 : Int32) (x1 : Int32) (x2 : Int32) : GSi l yX3_isIn wsX3_isIn rmX3_isIn [.int x0, .int x1, .int x2] (f_X3_isIn x0 x1 x2) := by
  refine GS_of (cc := cX3_isIn) (maxL := 3) (ret := (some .boolean)) (by decide) rfl (Nat.le_of_ble_eq_true rfl) ?_
  intro p e s m below meth c C ls hl
  obtain ⟨hx, hb, hr, hlocks, hml, hown, hts⟩ := id C
  have hl : lv_has ls 3 [(0, .int x0), (1, .int x1), (2, .int x2)] := hl
  refine lv_iload_n hx hb dX3_isIn_0 rfl (lv_at hl 0 rfl) ?_
  refine lv_iload_n hx hb dX3_isIn_1 rfl (lv_at hl 1 rfl) ?_
  refine lv_icmp_lt (tgt := 14) hx hb dX3_isIn_2 (by decide) (fun c_2 => ?_) (fun c_2 => ?_)
  · skip
    refine lv_iconst (v := 0) hx hb dX3_isIn_14 (by decide) ?_
    exact r_Sz hx hb hr hlocks rfl (by simp only [f_X3_isIn, if_pos c_2]) dX3_isIn_15
  · skip
    refine lv_iload_n hx hb dX3_isIn_5 rfl (lv_at hl 0 rfl) ?_
    refine lv_iload_n hx hb dX3_isIn_6 rfl (lv_at hl 2 rfl) ?_
    refine lv_icmp_gt (tgt := 14) hx hb dX3_isIn_7 (by decide) (fun c_7 => ?_) (fun c_7 => ?_)
    · skip
      refine lv_iconst (v := 0) hx hb dX3_isIn_14 (by decide) ?_
      exact r_Sz hx hb hr hlocks rfl (by simp only [f_X3_isIn, if_neg c_2, if_pos c_7]) dX3_isIn_15
    · skip
      refine lv_iconst (v := 1) hx hb dX3_isIn_10 (by decide) ?_
      refine lv_goto (tgt := 15) hx hb dX3_isIn_11 (by decide) ?_
      exact r_Sz hx hb hr hlocks rfl (by simp only [f_X3_isIn, if_neg c_2, if_neg c_7]) dX3_isIn_15
theorem isIn_in {v lo hi : Int32} (h : ¬ f_X3_isIn v lo hi = 0) : lo.toInt ≤ v.toInt ∧ v.toInt ≤ hi.toInt := by
  unfold f_X3_isIn at h
  obtain ⟨h1, h⟩ := ne_ite h
  obtain ⟨h2, h⟩ := ne_ite h
  exact ⟨nlt h1, nlt h2⟩
theorem isIn_01 (v lo hi : Int32) : f_X3_isIn v lo hi = 0 ∨ f_X3_isIn v lo hi = 1 := by
  unfold f_X3_isIn
  by_cases h1 : v < lo
  · rw [if_pos h1]; exact Or.inl rfl
  · rw [if_neg h1]
    by_cases h2 : hi < v
    · rw [if_pos h2]; exact Or.inl rfl
    · rw [if_neg h2]; exact Or.inr rfl
theorem isIn8 {x : Int32} (h : ¬ f_X3_isIn x 0 8 = 0) : 0 ≤ x.toInt ∧ x.toInt ≤ 8 := isIn_in h
theorem isIn5 {x : Int32} (h : ¬ f_X3_isIn x 0 5 = 0) : vp_in x 6 := in2 (isIn_in h).1 (by
  have := (isIn_in h).2
  have : (5 : Int32).toInt = 5 := by decide
  omega)
theorem sub1 {x : Int32} (h0 : 0 ≤ x.toInt) (h1 : x.toInt ≤ 1000) : (x - 1).toInt = x.toInt - 1 := by
  obtain ⟨X, h2, rfl⟩ := nI_of (x := x) (by rw [Int32.lt_iff_toInt_lt]; have : (0 : Int32).toInt = 0 := by decide
                                            omega)
  cases X with
  | zero => decide
  | succ X =>
    rw [nI_pred, nI_toInt (by omega), nI_toInt (by omega)]
    omega
theorem place_in {S : MS} {x : Int32} {k : Nat} (hI : MInv S) (h : ¬ f_X3_isIn x 0 (S.sizes k - 1) = 0) : vp_in x 8 := by
  have h1 := isIn_in h
  have h2 := hI.2.1 k
  rw [sub1 h2.1 (by omega)] at h1
  exact in2 h1.1 (by omega)
theorem in_lt {x : Int32} (h : vp_in x 60) : x.toInt < 60 := (vp_in_iff.mp h).2
theorem nv_in {x : Int32} (h : NV x) (c : ¬ x = -1) : vp_in x 60 := by
  refine in2 ?_ h.2
  have h1 := h.1
  have : ¬ x.toInt = -1 := fun e => c (Int32.toInt_inj.mp (e.trans (by decide)))
  omega
theorem in_nv {x : Int32} (h : vp_in x 60) : NV x := by
  have := vp_in_iff.mp h
  exact ⟨by omega, by omega⟩
abbrev rmX3_isValue : Room := { frames := 1, cells := 0, slots := 0, locals := 22 }
theorem eeX3_isValue : yX3_isValue.cls = RX3 ∧ yX3_isValue.cls ≠ "java/lang/invoke/MethodHandle" ∧ yX3_isValue.cls ≠ "java/lang/invoke/VarHandle" ∧ (parseMethodDescriptor yX3_isValue.desc).map (fun d => d.parameters.length) = some 1 := by decide +kernel
theorem iwX3_isValue : ∀ w ∈ u_ws RX3 TX3 13, w ∈ wsX3_isValue := by decide +kernel
theorem flX3_isValue_42 : Cond.fieldLink RX3 42 "LoomPanelModel" "values" "I" ∈ wsX3_isValue := by decide +kernel
def f_X3_isValue (S : MS) (x1 : Int32) : Int32 := f_X3_isIn x1 0 (S.vals - 1)
set_option maxHeartbeats 4000000 in
set_option maxRecDepth 100000 in
theorem c_X3_isValue (l : Launch) (D : va_G) (cI cJ : ClassId) (a : Nat → Nat) (hd : ∀ i j, i < 10 → j < 10 → a i = a j → i = j) (S : MS) (x1 : Int32) : GRi l yX3_isValue wsX3_isValue rmX3_isValue [.ref (a 0), .int x1] D (mw_tys cI cJ) (mw cI cJ a) MInv (mA a) S (f_X3_isValue S x1) := by
  refine GB_of (cc := cX3_isValue) (maxL := 2) (ret := (some .boolean)) (by decide) rfl (Nat.le_of_ble_eq_true rfl) ?_
  intro p e s m below meth c C hP hI ls hl
  obtain ⟨hx, hb, hr, hlocks, hml, hown, hts, hK, hN⟩ := id C
  have hS : va_S (mA a) s.heap s.heap [] := va_S.rf
  have hl : lv_has ls 2 [(0, .ref (a 0)), (1, .int x1)] := hl
  refine lv_iload_n hx hb dX3_isValue_0 rfl (lv_at hl 1 rfl) ?_
  refine lv_iconst (v := 0) hx hb dX3_isValue_1 (by decide) ?_
  refine lv_aload_n hx hb dX3_isValue_2 rfl (lv_at hl 0 rfl) ?_
  refine va_get (D := D) (ci := 3) (v := .int S.vals) (C := RX3) (T := TX3) (N := 13) hx hb hts iwX3_isValue hown hK hP 0 rfl rfl 0 (by decide) (hts (.fieldLink RX3 42 "LoomPanelModel" "values" "I") flX3_isValue_42) (fun _ h9 => h9) rfl dX3_isValue_3 ?_
  refine lv_iconst (v := 1) hx hb dX3_isValue_6 (by decide) ?_
  refine lv_isub hx hb dX3_isValue_7 ?_
  refine g_Si (As := [.int x1, .int 0, .int (S.vals - 1)]) (rest := []) ⟨hx, hb, hml, hown, hts⟩ (c_X3_isIn l x1 0 (S.vals - 1)) (va_cwS 3 hts gX3_isValue_X3_isIn rfl rfl rfl esX3_isIn ⟨Nat.le_of_ble_eq_true rfl, Nat.le_of_ble_eq_true rfl⟩) hP hS rfl hl.1 rfl (Nat.le_of_ble_eq_true rfl) dX3_isValue_8 ⟨Nat.zero_le _, Nat.zero_le _⟩ (fun H locs hP hS => ?_)
  exact r_Rz hx hb hr hlocks hP hI hS (b_nar (isIn_01 _ _ _)) (by simp only [f_X3_isValue]) dX3_isValue_11
abbrev rmX3_mayBe : Room := { frames := 1, cells := 0, slots := 0, locals := 22 }
theorem eeX3_mayBe : yX3_mayBe.cls = RX3 ∧ yX3_mayBe.cls ≠ "java/lang/invoke/MethodHandle" ∧ yX3_mayBe.cls ≠ "java/lang/invoke/VarHandle" ∧ (parseMethodDescriptor yX3_mayBe.desc).map (fun d => d.parameters.length) = some 1 := by decide +kernel
theorem iwX3_mayBe : ∀ w ∈ u_ws RX3 TX3 13, w ∈ wsX3_mayBe := by decide +kernel
theorem flX3_mayBe_42 : Cond.fieldLink RX3 42 "LoomPanelModel" "values" "I" ∈ wsX3_mayBe := by decide +kernel
def f_X3_mayBe (S : MS) (x1 : Int32) : Int32 := f_X3_isIn x1 (-1) (S.vals - 1)
set_option maxHeartbeats 4000000 in
set_option maxRecDepth 100000 in
theorem c_X3_mayBe (l : Launch) (D : va_G) (cI cJ : ClassId) (a : Nat → Nat) (hd : ∀ i j, i < 10 → j < 10 → a i = a j → i = j) (S : MS) (x1 : Int32) : GRi l yX3_mayBe wsX3_mayBe rmX3_mayBe [.ref (a 0), .int x1] D (mw_tys cI cJ) (mw cI cJ a) MInv (mA a) S (f_X3_mayBe S x1) := by
  refine GB_of (cc := cX3_mayBe) (maxL := 2) (ret := (some .boolean)) (by decide) rfl (Nat.le_of_ble_eq_true rfl) ?_
  intro p e s m below meth c C hP hI ls hl
  obtain ⟨hx, hb, hr, hlocks, hml, hown, hts, hK, hN⟩ := id C
  have hS : va_S (mA a) s.heap s.heap [] := va_S.rf
  have hl : lv_has ls 2 [(0, .ref (a 0)), (1, .int x1)] := hl
  refine lv_iload_n hx hb dX3_mayBe_0 rfl (lv_at hl 1 rfl) ?_
  refine lv_iconst (v := (-1)) hx hb dX3_mayBe_1 (by decide) ?_
  refine lv_aload_n hx hb dX3_mayBe_2 rfl (lv_at hl 0 rfl) ?_
  refine va_get (D := D) (ci := 3) (v := .int S.vals) (C := RX3) (T := TX3) (N := 13) hx hb hts iwX3_mayBe hown hK hP 0 rfl rfl 0 (by decide) (hts (.fieldLink RX3 42 "LoomPanelModel" "values" "I") flX3_mayBe_42) (fun _ h9 => h9) rfl dX3_mayBe_3 ?_
  refine lv_iconst (v := 1) hx hb dX3_mayBe_6 (by decide) ?_
  refine lv_isub hx hb dX3_mayBe_7 ?_
  refine g_Si (As := [.int x1, .int (-1), .int (S.vals - 1)]) (rest := []) ⟨hx, hb, hml, hown, hts⟩ (c_X3_isIn l x1 (-1) (S.vals - 1)) (va_cwS 3 hts gX3_mayBe_X3_isIn rfl rfl rfl esX3_isIn ⟨Nat.le_of_ble_eq_true rfl, Nat.le_of_ble_eq_true rfl⟩) hP hS rfl hl.1 rfl (Nat.le_of_ble_eq_true rfl) dX3_mayBe_8 ⟨Nat.zero_le _, Nat.zero_le _⟩ (fun H locs hP hS => ?_)
  exact r_Rz hx hb hr hlocks hP hI hS (b_nar (isIn_01 _ _ _)) (by simp only [f_X3_mayBe]) dX3_mayBe_11
theorem isValue_in {S : MS} {x : Int32} (hI : MInv S) (h : ¬ f_X3_isValue S x = 0) : 0 ≤ x.toInt ∧ x.toInt < 60 ∧ x.toInt < S.vals.toInt := by
  unfold f_X3_isValue at h
  have h1 := isIn_in h
  have h2 := hI.1
  rw [sub1 h2.1 (by omega)] at h1
  have : (0 : Int32).toInt = 0 := by decide
  exact ⟨by omega, by omega, by omega⟩
theorem mayBe_in {S : MS} {x : Int32} (hI : MInv S) (h : ¬ f_X3_mayBe S x = 0) : NV x := by
  unfold f_X3_mayBe at h
  have h1 := isIn_in h
  have h2 := hI.1
  rw [sub1 h2.1 (by omega)] at h1
  have : (-1 : Int32).toInt = -1 := by decide
  exact ⟨by omega, by omega⟩
abbrev rmX3_formIs : Room := { frames := 0, cells := 0, slots := 0, locals := 0 }
theorem esX3_formIs : yX3_formIs.cls ≠ "java/lang/invoke/MethodHandle" ∧ yX3_formIs.cls ≠ "java/lang/invoke/VarHandle" ∧ (parseMethodDescriptor yX3_formIs.desc).map (fun d => d.parameters.length) = some 2 := by decide +kernel
def f_X3_formIs (x0 : Int32) (x1 : Int32) : Int32 := if x0 = x1 then (1) else (if x0 = 5 then (if x1 = 4 then (1) else (if x1 = 11 then (1) else (if x0 = 7 then (if x1 = 6 then (1) else (if x1 = 8 then (1) else (if x0 = 10 then (if x1 = 9 then (1) else (0)) else (0)))) else (if x0 = 10 then (if x1 = 9 then (1) else (0)) else (0))))) else (if x0 = 7 then (if x1 = 6 then (1) else (if x1 = 8 then (1) else (if x0 = 10 then (if x1 = 9 then (1) else (0)) else (0)))) else (if x0 = 10 then (if x1 = 9 then (1) else (0)) else (0))))
set_option maxHeartbeats 4000000 in
set_option maxRecDepth 100000 in
theorem c_X3_formIs (l : Launch) (x0 : Int32) (x1 : Int32) : GSi l yX3_formIs wsX3_formIs rmX3_formIs [.int x0, .int x1] (f_X3_formIs x0 x1) := by
  refine GS_of (cc := cX3_formIs) (maxL := 2) (ret := (some .boolean)) (by decide) rfl (Nat.le_of_ble_eq_true rfl) ?_
  intro p e s m below meth c C ls hl
  obtain ⟨hx, hb, hr, hlocks, hml, hown, hts⟩ := id C
  have hl : lv_has ls 2 [(0, .int x0), (1, .int x1)] := hl
  refine lv_iload_n hx hb dX3_formIs_0 rfl (lv_at hl 0 rfl) ?_
  refine lv_iload_n hx hb dX3_formIs_1 rfl (lv_at hl 1 rfl) ?_
  refine lv_icmp_eq (tgt := 51) hx hb dX3_formIs_2 (by decide) (fun c_2 => ?_) (fun c_2 => ?_)
  · skip
    refine lv_iconst (v := 1) hx hb dX3_formIs_51 (by decide) ?_
    refine lv_goto (tgt := 56) hx hb dX3_formIs_52 (by decide) ?_
    exact r_Sz hx hb hr hlocks rfl (by simp only [f_X3_formIs, if_pos c_2]) dX3_formIs_56
  · skip
    refine lv_iload_n hx hb dX3_formIs_5 rfl (lv_at hl 0 rfl) ?_
    refine lv_iconst (v := 5) hx hb dX3_formIs_6 (by decide) ?_
    refine lv_icmp_ne (tgt := 21) hx hb dX3_formIs_7 (by decide) (fun c_7 => ?_) (fun c_7 => ?_)
    · skip
      refine lv_iload_n hx hb dX3_formIs_21 rfl (lv_at hl 0 rfl) ?_
      refine lv_bipush (v := 7) hx hb dX3_formIs_22 (by decide) ?_
      refine lv_icmp_ne (tgt := 39) hx hb dX3_formIs_24 (by decide) (fun c_24 => ?_) (fun c_24 => ?_)
      · skip
        refine lv_iload_n hx hb dX3_formIs_39 rfl (lv_at hl 0 rfl) ?_
        refine lv_bipush (v := 10) hx hb dX3_formIs_40 (by decide) ?_
        refine lv_icmp_ne (tgt := 55) hx hb dX3_formIs_42 (by decide) (fun c_42 => ?_) (fun c_42 => ?_)
        · skip
          refine lv_iconst (v := 0) hx hb dX3_formIs_55 (by decide) ?_
          exact r_Sz hx hb hr hlocks rfl (by simp only [f_X3_formIs, if_neg c_2, if_neg c_7, if_neg c_24, if_neg c_42]) dX3_formIs_56
        · skip
          refine lv_iload_n hx hb dX3_formIs_45 rfl (lv_at hl 1 rfl) ?_
          refine lv_bipush (v := 9) hx hb dX3_formIs_46 (by decide) ?_
          refine lv_icmp_ne (tgt := 55) hx hb dX3_formIs_48 (by decide) (fun c_48 => ?_) (fun c_48 => ?_)
          · skip
            refine lv_iconst (v := 0) hx hb dX3_formIs_55 (by decide) ?_
            exact r_Sz hx hb hr hlocks rfl (by simp only [f_X3_formIs, if_neg c_2, if_neg c_7, if_neg c_24, if_pos c_42, if_neg c_48]) dX3_formIs_56
          · skip
            refine lv_iconst (v := 1) hx hb dX3_formIs_51 (by decide) ?_
            refine lv_goto (tgt := 56) hx hb dX3_formIs_52 (by decide) ?_
            exact r_Sz hx hb hr hlocks rfl (by simp only [f_X3_formIs, if_neg c_2, if_neg c_7, if_neg c_24, if_pos c_42, if_pos c_48]) dX3_formIs_56
      · skip
        refine lv_iload_n hx hb dX3_formIs_27 rfl (lv_at hl 1 rfl) ?_
        refine lv_bipush (v := 6) hx hb dX3_formIs_28 (by decide) ?_
        refine lv_icmp_eq (tgt := 51) hx hb dX3_formIs_30 (by decide) (fun c_30 => ?_) (fun c_30 => ?_)
        · skip
          refine lv_iconst (v := 1) hx hb dX3_formIs_51 (by decide) ?_
          refine lv_goto (tgt := 56) hx hb dX3_formIs_52 (by decide) ?_
          exact r_Sz hx hb hr hlocks rfl (by simp only [f_X3_formIs, if_neg c_2, if_neg c_7, if_pos c_24, if_pos c_30]) dX3_formIs_56
        · skip
          refine lv_iload_n hx hb dX3_formIs_33 rfl (lv_at hl 1 rfl) ?_
          refine lv_bipush (v := 8) hx hb dX3_formIs_34 (by decide) ?_
          refine lv_icmp_eq (tgt := 51) hx hb dX3_formIs_36 (by decide) (fun c_36 => ?_) (fun c_36 => ?_)
          · skip
            refine lv_iconst (v := 1) hx hb dX3_formIs_51 (by decide) ?_
            refine lv_goto (tgt := 56) hx hb dX3_formIs_52 (by decide) ?_
            exact r_Sz hx hb hr hlocks rfl (by simp only [f_X3_formIs, if_neg c_2, if_neg c_7, if_pos c_24, if_neg c_30, if_pos c_36]) dX3_formIs_56
          · skip
            refine lv_iload_n hx hb dX3_formIs_39 rfl (lv_at hl 0 rfl) ?_
            refine lv_bipush (v := 10) hx hb dX3_formIs_40 (by decide) ?_
            refine lv_icmp_ne (tgt := 55) hx hb dX3_formIs_42 (by decide) (fun c_42 => ?_) (fun c_42 => ?_)
            · skip
              refine lv_iconst (v := 0) hx hb dX3_formIs_55 (by decide) ?_
              exact r_Sz hx hb hr hlocks rfl (by simp only [f_X3_formIs, if_neg c_2, if_neg c_7, if_pos c_24, if_neg c_30, if_neg c_36, if_neg c_42]) dX3_formIs_56
            · skip
              refine lv_iload_n hx hb dX3_formIs_45 rfl (lv_at hl 1 rfl) ?_
              refine lv_bipush (v := 9) hx hb dX3_formIs_46 (by decide) ?_
              refine lv_icmp_ne (tgt := 55) hx hb dX3_formIs_48 (by decide) (fun c_48 => ?_) (fun c_48 => ?_)
              · skip
                refine lv_iconst (v := 0) hx hb dX3_formIs_55 (by decide) ?_
                exact r_Sz hx hb hr hlocks rfl (by simp only [f_X3_formIs, if_neg c_2, if_neg c_7, if_pos c_24, if_neg c_30, if_neg c_36, if_pos c_42, if_neg c_48]) dX3_formIs_56
              · skip
                refine lv_iconst (v := 1) hx hb dX3_formIs_51 (by decide) ?_
                refine lv_goto (tgt := 56) hx hb dX3_formIs_52 (by decide) ?_
                exact r_Sz hx hb hr hlocks rfl (by simp only [f_X3_formIs, if_neg c_2, if_neg c_7, if_pos c_24, if_neg c_30, if_neg c_36, if_pos c_42, if_pos c_48]) dX3_formIs_56
    · skip
      refine lv_iload_n hx hb dX3_formIs_10 rfl (lv_at hl 1 rfl) ?_
      refine lv_iconst (v := 4) hx hb dX3_formIs_11 (by decide) ?_
      refine lv_icmp_eq (tgt := 51) hx hb dX3_formIs_12 (by decide) (fun c_12 => ?_) (fun c_12 => ?_)
      · skip
        refine lv_iconst (v := 1) hx hb dX3_formIs_51 (by decide) ?_
        refine lv_goto (tgt := 56) hx hb dX3_formIs_52 (by decide) ?_
        exact r_Sz hx hb hr hlocks rfl (by simp only [f_X3_formIs, if_neg c_2, if_pos c_7, if_pos c_12]) dX3_formIs_56
      · skip
        refine lv_iload_n hx hb dX3_formIs_15 rfl (lv_at hl 1 rfl) ?_
        refine lv_bipush (v := 11) hx hb dX3_formIs_16 (by decide) ?_
        refine lv_icmp_eq (tgt := 51) hx hb dX3_formIs_18 (by decide) (fun c_18 => ?_) (fun c_18 => ?_)
        · skip
          refine lv_iconst (v := 1) hx hb dX3_formIs_51 (by decide) ?_
          refine lv_goto (tgt := 56) hx hb dX3_formIs_52 (by decide) ?_
          exact r_Sz hx hb hr hlocks rfl (by simp only [f_X3_formIs, if_neg c_2, if_pos c_7, if_neg c_12, if_pos c_18]) dX3_formIs_56
        · skip
          refine lv_iload_n hx hb dX3_formIs_21 rfl (lv_at hl 0 rfl) ?_
          refine lv_bipush (v := 7) hx hb dX3_formIs_22 (by decide) ?_
          refine lv_icmp_ne (tgt := 39) hx hb dX3_formIs_24 (by decide) (fun c_24 => ?_) (fun c_24 => ?_)
          · skip
            refine lv_iload_n hx hb dX3_formIs_39 rfl (lv_at hl 0 rfl) ?_
            refine lv_bipush (v := 10) hx hb dX3_formIs_40 (by decide) ?_
            refine lv_icmp_ne (tgt := 55) hx hb dX3_formIs_42 (by decide) (fun c_42 => ?_) (fun c_42 => ?_)
            · skip
              refine lv_iconst (v := 0) hx hb dX3_formIs_55 (by decide) ?_
              exact r_Sz hx hb hr hlocks rfl (by simp only [f_X3_formIs, if_neg c_2, if_pos c_7, if_neg c_12, if_neg c_18, if_neg c_24, if_neg c_42]) dX3_formIs_56
            · skip
              refine lv_iload_n hx hb dX3_formIs_45 rfl (lv_at hl 1 rfl) ?_
              refine lv_bipush (v := 9) hx hb dX3_formIs_46 (by decide) ?_
              refine lv_icmp_ne (tgt := 55) hx hb dX3_formIs_48 (by decide) (fun c_48 => ?_) (fun c_48 => ?_)
              · skip
                refine lv_iconst (v := 0) hx hb dX3_formIs_55 (by decide) ?_
                exact r_Sz hx hb hr hlocks rfl (by simp only [f_X3_formIs, if_neg c_2, if_pos c_7, if_neg c_12, if_neg c_18, if_neg c_24, if_pos c_42, if_neg c_48]) dX3_formIs_56
              · skip
                refine lv_iconst (v := 1) hx hb dX3_formIs_51 (by decide) ?_
                refine lv_goto (tgt := 56) hx hb dX3_formIs_52 (by decide) ?_
                exact r_Sz hx hb hr hlocks rfl (by simp only [f_X3_formIs, if_neg c_2, if_pos c_7, if_neg c_12, if_neg c_18, if_neg c_24, if_pos c_42, if_pos c_48]) dX3_formIs_56
          · skip
            refine lv_iload_n hx hb dX3_formIs_27 rfl (lv_at hl 1 rfl) ?_
            refine lv_bipush (v := 6) hx hb dX3_formIs_28 (by decide) ?_
            refine lv_icmp_eq (tgt := 51) hx hb dX3_formIs_30 (by decide) (fun c_30 => ?_) (fun c_30 => ?_)
            · skip
              refine lv_iconst (v := 1) hx hb dX3_formIs_51 (by decide) ?_
              refine lv_goto (tgt := 56) hx hb dX3_formIs_52 (by decide) ?_
              exact r_Sz hx hb hr hlocks rfl (by simp only [f_X3_formIs, if_neg c_2, if_pos c_7, if_neg c_12, if_neg c_18, if_pos c_24, if_pos c_30]) dX3_formIs_56
            · skip
              refine lv_iload_n hx hb dX3_formIs_33 rfl (lv_at hl 1 rfl) ?_
              refine lv_bipush (v := 8) hx hb dX3_formIs_34 (by decide) ?_
              refine lv_icmp_eq (tgt := 51) hx hb dX3_formIs_36 (by decide) (fun c_36 => ?_) (fun c_36 => ?_)
              · skip
                refine lv_iconst (v := 1) hx hb dX3_formIs_51 (by decide) ?_
                refine lv_goto (tgt := 56) hx hb dX3_formIs_52 (by decide) ?_
                exact r_Sz hx hb hr hlocks rfl (by simp only [f_X3_formIs, if_neg c_2, if_pos c_7, if_neg c_12, if_neg c_18, if_pos c_24, if_neg c_30, if_pos c_36]) dX3_formIs_56
              · skip
                refine lv_iload_n hx hb dX3_formIs_39 rfl (lv_at hl 0 rfl) ?_
                refine lv_bipush (v := 10) hx hb dX3_formIs_40 (by decide) ?_
                refine lv_icmp_ne (tgt := 55) hx hb dX3_formIs_42 (by decide) (fun c_42 => ?_) (fun c_42 => ?_)
                · skip
                  refine lv_iconst (v := 0) hx hb dX3_formIs_55 (by decide) ?_
                  exact r_Sz hx hb hr hlocks rfl (by simp only [f_X3_formIs, if_neg c_2, if_pos c_7, if_neg c_12, if_neg c_18, if_pos c_24, if_neg c_30, if_neg c_36, if_neg c_42]) dX3_formIs_56
                · skip
                  refine lv_iload_n hx hb dX3_formIs_45 rfl (lv_at hl 1 rfl) ?_
                  refine lv_bipush (v := 9) hx hb dX3_formIs_46 (by decide) ?_
                  refine lv_icmp_ne (tgt := 55) hx hb dX3_formIs_48 (by decide) (fun c_48 => ?_) (fun c_48 => ?_)
                  · skip
                    refine lv_iconst (v := 0) hx hb dX3_formIs_55 (by decide) ?_
                    exact r_Sz hx hb hr hlocks rfl (by simp only [f_X3_formIs, if_neg c_2, if_pos c_7, if_neg c_12, if_neg c_18, if_pos c_24, if_neg c_30, if_neg c_36, if_pos c_42, if_neg c_48]) dX3_formIs_56
                  · skip
                    refine lv_iconst (v := 1) hx hb dX3_formIs_51 (by decide) ?_
                    refine lv_goto (tgt := 56) hx hb dX3_formIs_52 (by decide) ?_
                    exact r_Sz hx hb hr hlocks rfl (by simp only [f_X3_formIs, if_neg c_2, if_pos c_7, if_neg c_12, if_neg c_18, if_pos c_24, if_neg c_30, if_neg c_36, if_pos c_42, if_pos c_48]) dX3_formIs_56
abbrev rmX3_isOf : Room := { frames := 1, cells := 0, slots := 0, locals := 21 }
theorem eeX3_isOf : yX3_isOf.cls = RX3 ∧ yX3_isOf.cls ≠ "java/lang/invoke/MethodHandle" ∧ yX3_isOf.cls ≠ "java/lang/invoke/VarHandle" ∧ (parseMethodDescriptor yX3_isOf.desc).map (fun d => d.parameters.length) = some 2 := by decide +kernel
theorem iwX3_isOf : ∀ w ∈ u_ws RX3 TX3 13, w ∈ wsX3_isOf := by decide +kernel
theorem flX3_isOf_7 : Cond.fieldLink RX3 7 "LoomPanelModel" "forms" "[I" ∈ wsX3_isOf := by decide +kernel
def f_X3_isOf (S : MS) (x1 : Int32) (x2 : Int32) : Int32 := if x1 < 0 then (0) else (if (f_X3_formIs (S.forms x1.toNatClampNeg) x2) = 0 then (0) else (1))
set_option maxHeartbeats 4000000 in
set_option maxRecDepth 100000 in
theorem c_X3_isOf (l : Launch) (D : va_G) (cI cJ : ClassId) (a : Nat → Nat) (hd : ∀ i j, i < 10 → j < 10 → a i = a j → i = j) (S : MS) (x1 : Int32) (x2 : Int32) (hvx : x1.toInt < 60) : GRi l yX3_isOf wsX3_isOf rmX3_isOf [.ref (a 0), .int x1, .int x2] D (mw_tys cI cJ) (mw cI cJ a) MInv (mA a) S (f_X3_isOf S x1 x2) := by
  refine GB_of (cc := cX3_isOf) (maxL := 3) (ret := (some .boolean)) (by decide) rfl (Nat.le_of_ble_eq_true rfl) ?_
  intro p e s m below meth c C hP hI ls hl
  obtain ⟨hx, hb, hr, hlocks, hml, hown, hts, hK, hN⟩ := id C
  have hS : va_S (mA a) s.heap s.heap [] := va_S.rf
  have hl : lv_has ls 3 [(0, .ref (a 0)), (1, .int x1), (2, .int x2)] := hl
  refine lv_iload_n hx hb dX3_isOf_0 rfl (lv_at hl 1 rfl) ?_
  refine lv_if_lt (tgt := 21) hx hb dX3_isOf_1 (by decide) (fun c_1 => ?_) (fun c_1 => ?_)
  · skip
    refine lv_iconst (v := 0) hx hb dX3_isOf_21 (by decide) ?_
    exact r_Rz hx hb hr hlocks hP hI hS rfl (by simp only [f_X3_isOf, if_pos c_1]) dX3_isOf_22
  · skip
    refine lv_aload_n hx hb dX3_isOf_4 rfl (lv_at hl 0 rfl) ?_
    refine va_get (D := D) (ci := 3) (v := .ref (a 1)) (C := RX3) (T := TX3) (N := 13) hx hb hts iwX3_isOf hown hK hP 0 rfl rfl 1 (by decide) (hts (.fieldLink RX3 7 "LoomPanelModel" "forms" "[I") flX3_isOf_7) (fun _ h9 => h9) rfl dX3_isOf_5 ?_
    refine lv_iload_n hx hb dX3_isOf_8 rfl (lv_at hl 1 rfl) ?_
    refine va_iald hx hb hK hP 1 0 (f := S.forms) rfl rfl (in2 (lt0 c_1) hvx) dX3_isOf_9 ?_
    refine lv_iload_n hx hb dX3_isOf_10 rfl (lv_at hl 2 rfl) ?_
    refine g_Si (As := [.int (S.forms x1.toNatClampNeg), .int x2]) (rest := []) ⟨hx, hb, hml, hown, hts⟩ (c_X3_formIs l (S.forms x1.toNatClampNeg) x2) (va_cwS 2 hts gX3_isOf_X3_formIs rfl rfl rfl esX3_formIs ⟨Nat.le_of_ble_eq_true rfl, Nat.le_of_ble_eq_true rfl⟩) hP hS rfl hl.1 rfl (Nat.le_of_ble_eq_true rfl) dX3_isOf_11 ⟨Nat.zero_le _, Nat.zero_le _⟩ (fun H locs hP hS => ?_)
    refine lv_if_eq (tgt := 21) hx hb dX3_isOf_14 (by decide) (fun c_14 => ?_) (fun c_14 => ?_)
    · skip
      refine lv_iconst (v := 0) hx hb dX3_isOf_21 (by decide) ?_
      exact r_Rz hx hb hr hlocks hP hI hS rfl (by simp only [f_X3_isOf, if_neg c_1, if_pos c_14]) dX3_isOf_22
    · skip
      refine lv_iconst (v := 1) hx hb dX3_isOf_17 (by decide) ?_
      refine lv_goto (tgt := 22) hx hb dX3_isOf_18 (by decide) ?_
      exact r_Rz hx hb hr hlocks hP hI hS rfl (by simp only [f_X3_isOf, if_neg c_1, if_neg c_14]) dX3_isOf_22
theorem isOf_01 (S : MS) (x v : Int32) : f_X3_isOf S x v = 0 ∨ f_X3_isOf S x v = 1 := by
  unfold f_X3_isOf
  by_cases h1 : x < 0
  · rw [if_pos h1]; exact Or.inl rfl
  · rw [if_neg h1]
    split
    · exact Or.inl rfl
    · exact Or.inr rfl
theorem isOf_in {S : MS} {x v : Int32} (hvx : x.toInt < 60) (h : ¬ f_X3_isOf S x v = 0) : vp_in x 60 := by
  unfold f_X3_isOf at h
  obtain ⟨h1, h⟩ := ne_ite h
  exact in2 (lt0 h1) hvx
theorem vals_set {S : MS} {v : Int32} (hI : MInv S) (h0 : 0 ≤ v.toInt) (h1 : v.toInt ≤ 60) : MInv (S.set_vals v) := ⟨⟨h0, h1⟩, hI.2⟩
theorem vals_up {S : MS} (hI : MInv S) (h : S.vals.toInt < 60) : MInv (S.set_vals (S.vals + 1)) := by
  have h2 := add1 (k := 60) hI.1.1 h (by decide)
  have := hI.1
  exact vals_set hI (by omega) (by omega)
theorem sizes_set {S : MS} {k : Nat} {v : Int32} (hI : MInv S) (h : 0 ≤ v.toInt ∧ v.toInt ≤ 8) : MInv (S.set_sizes (upd S.sizes k v)) := by
  refine ⟨hI.1, fun i => ?_, hI.2.2⟩
  show 0 ≤ (upd S.sizes k v i).toInt ∧ (upd S.sizes k v i).toInt ≤ 8
  by_cases hh : i = k
  · subst hh; rw [pk_us]; exact h
  · rw [pk_un hh]; exact hI.2.1 i
theorem lies_set {S : MS} {k : Nat} {v : Int32} (hI : MInv S) (h : NV v) : MInv (S.set_lies (upd S.lies k v)) := by
  refine ⟨hI.1, hI.2.1, fun i => ?_, hI.2.2.2⟩
  show NV (upd S.lies k v i)
  by_cases hh : i = k
  · subst hh; rw [pk_us]; exact h
  · rw [pk_un hh]; exact hI.2.2.1 i
theorem in18 : vp_in (1 : Int32) 8 := in2 (by decide) (by decide)
theorem nv_m1 : NV (-1) := by unfold NV; decide
theorem vals_lt {S : MS} (hI : MInv S) (h : ¬ S.vals = 60) : S.vals.toInt < 60 := by
  have h1 := hI.1
  have : ¬ S.vals.toInt = 60 := fun e => h (Int32.toInt_inj.mp (e.trans (by decide)))
  omega
abbrev rmX3_make : Room := { frames := 0, cells := 0, slots := 0, locals := 0 }
theorem eeX3_make : yX3_make.cls = RX3 ∧ yX3_make.cls ≠ "java/lang/invoke/MethodHandle" ∧ yX3_make.cls ≠ "java/lang/invoke/VarHandle" ∧ (parseMethodDescriptor yX3_make.desc).map (fun d => d.parameters.length) = some 2 := by decide +kernel
theorem iwX3_make : ∀ w ∈ u_ws RX3 TX3 13, w ∈ wsX3_make := by decide +kernel
theorem flX3_make_13 : Cond.fieldLink RX3 13 "LoomPanelModel" "sizes" "[I" ∈ wsX3_make := by decide +kernel
theorem flX3_make_16 : Cond.fieldLink RX3 16 "LoomPanelModel" "levels" "[I" ∈ wsX3_make := by decide +kernel
theorem flX3_make_19 : Cond.fieldLink RX3 19 "LoomPanelModel" "numbers" "[J" ∈ wsX3_make := by decide +kernel
theorem flX3_make_23 : Cond.fieldLink RX3 23 "LoomPanelModel" "lies" "[I" ∈ wsX3_make := by decide +kernel
theorem flX3_make_42 : Cond.fieldLink RX3 42 "LoomPanelModel" "values" "I" ∈ wsX3_make := by decide +kernel
theorem flX3_make_7 : Cond.fieldLink RX3 7 "LoomPanelModel" "forms" "[I" ∈ wsX3_make := by decide +kernel
def f_X3_make_c39 : Nat → MS → Int32 → Nat → Int32 × MS
  | 0, S, _, _ => (0, S)
  | n + 1, S, x3, j => if 8 ≤ (nI j) then ((x3, S)) else (f_X3_make_c39 n ((S.set_nums (vp_updL S.nums ((8 * x3) + (nI j)).toNatClampNeg 0)).set_lies (upd ((S.set_nums (vp_updL S.nums ((8 * x3) + (nI j)).toNatClampNeg 0)).lies) ((8 * x3) + (nI j)).toNatClampNeg (-1))) x3 (j + 1))
set_option maxHeartbeats 4000000 in
set_option maxRecDepth 100000 in
theorem w_X3_make_c39 {l : Launch} {D : va_G} {cI cJ : ClassId} {a : Nat → Nat} (hd : ∀ i j, i < 10 → j < 10 → a i = a j → i = j) {p : Program} {e : Env} {s : State} {m : MethodId} {args : Array Value} {below : List Frame} {meth : Method} {c : Code} (C : GC p s m meth c cX3_make (some .int) 5 RX3 wsX3_make args D (mw_tys cI cJ)) {v : Int32 × MS} : ∀ (n : Nat) (S : MS) (x3 : Int32) (j : Nat) (hx3 : vp_in x3 60) (hj : j ≤ 8) (hn : j + n = 9) (H : Heap) (locs : List Loc) (ls : Array Slot), va_P D vwCl (mw cI cJ a S) H → MInv S → va_S (mA a) s.heap H locs → lv_has ls 5 [(0, .ref (a 0)), (3, .int x3), (4, .int (nI j))] → v = f_X3_make_c39 n S x3 j → W p l e rmX3_make s m args below meth c H locs 0 0 (MQ below (va_Qi (fun r u => v = (r, u)) (GE D (mw cI cJ a) MInv) (mA a)) args s 0 0 (mA a)) (F0 m 39 ls []) := by
  obtain ⟨hx, hb, hr, hlocks, hml, hown, hts, hK, hN⟩ := id C
  intro n
  induction n with
  | zero =>
    intro S x3 j hx3 hj hn H locs ls hP hI hS hl hq
    exact absurd hn (by omega)
  | succ n ih =>
    intro S x3 j hx3 hj hn H locs ls hP hI hS hl hq
    refine lv_iload hx hb dX3_make_39 (lv_at hl 2 rfl) ?_
    refine lv_bipush (v := 8) hx hb dX3_make_41 (by decide) ?_
    refine lv_icmp_ge (tgt := 78) hx hb dX3_make_43 (by decide) (fun c_43 => ?_) (fun c_43 => ?_)
    · skip
      refine lv_iload_n hx hb dX3_make_78 rfl (lv_at hl 1 rfl) ?_
      exact r_Wi hx hb hr hlocks hP hI hS (hq.trans (by simp only [f_X3_make_c39, if_pos c_43])) dX3_make_79
    · skip
      refine lv_aload_n hx hb dX3_make_46 rfl (lv_at hl 0 rfl) ?_
      refine va_get (D := D) (ci := 3) (v := .ref (a 4)) (C := RX3) (T := TX3) (N := 13) hx hb hts iwX3_make hown hK hP 0 rfl rfl 4 (by decide) (hts (.fieldLink RX3 19 "LoomPanelModel" "numbers" "[J") flX3_make_19) (fun _ h9 => h9) rfl dX3_make_47 ?_
      refine lv_bipush (v := 8) hx hb dX3_make_50 (by decide) ?_
      refine lv_iload_n hx hb dX3_make_52 rfl (lv_at hl 1 rfl) ?_
      refine lv_imul hx hb dX3_make_53 ?_
      refine lv_iload hx hb dX3_make_54 (lv_at hl 2 rfl) ?_
      refine lv_iadd hx hb dX3_make_56 ?_
      refine lv_lconst (v := 0) hx hb dX3_make_57 (by decide) ?_
      refine va_last hx hb hK hP (mw_D hd) hS 4 1 (f := S.nums) rfl rfl (ix8' hx3 (jin (jl8 c_43 (by decide) hj) (by decide))) dX3_make_58 (fun H locs hP _ hS => ?_)
      have hP : va_P D vwCl (mw cI cJ a (S.set_nums (vp_updL S.nums ((8 * x3) + (nI j)).toNatClampNeg 0))) H := by rw [← mw_set_nums]; exact hP
      have hI : MInv (S.set_nums (vp_updL S.nums ((8 * x3) + (nI j)).toNatClampNeg 0)) := MInv_set_nums hI
      refine lv_aload_n hx hb dX3_make_59 rfl (lv_at hl 0 rfl) ?_
      refine va_get (D := D) (ci := 3) (v := .ref (a 5)) (C := RX3) (T := TX3) (N := 13) hx hb hts iwX3_make hown hK hP 0 rfl rfl 5 (by decide) (hts (.fieldLink RX3 23 "LoomPanelModel" "lies" "[I") flX3_make_23) (fun _ h9 => h9) rfl dX3_make_60 ?_
      refine lv_bipush (v := 8) hx hb dX3_make_63 (by decide) ?_
      refine lv_iload_n hx hb dX3_make_65 rfl (lv_at hl 1 rfl) ?_
      refine lv_imul hx hb dX3_make_66 ?_
      refine lv_iload hx hb dX3_make_67 (lv_at hl 2 rfl) ?_
      refine lv_iadd hx hb dX3_make_69 ?_
      refine lv_iconst (v := (-1)) hx hb dX3_make_70 (by decide) ?_
      refine va_iast hx hb hK hP (mw_D hd) hS 5 0 (f := (S.set_nums (vp_updL S.nums ((8 * x3) + (nI j)).toNatClampNeg 0)).lies) rfl rfl (ix8' hx3 (jin (jl8 c_43 (by decide) hj) (by decide))) dX3_make_71 (fun H locs hP _ hS => ?_)
      have hP : va_P D vwCl (mw cI cJ a ((S.set_nums (vp_updL S.nums ((8 * x3) + (nI j)).toNatClampNeg 0)).set_lies (upd ((S.set_nums (vp_updL S.nums ((8 * x3) + (nI j)).toNatClampNeg 0)).lies) ((8 * x3) + (nI j)).toNatClampNeg (-1)))) H := by rw [← mw_set_lies]; exact hP
      have hI : MInv ((S.set_nums (vp_updL S.nums ((8 * x3) + (nI j)).toNatClampNeg 0)).set_lies (upd ((S.set_nums (vp_updL S.nums ((8 * x3) + (nI j)).toNatClampNeg 0)).lies) ((8 * x3) + (nI j)).toNatClampNeg (-1))) := lies_set hI nv_m1
      refine lv_iinc (v := nI (j + 1)) (lv' := [(4, .int (nI (j + 1))), (0, .ref (a 0)), (3, .int x3)]) hx hb dX3_make_72 hl (k := 2) rfl (nI_1 _) (by decide) rfl (fun ls hl => ?_)
      refine lv_goto (tgt := 39) hx hb dX3_make_75 (by decide) ?_
      exact ih ((S.set_nums (vp_updL S.nums ((8 * x3) + (nI j)).toNatClampNeg 0)).set_lies (upd ((S.set_nums (vp_updL S.nums ((8 * x3) + (nI j)).toNatClampNeg 0)).lies) ((8 * x3) + (nI j)).toNatClampNeg (-1))) x3 (j + 1) hx3 (jl8 c_43 (by decide) hj) (by omega) _ _ _ hP hI hS (lv_sub hl [1, 2, 0] rfl) (hq.trans (by simp only [f_X3_make_c39, if_neg c_43]))
def f_X3_make (S : MS) (x1 : Int32) (x2 : Int32) : Int32 × MS := f_X3_make_c39 9 ((((S.set_vals (S.vals + 1)).set_forms (upd ((S.set_vals (S.vals + 1)).forms) S.vals.toNatClampNeg x1)).set_sizes (upd (((S.set_vals (S.vals + 1)).set_forms (upd ((S.set_vals (S.vals + 1)).forms) S.vals.toNatClampNeg x1)).sizes) S.vals.toNatClampNeg x2)).set_levels (upd ((((S.set_vals (S.vals + 1)).set_forms (upd ((S.set_vals (S.vals + 1)).forms) S.vals.toNatClampNeg x1)).set_sizes (upd (((S.set_vals (S.vals + 1)).set_forms (upd ((S.set_vals (S.vals + 1)).forms) S.vals.toNatClampNeg x1)).sizes) S.vals.toNatClampNeg x2)).levels) S.vals.toNatClampNeg 0)) S.vals 0
set_option maxHeartbeats 4000000 in
set_option maxRecDepth 100000 in
theorem c_X3_make (l : Launch) (D : va_G) (cI cJ : ClassId) (a : Nat → Nat) (hd : ∀ i j, i < 10 → j < 10 → a i = a j → i = j) (S : MS) (x1 : Int32) (x2 : Int32) (hm : S.vals.toInt < 60) (h2 : 0 ≤ x2.toInt ∧ x2.toInt ≤ 8) : GWi l yX3_make wsX3_make rmX3_make [.ref (a 0), .int x1, .int x2] D (mw_tys cI cJ) (mw cI cJ a) MInv (mA a) S (f_X3_make S x1 x2) := by
  refine GB_of (cc := cX3_make) (maxL := 5) (ret := (some .int)) (by decide) rfl (Nat.le_of_ble_eq_true rfl) ?_
  intro p e s m below meth c C hP hI ls hl
  obtain ⟨hx, hb, hr, hlocks, hml, hown, hts, hK, hN⟩ := id C
  have hS : va_S (mA a) s.heap s.heap [] := va_S.rf
  have hl : lv_has ls 5 [(0, .ref (a 0)), (1, .int x1), (2, .int x2)] := hl
  have hv0 : vp_in S.vals 60 := in2 hI.1.1 hm
  refine lv_aload_n hx hb dX3_make_0 rfl (lv_at hl 0 rfl) ?_
  refine va_get (D := D) (ci := 3) (v := .int S.vals) (C := RX3) (T := TX3) (N := 13) hx hb hts iwX3_make hown hK hP 0 rfl rfl 0 (by decide) (hts (.fieldLink RX3 42 "LoomPanelModel" "values" "I") flX3_make_42) (fun _ h9 => h9) rfl dX3_make_1 ?_
  refine lv_istore_n (lv' := [(3, .int S.vals), (0, .ref (a 0)), (1, .int x1), (2, .int x2)]) hx hb dX3_make_4 rfl hl (by decide) rfl (fun ls hl => ?_)
  refine lv_aload_n hx hb dX3_make_5 rfl (lv_at hl 1 rfl) ?_
  refine lv_dup hx hb dX3_make_6 rfl ?_
  refine va_get (D := D) (ci := 3) (v := .int S.vals) (C := RX3) (T := TX3) (N := 13) hx hb hts iwX3_make hown hK hP 0 rfl rfl 0 (by decide) (hts (.fieldLink RX3 42 "LoomPanelModel" "values" "I") flX3_make_42) (fun _ h9 => h9) rfl dX3_make_7 ?_
  refine lv_iconst (v := 1) hx hb dX3_make_10 (by decide) ?_
  refine lv_iadd hx hb dX3_make_11 ?_
  refine va_put (D := D) (ci := 3) (v := .int (S.vals + 1)) (ty := .int) (C := RX3) (T := TX3) (N := 13) hx hb hts iwX3_make tyX3 tyX3_ok nmX3 hown hK hP (mw_D hd) hS 0 rfl rfl 0 (by decide) (hts (.fieldLink RX3 42 "LoomPanelModel" "values" "I") flX3_make_42) (fun _ h9 => h9) rfl (by decide +kernel) rfl rfl (Nat.le_of_ble_eq_true rfl) dX3_make_12 (fun H locs hP _ hS => ?_)
  have hP : va_P D vwCl (mw cI cJ a (S.set_vals (S.vals + 1))) H := by rw [← mw_set_vals]; exact hP
  have hI : MInv (S.set_vals (S.vals + 1)) := vals_up hI hm
  refine lv_aload_n hx hb dX3_make_15 rfl (lv_at hl 1 rfl) ?_
  refine va_get (D := D) (ci := 3) (v := .ref (a 1)) (C := RX3) (T := TX3) (N := 13) hx hb hts iwX3_make hown hK hP 0 rfl rfl 1 (by decide) (hts (.fieldLink RX3 7 "LoomPanelModel" "forms" "[I") flX3_make_7) (fun _ h9 => h9) rfl dX3_make_16 ?_
  refine lv_iload_n hx hb dX3_make_19 rfl (lv_at hl 0 rfl) ?_
  refine lv_iload_n hx hb dX3_make_20 rfl (lv_at hl 2 rfl) ?_
  refine va_iast hx hb hK hP (mw_D hd) hS 1 0 (f := (S.set_vals (S.vals + 1)).forms) rfl rfl hv0 dX3_make_21 (fun H locs hP _ hS => ?_)
  have hP : va_P D vwCl (mw cI cJ a ((S.set_vals (S.vals + 1)).set_forms (upd ((S.set_vals (S.vals + 1)).forms) S.vals.toNatClampNeg x1))) H := by rw [← mw_set_forms]; exact hP
  have hI : MInv ((S.set_vals (S.vals + 1)).set_forms (upd ((S.set_vals (S.vals + 1)).forms) S.vals.toNatClampNeg x1)) := MInv_set_forms hI
  refine lv_aload_n hx hb dX3_make_22 rfl (lv_at hl 1 rfl) ?_
  refine va_get (D := D) (ci := 3) (v := .ref (a 2)) (C := RX3) (T := TX3) (N := 13) hx hb hts iwX3_make hown hK hP 0 rfl rfl 2 (by decide) (hts (.fieldLink RX3 13 "LoomPanelModel" "sizes" "[I") flX3_make_13) (fun _ h9 => h9) rfl dX3_make_23 ?_
  refine lv_iload_n hx hb dX3_make_26 rfl (lv_at hl 0 rfl) ?_
  refine lv_iload_n hx hb dX3_make_27 rfl (lv_at hl 3 rfl) ?_
  refine va_iast hx hb hK hP (mw_D hd) hS 2 0 (f := ((S.set_vals (S.vals + 1)).set_forms (upd ((S.set_vals (S.vals + 1)).forms) S.vals.toNatClampNeg x1)).sizes) rfl rfl hv0 dX3_make_28 (fun H locs hP _ hS => ?_)
  have hP : va_P D vwCl (mw cI cJ a (((S.set_vals (S.vals + 1)).set_forms (upd ((S.set_vals (S.vals + 1)).forms) S.vals.toNatClampNeg x1)).set_sizes (upd (((S.set_vals (S.vals + 1)).set_forms (upd ((S.set_vals (S.vals + 1)).forms) S.vals.toNatClampNeg x1)).sizes) S.vals.toNatClampNeg x2))) H := by rw [← mw_set_sizes]; exact hP
  have hI : MInv (((S.set_vals (S.vals + 1)).set_forms (upd ((S.set_vals (S.vals + 1)).forms) S.vals.toNatClampNeg x1)).set_sizes (upd (((S.set_vals (S.vals + 1)).set_forms (upd ((S.set_vals (S.vals + 1)).forms) S.vals.toNatClampNeg x1)).sizes) S.vals.toNatClampNeg x2)) := sizes_set hI h2
  refine lv_aload_n hx hb dX3_make_29 rfl (lv_at hl 1 rfl) ?_
  refine va_get (D := D) (ci := 3) (v := .ref (a 3)) (C := RX3) (T := TX3) (N := 13) hx hb hts iwX3_make hown hK hP 0 rfl rfl 3 (by decide) (hts (.fieldLink RX3 16 "LoomPanelModel" "levels" "[I") flX3_make_16) (fun _ h9 => h9) rfl dX3_make_30 ?_
  refine lv_iload_n hx hb dX3_make_33 rfl (lv_at hl 0 rfl) ?_
  refine lv_iconst (v := 0) hx hb dX3_make_34 (by decide) ?_
  refine va_iast hx hb hK hP (mw_D hd) hS 3 0 (f := (((S.set_vals (S.vals + 1)).set_forms (upd ((S.set_vals (S.vals + 1)).forms) S.vals.toNatClampNeg x1)).set_sizes (upd (((S.set_vals (S.vals + 1)).set_forms (upd ((S.set_vals (S.vals + 1)).forms) S.vals.toNatClampNeg x1)).sizes) S.vals.toNatClampNeg x2)).levels) rfl rfl hv0 dX3_make_35 (fun H locs hP _ hS => ?_)
  have hP : va_P D vwCl (mw cI cJ a ((((S.set_vals (S.vals + 1)).set_forms (upd ((S.set_vals (S.vals + 1)).forms) S.vals.toNatClampNeg x1)).set_sizes (upd (((S.set_vals (S.vals + 1)).set_forms (upd ((S.set_vals (S.vals + 1)).forms) S.vals.toNatClampNeg x1)).sizes) S.vals.toNatClampNeg x2)).set_levels (upd ((((S.set_vals (S.vals + 1)).set_forms (upd ((S.set_vals (S.vals + 1)).forms) S.vals.toNatClampNeg x1)).set_sizes (upd (((S.set_vals (S.vals + 1)).set_forms (upd ((S.set_vals (S.vals + 1)).forms) S.vals.toNatClampNeg x1)).sizes) S.vals.toNatClampNeg x2)).levels) S.vals.toNatClampNeg 0))) H := by rw [← mw_set_levels]; exact hP
  have hI : MInv ((((S.set_vals (S.vals + 1)).set_forms (upd ((S.set_vals (S.vals + 1)).forms) S.vals.toNatClampNeg x1)).set_sizes (upd (((S.set_vals (S.vals + 1)).set_forms (upd ((S.set_vals (S.vals + 1)).forms) S.vals.toNatClampNeg x1)).sizes) S.vals.toNatClampNeg x2)).set_levels (upd ((((S.set_vals (S.vals + 1)).set_forms (upd ((S.set_vals (S.vals + 1)).forms) S.vals.toNatClampNeg x1)).set_sizes (upd (((S.set_vals (S.vals + 1)).set_forms (upd ((S.set_vals (S.vals + 1)).forms) S.vals.toNatClampNeg x1)).sizes) S.vals.toNatClampNeg x2)).levels) S.vals.toNatClampNeg 0)) := MInv_set_levels hI
  refine lv_iconst (v := 0) hx hb dX3_make_36 (by decide) ?_
  refine lv_istore (lv' := [(4, .int 0), (3, .int S.vals), (0, .ref (a 0)), (1, .int x1), (2, .int x2)]) hx hb dX3_make_37 hl (by decide) rfl (fun ls hl => ?_)
  exact w_X3_make_c39 hd C 9 ((((S.set_vals (S.vals + 1)).set_forms (upd ((S.set_vals (S.vals + 1)).forms) S.vals.toNatClampNeg x1)).set_sizes (upd (((S.set_vals (S.vals + 1)).set_forms (upd ((S.set_vals (S.vals + 1)).forms) S.vals.toNatClampNeg x1)).sizes) S.vals.toNatClampNeg x2)).set_levels (upd ((((S.set_vals (S.vals + 1)).set_forms (upd ((S.set_vals (S.vals + 1)).forms) S.vals.toNatClampNeg x1)).set_sizes (upd (((S.set_vals (S.vals + 1)).set_forms (upd ((S.set_vals (S.vals + 1)).forms) S.vals.toNatClampNeg x1)).sizes) S.vals.toNatClampNeg x2)).levels) S.vals.toNatClampNeg 0)) S.vals 0 hv0 (Nat.zero_le _) rfl _ _ _ hP hI hS (lv_sub hl [2, 1, 0] rfl) (by simp only [f_X3_make])
def fillN : Nat → (Nat → Int64) → Int32 → Nat → (Nat → Int64)
  | 0, f, _, _ => f
  | n + 1, f, x, j => if 8 ≤ nI j then f else fillN n (vp_updL f ((8 * x) + nI j).toNatClampNeg 0) x (j + 1)
def fillL : Nat → (Nat → Int32) → Int32 → Nat → (Nat → Int32)
  | 0, f, _, _ => f
  | n + 1, f, x, j => if 8 ≤ nI j then f else fillL n (upd f ((8 * x) + nI j).toNatClampNeg (-1)) x (j + 1)
theorem make_c39 : ∀ (n : Nat) (S : MS) (x : Int32) (j : Nat), j + n = 9 → j ≤ 8 → f_X3_make_c39 n S x j = (x, (S.set_nums (fillN n S.nums x j)).set_lies (fillL n S.lies x j)) := by
  intro n
  induction n with
  | zero => intro S x j h1 h2; exact absurd h1 (by omega)
  | succ n ih =>
    intro S x j h1 h2
    by_cases c : (8 : Int32) ≤ nI j
    · simp only [f_X3_make_c39, fillN, fillL, if_pos c]; rfl
    · have h3 := jl8 c (by decide) h2
      simp only [f_X3_make_c39, fillN, fillL, if_neg c]
      rw [ih _ _ _ (by omega) (by omega)]
      rfl
def made (S : MS) (f k : Int32) : MS := (((((S.set_vals (S.vals + 1)).set_forms (upd S.forms S.vals.toNatClampNeg f)).set_sizes (upd S.sizes S.vals.toNatClampNeg k)).set_levels (upd S.levels S.vals.toNatClampNeg 0)).set_nums (fillN 9 S.nums S.vals 0)).set_lies (fillL 9 S.lies S.vals 0)
theorem make_eq (S : MS) (f k : Int32) : f_X3_make S f k = (S.vals, made S f k) := by
  simp only [f_X3_make]
  rw [make_c39 9 _ _ 0 rfl (by decide)]
  rfl
theorem make_fst (S : MS) (f k : Int32) : (f_X3_make S f k).1 = S.vals := by rw [make_eq]
theorem make_vals (S : MS) (f k : Int32) : (f_X3_make S f k).2.vals = S.vals + 1 := by rw [make_eq]; rfl
theorem make_sizes (S : MS) (f k : Int32) : (f_X3_make S f k).2.sizes = upd S.sizes S.vals.toNatClampNeg k := by rw [make_eq]; rfl
abbrev rmX3_row : Room := { frames := 1, cells := 0, slots := 0, locals := 24 }
theorem eeX3_row : yX3_row.cls = RX3 ∧ yX3_row.cls ≠ "java/lang/invoke/MethodHandle" ∧ yX3_row.cls ≠ "java/lang/invoke/VarHandle" ∧ (parseMethodDescriptor yX3_row.desc).map (fun d => d.parameters.length) = some 2 := by decide +kernel
theorem iwX3_row : ∀ w ∈ u_ws RX3 TX3 13, w ∈ wsX3_row := by decide +kernel
theorem flX3_row_42 : Cond.fieldLink RX3 42 "LoomPanelModel" "values" "I" ∈ wsX3_row := by decide +kernel
def f_X3_row (S : MS) (x1 : Int32) (x2 : Int32) : Int32 × MS := if (f_X3_isIn x1 0 2) = 0 then (((-3), S)) else (if (f_X3_isIn x2 0 8) = 0 then (((-3), S)) else (if S.vals = 60 then (((-4), S)) else (((f_X3_make S x1 x2).1, (f_X3_make S x1 x2).2))))
set_option maxHeartbeats 4000000 in
set_option maxRecDepth 100000 in
theorem c_X3_row (l : Launch) (D : va_G) (cI cJ : ClassId) (a : Nat → Nat) (hd : ∀ i j, i < 10 → j < 10 → a i = a j → i = j) (S : MS) (x1 : Int32) (x2 : Int32) : GWi l yX3_row wsX3_row rmX3_row [.ref (a 0), .int x1, .int x2] D (mw_tys cI cJ) (mw cI cJ a) MInv (mA a) S (f_X3_row S x1 x2) := by
  refine GB_of (cc := cX3_row) (maxL := 3) (ret := (some .int)) (by decide) rfl (Nat.le_of_ble_eq_true rfl) ?_
  intro p e s m below meth c C hP hI ls hl
  obtain ⟨hx, hb, hr, hlocks, hml, hown, hts, hK, hN⟩ := id C
  have hS : va_S (mA a) s.heap s.heap [] := va_S.rf
  have hl : lv_has ls 3 [(0, .ref (a 0)), (1, .int x1), (2, .int x2)] := hl
  refine lv_iload_n hx hb dX3_row_0 rfl (lv_at hl 1 rfl) ?_
  refine lv_iconst (v := 0) hx hb dX3_row_1 (by decide) ?_
  refine lv_iconst (v := 2) hx hb dX3_row_2 (by decide) ?_
  refine g_Si (As := [.int x1, .int 0, .int 2]) (rest := []) ⟨hx, hb, hml, hown, hts⟩ (c_X3_isIn l x1 0 2) (va_cwS 3 hts gX3_row_X3_isIn rfl rfl rfl esX3_isIn ⟨Nat.le_of_ble_eq_true rfl, Nat.le_of_ble_eq_true rfl⟩) hP hS rfl hl.1 rfl (Nat.le_of_ble_eq_true rfl) dX3_row_3 ⟨Nat.zero_le _, Nat.zero_le _⟩ (fun H locs hP hS => ?_)
  refine lv_if_eq (tgt := 19) hx hb dX3_row_6 (by decide) (fun c_6 => ?_) (fun c_6 => ?_)
  · skip
    refine lv_bipush (v := (-3)) hx hb dX3_row_19 (by decide) ?_
    exact r_Wi hx hb hr hlocks hP hI hS (by simp only [f_X3_row, if_pos c_6]) dX3_row_21
  · skip
    refine lv_iload_n hx hb dX3_row_9 rfl (lv_at hl 2 rfl) ?_
    refine lv_iconst (v := 0) hx hb dX3_row_10 (by decide) ?_
    refine lv_bipush (v := 8) hx hb dX3_row_11 (by decide) ?_
    refine g_Si (As := [.int x2, .int 0, .int 8]) (rest := []) ⟨hx, hb, hml, hown, hts⟩ (c_X3_isIn l x2 0 8) (va_cwS 3 hts gX3_row_X3_isIn rfl rfl rfl esX3_isIn ⟨Nat.le_of_ble_eq_true rfl, Nat.le_of_ble_eq_true rfl⟩) hP hS rfl hl.1 rfl (Nat.le_of_ble_eq_true rfl) dX3_row_13 ⟨Nat.zero_le _, Nat.zero_le _⟩ (fun H locs hP hS => ?_)
    refine lv_if_ne (tgt := 22) hx hb dX3_row_16 (by decide) (fun c_16 => ?_) (fun c_16 => ?_)
    · skip
      refine lv_aload_n hx hb dX3_row_22 rfl (lv_at hl 0 rfl) ?_
      refine va_get (D := D) (ci := 3) (v := .int S.vals) (C := RX3) (T := TX3) (N := 13) hx hb hts iwX3_row hown hK hP 0 rfl rfl 0 (by decide) (hts (.fieldLink RX3 42 "LoomPanelModel" "values" "I") flX3_row_42) (fun _ h9 => h9) rfl dX3_row_23 ?_
      refine lv_bipush (v := 60) hx hb dX3_row_26 (by decide) ?_
      refine lv_icmp_ne (tgt := 36) hx hb dX3_row_28 (by decide) (fun c_28 => ?_) (fun c_28 => ?_)
      · skip
        refine lv_aload_n hx hb dX3_row_36 rfl (lv_at hl 0 rfl) ?_
        refine lv_iload_n hx hb dX3_row_37 rfl (lv_at hl 1 rfl) ?_
        refine lv_iload_n hx hb dX3_row_38 rfl (lv_at hl 2 rfl) ?_
        refine g_Wi (As := [.int x1, .int x2]) (rest := []) ⟨hx, hb, hml, hown, hts⟩ (c_X3_make l D cI cJ a hd S x1 x2 (vals_lt hI c_28) (isIn8 c_16)) (cwV 2 hts gX3_row_X3_make rfl rfl rfl eeX3_make ⟨Nat.le_of_ble_eq_true rfl, Nat.le_of_ble_eq_true rfl⟩) hK hN hP hI (va_recv hK hP (ci := 3) (q0 := 0) rfl rfl) hS rfl hl.1 rfl (Nat.le_of_ble_eq_true rfl) dX3_row_39 ⟨Nat.zero_le _, Nat.zero_le _⟩ (fun H locs hI hP hS => ?_)
        exact r_Wi hx hb hr hlocks hP hI hS (by simp only [f_X3_row, if_neg c_6, if_neg c_16, if_neg c_28]) dX3_row_42
      · skip
        refine lv_bipush (v := (-4)) hx hb dX3_row_31 (by decide) ?_
        refine lv_goto (tgt := 42) hx hb dX3_row_33 (by decide) ?_
        exact r_Wi hx hb hr hlocks hP hI hS (by simp only [f_X3_row, if_neg c_6, if_neg c_16, if_pos c_28]) dX3_row_42
    · skip
      refine lv_bipush (v := (-3)) hx hb dX3_row_19 (by decide) ?_
      exact r_Wi hx hb hr hlocks hP hI hS (by simp only [f_X3_row, if_neg c_6, if_pos c_16]) dX3_row_21
abbrev rmX3_board : Room := { frames := 1, cells := 0, slots := 0, locals := 24 }
theorem eeX3_board : yX3_board.cls = RX3 ∧ yX3_board.cls ≠ "java/lang/invoke/MethodHandle" ∧ yX3_board.cls ≠ "java/lang/invoke/VarHandle" ∧ (parseMethodDescriptor yX3_board.desc).map (fun d => d.parameters.length) = some 2 := by decide +kernel
theorem iwX3_board : ∀ w ∈ u_ws RX3 TX3 13, w ∈ wsX3_board := by decide +kernel
theorem flX3_board_42 : Cond.fieldLink RX3 42 "LoomPanelModel" "values" "I" ∈ wsX3_board := by decide +kernel
def f_X3_board_c16 (S : MS) (x1 : Int32) (x2 : Int32) : Int32 × MS := if (f_X3_isIn x2 0 8) = 0 then (((-3), S)) else (if S.vals = 60 then (((-4), S)) else (((f_X3_make S x1 x2).1, (f_X3_make S x1 x2).2)))
set_option maxHeartbeats 4000000 in
set_option maxRecDepth 100000 in
theorem w_X3_board_c16 {l : Launch} {D : va_G} {cI cJ : ClassId} {a : Nat → Nat} (hd : ∀ i j, i < 10 → j < 10 → a i = a j → i = j) {p : Program} {e : Env} {s : State} {m : MethodId} {args : Array Value} {below : List Frame} {meth : Method} {c : Code} (C : GC p s m meth c cX3_board (some .int) 3 RX3 wsX3_board args D (mw_tys cI cJ)) {v : Int32 × MS} : ∀ (S : MS) (x1 : Int32) (x2 : Int32) (H : Heap) (locs : List Loc) (ls : Array Slot), va_P D vwCl (mw cI cJ a S) H → MInv S → va_S (mA a) s.heap H locs → lv_has ls 3 [(0, .ref (a 0)), (1, .int x1), (2, .int x2)] → v = f_X3_board_c16 S x1 x2 → W p l e rmX3_board s m args below meth c H locs 0 0 (MQ below (va_Qi (fun r u => v = (r, u)) (GE D (mw cI cJ a) MInv) (mA a)) args s 0 0 (mA a)) (F0 m 16 ls []) := by
  obtain ⟨hx, hb, hr, hlocks, hml, hown, hts, hK, hN⟩ := id C
  intro S x1 x2  H locs ls hP hI hS hl hq
  refine lv_iload_n hx hb dX3_board_16 rfl (lv_at hl 2 rfl) ?_
  refine lv_iconst (v := 0) hx hb dX3_board_17 (by decide) ?_
  refine lv_bipush (v := 8) hx hb dX3_board_18 (by decide) ?_
  refine g_Si (As := [.int x2, .int 0, .int 8]) (rest := []) ⟨hx, hb, hml, hown, hts⟩ (c_X3_isIn l x2 0 8) (va_cwS 3 hts gX3_board_X3_isIn rfl rfl rfl esX3_isIn ⟨Nat.le_of_ble_eq_true rfl, Nat.le_of_ble_eq_true rfl⟩) hP hS rfl hl.1 rfl (Nat.le_of_ble_eq_true rfl) dX3_board_20 ⟨Nat.zero_le _, Nat.zero_le _⟩ (fun H locs hP hS => ?_)
  refine lv_if_ne (tgt := 29) hx hb dX3_board_23 (by decide) (fun c_23 => ?_) (fun c_23 => ?_)
  · skip
    refine lv_aload_n hx hb dX3_board_29 rfl (lv_at hl 0 rfl) ?_
    refine va_get (D := D) (ci := 3) (v := .int S.vals) (C := RX3) (T := TX3) (N := 13) hx hb hts iwX3_board hown hK hP 0 rfl rfl 0 (by decide) (hts (.fieldLink RX3 42 "LoomPanelModel" "values" "I") flX3_board_42) (fun _ h9 => h9) rfl dX3_board_30 ?_
    refine lv_bipush (v := 60) hx hb dX3_board_33 (by decide) ?_
    refine lv_icmp_ne (tgt := 43) hx hb dX3_board_35 (by decide) (fun c_35 => ?_) (fun c_35 => ?_)
    · skip
      refine lv_aload_n hx hb dX3_board_43 rfl (lv_at hl 0 rfl) ?_
      refine lv_iload_n hx hb dX3_board_44 rfl (lv_at hl 1 rfl) ?_
      refine lv_iload_n hx hb dX3_board_45 rfl (lv_at hl 2 rfl) ?_
      refine g_Wi (As := [.int x1, .int x2]) (rest := []) ⟨hx, hb, hml, hown, hts⟩ (c_X3_make l D cI cJ a hd S x1 x2 (vals_lt hI c_35) (isIn8 c_23)) (cwV 2 hts gX3_board_X3_make rfl rfl rfl eeX3_make ⟨Nat.le_of_ble_eq_true rfl, Nat.le_of_ble_eq_true rfl⟩) hK hN hP hI (va_recv hK hP (ci := 3) (q0 := 0) rfl rfl) hS rfl hl.1 rfl (Nat.le_of_ble_eq_true rfl) dX3_board_46 ⟨Nat.zero_le _, Nat.zero_le _⟩ (fun H locs hI hP hS => ?_)
      exact r_Wi hx hb hr hlocks hP hI hS (hq.trans (by simp only [f_X3_board_c16, if_neg c_23, if_neg c_35])) dX3_board_49
    · skip
      refine lv_bipush (v := (-4)) hx hb dX3_board_38 (by decide) ?_
      refine lv_goto (tgt := 49) hx hb dX3_board_40 (by decide) ?_
      exact r_Wi hx hb hr hlocks hP hI hS (hq.trans (by simp only [f_X3_board_c16, if_neg c_23, if_pos c_35])) dX3_board_49
  · skip
    refine lv_bipush (v := (-3)) hx hb dX3_board_26 (by decide) ?_
    exact r_Wi hx hb hr hlocks hP hI hS (hq.trans (by simp only [f_X3_board_c16, if_pos c_23])) dX3_board_28
def f_X3_board (S : MS) (x1 : Int32) (x2 : Int32) : Int32 × MS := if x1 = 3 then (f_X3_board_c16 S x1 x2) else (if (f_X3_isIn x1 6 10) = 0 then (((-3), S)) else (f_X3_board_c16 S x1 x2))
set_option maxHeartbeats 4000000 in
set_option maxRecDepth 100000 in
theorem c_X3_board (l : Launch) (D : va_G) (cI cJ : ClassId) (a : Nat → Nat) (hd : ∀ i j, i < 10 → j < 10 → a i = a j → i = j) (S : MS) (x1 : Int32) (x2 : Int32) : GWi l yX3_board wsX3_board rmX3_board [.ref (a 0), .int x1, .int x2] D (mw_tys cI cJ) (mw cI cJ a) MInv (mA a) S (f_X3_board S x1 x2) := by
  refine GB_of (cc := cX3_board) (maxL := 3) (ret := (some .int)) (by decide) rfl (Nat.le_of_ble_eq_true rfl) ?_
  intro p e s m below meth c C hP hI ls hl
  obtain ⟨hx, hb, hr, hlocks, hml, hown, hts, hK, hN⟩ := id C
  have hS : va_S (mA a) s.heap s.heap [] := va_S.rf
  have hl : lv_has ls 3 [(0, .ref (a 0)), (1, .int x1), (2, .int x2)] := hl
  refine lv_iload_n hx hb dX3_board_0 rfl (lv_at hl 1 rfl) ?_
  refine lv_iconst (v := 3) hx hb dX3_board_1 (by decide) ?_
  refine lv_icmp_eq (tgt := 16) hx hb dX3_board_2 (by decide) (fun c_2 => ?_) (fun c_2 => ?_)
  · skip
    exact w_X3_board_c16 hd C S x1 x2  _ _ _ hP hI hS (lv_sub hl [0, 1, 2] rfl) (by simp only [f_X3_board, if_pos c_2])
  · skip
    refine lv_iload_n hx hb dX3_board_5 rfl (lv_at hl 1 rfl) ?_
    refine lv_bipush (v := 6) hx hb dX3_board_6 (by decide) ?_
    refine lv_bipush (v := 10) hx hb dX3_board_8 (by decide) ?_
    refine g_Si (As := [.int x1, .int 6, .int 10]) (rest := []) ⟨hx, hb, hml, hown, hts⟩ (c_X3_isIn l x1 6 10) (va_cwS 3 hts gX3_board_X3_isIn rfl rfl rfl esX3_isIn ⟨Nat.le_of_ble_eq_true rfl, Nat.le_of_ble_eq_true rfl⟩) hP hS rfl hl.1 rfl (Nat.le_of_ble_eq_true rfl) dX3_board_10 ⟨Nat.zero_le _, Nat.zero_le _⟩ (fun H locs hP hS => ?_)
    refine lv_if_eq (tgt := 26) hx hb dX3_board_13 (by decide) (fun c_13 => ?_) (fun c_13 => ?_)
    · skip
      refine lv_bipush (v := (-3)) hx hb dX3_board_26 (by decide) ?_
      exact r_Wi hx hb hr hlocks hP hI hS (by simp only [f_X3_board, if_neg c_2, if_pos c_13]) dX3_board_28
    · skip
      exact w_X3_board_c16 hd C S x1 x2  _ _ _ hP hI hS (lv_sub hl [0, 1, 2] rfl) (by simp only [f_X3_board, if_neg c_2, if_neg c_13])
abbrev rmX3_wire : Room := { frames := 1, cells := 0, slots := 0, locals := 24 }
theorem eeX3_wire : yX3_wire.cls = RX3 ∧ yX3_wire.cls ≠ "java/lang/invoke/MethodHandle" ∧ yX3_wire.cls ≠ "java/lang/invoke/VarHandle" ∧ (parseMethodDescriptor yX3_wire.desc).map (fun d => d.parameters.length) = some 2 := by decide +kernel
theorem iwX3_wire : ∀ w ∈ u_ws RX3 TX3 13, w ∈ wsX3_wire := by decide +kernel
theorem flX3_wire_16 : Cond.fieldLink RX3 16 "LoomPanelModel" "levels" "[I" ∈ wsX3_wire := by decide +kernel
theorem flX3_wire_42 : Cond.fieldLink RX3 42 "LoomPanelModel" "values" "I" ∈ wsX3_wire := by decide +kernel
def f_X3_wire (S : MS) (x1 : Int32) (x2 : Int32) : Int32 × MS := if S.vals = 60 then (((-4), S)) else (if x1 = 0 then (((f_X3_make S 4 0).1, ((f_X3_make S 4 0).2).set_levels (upd (((f_X3_make S 4 0).2).levels) ((f_X3_make S 4 0).1).toNatClampNeg x2))) else (((f_X3_make S 5 0).1, ((f_X3_make S 5 0).2).set_levels (upd (((f_X3_make S 5 0).2).levels) ((f_X3_make S 5 0).1).toNatClampNeg x2))))
set_option maxHeartbeats 4000000 in
set_option maxRecDepth 100000 in
theorem c_X3_wire (l : Launch) (D : va_G) (cI cJ : ClassId) (a : Nat → Nat) (hd : ∀ i j, i < 10 → j < 10 → a i = a j → i = j) (S : MS) (x1 : Int32) (x2 : Int32) : GWi l yX3_wire wsX3_wire rmX3_wire [.ref (a 0), .int x1, .int x2] D (mw_tys cI cJ) (mw cI cJ a) MInv (mA a) S (f_X3_wire S x1 x2) := by
  refine GB_of (cc := cX3_wire) (maxL := 4) (ret := (some .int)) (by decide) rfl (Nat.le_of_ble_eq_true rfl) ?_
  intro p e s m below meth c C hP hI ls hl
  obtain ⟨hx, hb, hr, hlocks, hml, hown, hts, hK, hN⟩ := id C
  have hS : va_S (mA a) s.heap s.heap [] := va_S.rf
  have hl : lv_has ls 4 [(0, .ref (a 0)), (1, .int x1), (2, .int x2)] := hl
  refine lv_aload_n hx hb dX3_wire_0 rfl (lv_at hl 0 rfl) ?_
  refine va_get (D := D) (ci := 3) (v := .int S.vals) (C := RX3) (T := TX3) (N := 13) hx hb hts iwX3_wire hown hK hP 0 rfl rfl 0 (by decide) (hts (.fieldLink RX3 42 "LoomPanelModel" "values" "I") flX3_wire_42) (fun _ h9 => h9) rfl dX3_wire_1 ?_
  refine lv_bipush (v := 60) hx hb dX3_wire_4 (by decide) ?_
  refine lv_icmp_ne (tgt := 12) hx hb dX3_wire_6 (by decide) (fun c_6 => ?_) (fun c_6 => ?_)
  · skip
    have hm := vals_lt hI c_6
    have hv0 : vp_in S.vals 60 := in2 hI.1.1 hm
    refine lv_aload_n hx hb dX3_wire_12 rfl (lv_at hl 0 rfl) ?_
    refine lv_iload_n hx hb dX3_wire_13 rfl (lv_at hl 1 rfl) ?_
    refine lv_if_eq (tgt := 21) hx hb dX3_wire_14 (by decide) (fun c_14 => ?_) (fun c_14 => ?_)
    · skip
      refine lv_iconst (v := 4) hx hb dX3_wire_21 (by decide) ?_
      refine lv_iconst (v := 0) hx hb dX3_wire_22 (by decide) ?_
      refine g_Wi (As := [.int 4, .int 0]) (rest := []) ⟨hx, hb, hml, hown, hts⟩ (c_X3_make l D cI cJ a hd S 4 0 (vals_lt hI c_6) (by decide)) (cwV 2 hts gX3_wire_X3_make rfl rfl rfl eeX3_make ⟨Nat.le_of_ble_eq_true rfl, Nat.le_of_ble_eq_true rfl⟩) hK hN hP hI (va_recv hK hP (ci := 3) (q0 := 0) rfl rfl) hS rfl hl.1 rfl (Nat.le_of_ble_eq_true rfl) dX3_wire_23 ⟨Nat.zero_le _, Nat.zero_le _⟩ (fun H locs hI hP hS => ?_)
      refine lv_istore_n (lv' := [(3, .int ((f_X3_make S 4 0).1)), (0, .ref (a 0)), (1, .int x1), (2, .int x2)]) hx hb dX3_wire_26 rfl hl (by decide) rfl (fun ls hl => ?_)
      refine lv_aload_n hx hb dX3_wire_27 rfl (lv_at hl 1 rfl) ?_
      refine va_get (D := D) (ci := 3) (v := .ref (a 3)) (C := RX3) (T := TX3) (N := 13) hx hb hts iwX3_wire hown hK hP 0 rfl rfl 3 (by decide) (hts (.fieldLink RX3 16 "LoomPanelModel" "levels" "[I") flX3_wire_16) (fun _ h9 => h9) rfl dX3_wire_28 ?_
      refine lv_iload_n hx hb dX3_wire_31 rfl (lv_at hl 0 rfl) ?_
      refine lv_iload_n hx hb dX3_wire_32 rfl (lv_at hl 3 rfl) ?_
      refine va_iast hx hb hK hP (mw_D hd) hS 3 0 (f := ((f_X3_make S 4 0).2).levels) rfl rfl (by rw [make_fst]; exact hv0) dX3_wire_33 (fun H locs hP _ hS => ?_)
      have hP : va_P D vwCl (mw cI cJ a (((f_X3_make S 4 0).2).set_levels (upd (((f_X3_make S 4 0).2).levels) ((f_X3_make S 4 0).1).toNatClampNeg x2))) H := by rw [← mw_set_levels]; exact hP
      have hI : MInv (((f_X3_make S 4 0).2).set_levels (upd (((f_X3_make S 4 0).2).levels) ((f_X3_make S 4 0).1).toNatClampNeg x2)) := MInv_set_levels hI
      refine lv_iload_n hx hb dX3_wire_34 rfl (lv_at hl 0 rfl) ?_
      exact r_Wi hx hb hr hlocks hP hI hS (by simp only [f_X3_wire, if_neg c_6, if_pos c_14]) dX3_wire_35
    · skip
      refine lv_iconst (v := 5) hx hb dX3_wire_17 (by decide) ?_
      refine lv_goto (tgt := 22) hx hb dX3_wire_18 (by decide) ?_
      refine lv_iconst (v := 0) hx hb dX3_wire_22 (by decide) ?_
      refine g_Wi (As := [.int 5, .int 0]) (rest := []) ⟨hx, hb, hml, hown, hts⟩ (c_X3_make l D cI cJ a hd S 5 0 (vals_lt hI c_6) (by decide)) (cwV 2 hts gX3_wire_X3_make rfl rfl rfl eeX3_make ⟨Nat.le_of_ble_eq_true rfl, Nat.le_of_ble_eq_true rfl⟩) hK hN hP hI (va_recv hK hP (ci := 3) (q0 := 0) rfl rfl) hS rfl hl.1 rfl (Nat.le_of_ble_eq_true rfl) dX3_wire_23 ⟨Nat.zero_le _, Nat.zero_le _⟩ (fun H locs hI hP hS => ?_)
      refine lv_istore_n (lv' := [(3, .int ((f_X3_make S 5 0).1)), (0, .ref (a 0)), (1, .int x1), (2, .int x2)]) hx hb dX3_wire_26 rfl hl (by decide) rfl (fun ls hl => ?_)
      refine lv_aload_n hx hb dX3_wire_27 rfl (lv_at hl 1 rfl) ?_
      refine va_get (D := D) (ci := 3) (v := .ref (a 3)) (C := RX3) (T := TX3) (N := 13) hx hb hts iwX3_wire hown hK hP 0 rfl rfl 3 (by decide) (hts (.fieldLink RX3 16 "LoomPanelModel" "levels" "[I") flX3_wire_16) (fun _ h9 => h9) rfl dX3_wire_28 ?_
      refine lv_iload_n hx hb dX3_wire_31 rfl (lv_at hl 0 rfl) ?_
      refine lv_iload_n hx hb dX3_wire_32 rfl (lv_at hl 3 rfl) ?_
      refine va_iast hx hb hK hP (mw_D hd) hS 3 0 (f := ((f_X3_make S 5 0).2).levels) rfl rfl (by rw [make_fst]; exact hv0) dX3_wire_33 (fun H locs hP _ hS => ?_)
      have hP : va_P D vwCl (mw cI cJ a (((f_X3_make S 5 0).2).set_levels (upd (((f_X3_make S 5 0).2).levels) ((f_X3_make S 5 0).1).toNatClampNeg x2))) H := by rw [← mw_set_levels]; exact hP
      have hI : MInv (((f_X3_make S 5 0).2).set_levels (upd (((f_X3_make S 5 0).2).levels) ((f_X3_make S 5 0).1).toNatClampNeg x2)) := MInv_set_levels hI
      refine lv_iload_n hx hb dX3_wire_34 rfl (lv_at hl 0 rfl) ?_
      exact r_Wi hx hb hr hlocks hP hI hS (by simp only [f_X3_wire, if_neg c_6, if_neg c_14]) dX3_wire_35
  · skip
    refine lv_bipush (v := (-4)) hx hb dX3_wire_9 (by decide) ?_
    exact r_Wi hx hb hr hlocks hP hI hS (by simp only [f_X3_wire, if_pos c_6]) dX3_wire_11
abbrev rmX3_isRow : Room := { frames := 0, cells := 0, slots := 0, locals := 0 }
theorem eeX3_isRow : yX3_isRow.cls = RX3 ∧ yX3_isRow.cls ≠ "java/lang/invoke/MethodHandle" ∧ yX3_isRow.cls ≠ "java/lang/invoke/VarHandle" ∧ (parseMethodDescriptor yX3_isRow.desc).map (fun d => d.parameters.length) = some 1 := by decide +kernel
theorem iwX3_isRow : ∀ w ∈ u_ws RX3 TX3 13, w ∈ wsX3_isRow := by decide +kernel
theorem flX3_isRow_7 : Cond.fieldLink RX3 7 "LoomPanelModel" "forms" "[I" ∈ wsX3_isRow := by decide +kernel
def f_X3_isRow (S : MS) (x1 : Int32) : Int32 := if x1 < 0 then (0) else (if 2 < (S.forms x1.toNatClampNeg) then (0) else (1))
set_option maxHeartbeats 4000000 in
set_option maxRecDepth 100000 in
theorem c_X3_isRow (l : Launch) (D : va_G) (cI cJ : ClassId) (a : Nat → Nat) (hd : ∀ i j, i < 10 → j < 10 → a i = a j → i = j) (S : MS) (x1 : Int32) (hvx : x1.toInt < 60) : GRi l yX3_isRow wsX3_isRow rmX3_isRow [.ref (a 0), .int x1] D (mw_tys cI cJ) (mw cI cJ a) MInv (mA a) S (f_X3_isRow S x1) := by
  refine GB_of (cc := cX3_isRow) (maxL := 2) (ret := (some .boolean)) (by decide) rfl (Nat.le_of_ble_eq_true rfl) ?_
  intro p e s m below meth c C hP hI ls hl
  obtain ⟨hx, hb, hr, hlocks, hml, hown, hts, hK, hN⟩ := id C
  have hS : va_S (mA a) s.heap s.heap [] := va_S.rf
  have hl : lv_has ls 2 [(0, .ref (a 0)), (1, .int x1)] := hl
  refine lv_iload_n hx hb dX3_isRow_0 rfl (lv_at hl 1 rfl) ?_
  refine lv_if_lt (tgt := 18) hx hb dX3_isRow_1 (by decide) (fun c_1 => ?_) (fun c_1 => ?_)
  · skip
    refine lv_iconst (v := 0) hx hb dX3_isRow_18 (by decide) ?_
    exact r_Rz hx hb hr hlocks hP hI hS rfl (by simp only [f_X3_isRow, if_pos c_1]) dX3_isRow_19
  · skip
    refine lv_aload_n hx hb dX3_isRow_4 rfl (lv_at hl 0 rfl) ?_
    refine va_get (D := D) (ci := 3) (v := .ref (a 1)) (C := RX3) (T := TX3) (N := 13) hx hb hts iwX3_isRow hown hK hP 0 rfl rfl 1 (by decide) (hts (.fieldLink RX3 7 "LoomPanelModel" "forms" "[I") flX3_isRow_7) (fun _ h9 => h9) rfl dX3_isRow_5 ?_
    refine lv_iload_n hx hb dX3_isRow_8 rfl (lv_at hl 1 rfl) ?_
    refine va_iald hx hb hK hP 1 0 (f := S.forms) rfl rfl (in2 (lt0 c_1) hvx) dX3_isRow_9 ?_
    refine lv_iconst (v := 2) hx hb dX3_isRow_10 (by decide) ?_
    refine lv_icmp_gt (tgt := 18) hx hb dX3_isRow_11 (by decide) (fun c_11 => ?_) (fun c_11 => ?_)
    · skip
      refine lv_iconst (v := 0) hx hb dX3_isRow_18 (by decide) ?_
      exact r_Rz hx hb hr hlocks hP hI hS rfl (by simp only [f_X3_isRow, if_neg c_1, if_pos c_11]) dX3_isRow_19
    · skip
      refine lv_iconst (v := 1) hx hb dX3_isRow_14 (by decide) ?_
      refine lv_goto (tgt := 19) hx hb dX3_isRow_15 (by decide) ?_
      exact r_Rz hx hb hr hlocks hP hI hS rfl (by simp only [f_X3_isRow, if_neg c_1, if_neg c_11]) dX3_isRow_19
abbrev rmX3_cut : Room := { frames := 0, cells := 0, slots := 0, locals := 0 }
theorem esX3_cut : yX3_cut.cls ≠ "java/lang/invoke/MethodHandle" ∧ yX3_cut.cls ≠ "java/lang/invoke/VarHandle" ∧ (parseMethodDescriptor yX3_cut.desc).map (fun d => d.parameters.length) = some 2 := by decide +kernel
def f_X3_cut (x0 : Int32) (x1 : Int64) : Int64 := if x0 = 0 then (x1.toInt32.toInt8.toInt32.toInt64) else (if x0 = 1 then (x1.toInt32.toInt64) else (x1))
set_option maxHeartbeats 4000000 in
set_option maxRecDepth 100000 in
theorem c_X3_cut (l : Launch) (x0 : Int32) (x1 : Int64) : GSl l yX3_cut wsX3_cut rmX3_cut [.int x0, .long x1] (f_X3_cut x0 x1) := by
  refine GS_of (cc := cX3_cut) (maxL := 3) (ret := (some .long)) (by decide) rfl (Nat.le_of_ble_eq_true rfl) ?_
  intro p e s m below meth c C ls hl
  obtain ⟨hx, hb, hr, hlocks, hml, hown, hts⟩ := id C
  have hl : lv_has ls 3 [(0, .int x0), (1, .long x1)] := hl
  refine lv_iload_n hx hb dX3_cut_0 rfl (lv_at hl 0 rfl) ?_
  refine lv_if_ne (tgt := 11) hx hb dX3_cut_1 (by decide) (fun c_1 => ?_) (fun c_1 => ?_)
  · skip
    refine lv_iload_n hx hb dX3_cut_11 rfl (lv_at hl 0 rfl) ?_
    refine lv_iconst (v := 1) hx hb dX3_cut_12 (by decide) ?_
    refine lv_icmp_ne (tgt := 22) hx hb dX3_cut_13 (by decide) (fun c_13 => ?_) (fun c_13 => ?_)
    · skip
      refine lv_lload_n hx hb dX3_cut_22 rfl (lv_at hl 1 rfl) ?_
      exact r_Sl hx hb hr hlocks (by simp only [f_X3_cut, if_neg c_1, if_neg c_13]) dX3_cut_23
    · skip
      refine lv_lload_n hx hb dX3_cut_16 rfl (lv_at hl 1 rfl) ?_
      refine lv_l2i (v := x1.toInt32) hx hb dX3_cut_17 rfl ?_
      refine lv_i2l (v := x1.toInt32.toInt64) hx hb dX3_cut_18 rfl ?_
      refine lv_goto (tgt := 23) hx hb dX3_cut_19 (by decide) ?_
      exact r_Sl hx hb hr hlocks (by simp only [f_X3_cut, if_neg c_1, if_pos c_13]) dX3_cut_23
  · skip
    refine lv_lload_n hx hb dX3_cut_4 rfl (lv_at hl 1 rfl) ?_
    refine lv_l2i (v := x1.toInt32) hx hb dX3_cut_5 rfl ?_
    refine lv_i2b (v := x1.toInt32.toInt8.toInt32) hx hb dX3_cut_6 rfl ?_
    refine lv_i2l (v := x1.toInt32.toInt8.toInt32.toInt64) hx hb dX3_cut_7 rfl ?_
    refine lv_goto (tgt := 23) hx hb dX3_cut_8 (by decide) ?_
    exact r_Sl hx hb hr hlocks (by simp only [f_X3_cut, if_pos c_1]) dX3_cut_23
abbrev rmX3_set : Room := { frames := 2, cells := 0, slots := 0, locals := 43 }
theorem eeX3_set : yX3_set.cls = RX3 ∧ yX3_set.cls ≠ "java/lang/invoke/MethodHandle" ∧ yX3_set.cls ≠ "java/lang/invoke/VarHandle" ∧ (parseMethodDescriptor yX3_set.desc).map (fun d => d.parameters.length) = some 3 := by decide +kernel
theorem iwX3_set : ∀ w ∈ u_ws RX3 TX3 13, w ∈ wsX3_set := by decide +kernel
theorem flX3_set_13 : Cond.fieldLink RX3 13 "LoomPanelModel" "sizes" "[I" ∈ wsX3_set := by decide +kernel
theorem flX3_set_19 : Cond.fieldLink RX3 19 "LoomPanelModel" "numbers" "[J" ∈ wsX3_set := by decide +kernel
theorem flX3_set_7 : Cond.fieldLink RX3 7 "LoomPanelModel" "forms" "[I" ∈ wsX3_set := by decide +kernel
def f_X3_set (S : MS) (x1 : Int32) (x2 : Int32) (x3 : Int64) : Int32 × MS := if (f_X3_isValue S x1) = 0 then (((-3), S)) else (if (f_X3_isRow S x1) = 0 then (((-3), S)) else (if (f_X3_isIn x2 0 ((S.sizes x1.toNatClampNeg) - 1)) = 0 then (((-3), S)) else ((1, S.set_nums (vp_updL S.nums ((8 * x1) + x2).toNatClampNeg (f_X3_cut (S.forms x1.toNatClampNeg) x3))))))
set_option maxHeartbeats 4000000 in
set_option maxRecDepth 100000 in
theorem c_X3_set (l : Launch) (D : va_G) (cI cJ : ClassId) (a : Nat → Nat) (hd : ∀ i j, i < 10 → j < 10 → a i = a j → i = j) (S : MS) (x1 : Int32) (x2 : Int32) (x3 : Int64) : GWi l yX3_set wsX3_set rmX3_set [.ref (a 0), .int x1, .int x2, .long x3] D (mw_tys cI cJ) (mw cI cJ a) MInv (mA a) S (f_X3_set S x1 x2 x3) := by
  refine GB_of (cc := cX3_set) (maxL := 5) (ret := (some .int)) (by decide) rfl (Nat.le_of_ble_eq_true rfl) ?_
  intro p e s m below meth c C hP hI ls hl
  obtain ⟨hx, hb, hr, hlocks, hml, hown, hts, hK, hN⟩ := id C
  have hS : va_S (mA a) s.heap s.heap [] := va_S.rf
  have hl : lv_has ls 5 [(0, .ref (a 0)), (1, .int x1), (2, .int x2), (3, .long x3)] := hl
  refine lv_aload_n hx hb dX3_set_0 rfl (lv_at hl 0 rfl) ?_
  refine lv_iload_n hx hb dX3_set_1 rfl (lv_at hl 1 rfl) ?_
  refine g_Ri (As := [.int x1]) (rest := []) ⟨hx, hb, hml, hown, hts⟩ (c_X3_isValue l D cI cJ a hd S x1 ) (cwV 1 hts gX3_set_X3_isValue rfl rfl rfl eeX3_isValue ⟨Nat.le_of_ble_eq_true rfl, Nat.le_of_ble_eq_true rfl⟩) hK hN hP hI (va_recv hK hP (ci := 3) (q0 := 0) rfl rfl) hS rfl hl.1 rfl (Nat.le_of_ble_eq_true rfl) dX3_set_2 ⟨Nat.zero_le _, Nat.zero_le _⟩ (fun H locs hP hS => ?_)
  refine lv_if_eq (tgt := 32) hx hb dX3_set_5 (by decide) (fun c_5 => ?_) (fun c_5 => ?_)
  · skip
    refine lv_bipush (v := (-3)) hx hb dX3_set_32 (by decide) ?_
    exact r_Wi hx hb hr hlocks hP hI hS (by simp only [f_X3_set, if_pos c_5]) dX3_set_34
  · skip
    have hv := isValue_in hI c_5
    refine lv_aload_n hx hb dX3_set_8 rfl (lv_at hl 0 rfl) ?_
    refine lv_iload_n hx hb dX3_set_9 rfl (lv_at hl 1 rfl) ?_
    refine g_Ri (As := [.int x1]) (rest := []) ⟨hx, hb, hml, hown, hts⟩ (c_X3_isRow l D cI cJ a hd S x1 hv.2.1) (cwV 1 hts gX3_set_X3_isRow rfl rfl rfl eeX3_isRow ⟨Nat.le_of_ble_eq_true rfl, Nat.le_of_ble_eq_true rfl⟩) hK hN hP hI (va_recv hK hP (ci := 3) (q0 := 0) rfl rfl) hS rfl hl.1 rfl (Nat.le_of_ble_eq_true rfl) dX3_set_10 ⟨Nat.zero_le _, Nat.zero_le _⟩ (fun H locs hP hS => ?_)
    refine lv_if_eq (tgt := 32) hx hb dX3_set_13 (by decide) (fun c_13 => ?_) (fun c_13 => ?_)
    · skip
      refine lv_bipush (v := (-3)) hx hb dX3_set_32 (by decide) ?_
      exact r_Wi hx hb hr hlocks hP hI hS (by simp only [f_X3_set, if_neg c_5, if_pos c_13]) dX3_set_34
    · skip
      refine lv_iload_n hx hb dX3_set_16 rfl (lv_at hl 2 rfl) ?_
      refine lv_iconst (v := 0) hx hb dX3_set_17 (by decide) ?_
      refine lv_aload_n hx hb dX3_set_18 rfl (lv_at hl 0 rfl) ?_
      refine va_get (D := D) (ci := 3) (v := .ref (a 2)) (C := RX3) (T := TX3) (N := 13) hx hb hts iwX3_set hown hK hP 0 rfl rfl 2 (by decide) (hts (.fieldLink RX3 13 "LoomPanelModel" "sizes" "[I") flX3_set_13) (fun _ h9 => h9) rfl dX3_set_19 ?_
      refine lv_iload_n hx hb dX3_set_22 rfl (lv_at hl 1 rfl) ?_
      refine va_iald hx hb hK hP 2 0 (f := S.sizes) rfl rfl (in2 hv.1 hv.2.1) dX3_set_23 ?_
      refine lv_iconst (v := 1) hx hb dX3_set_24 (by decide) ?_
      refine lv_isub hx hb dX3_set_25 ?_
      refine g_Si (As := [.int x2, .int 0, .int ((S.sizes x1.toNatClampNeg) - 1)]) (rest := []) ⟨hx, hb, hml, hown, hts⟩ (c_X3_isIn l x2 0 ((S.sizes x1.toNatClampNeg) - 1)) (va_cwS 3 hts gX3_set_X3_isIn rfl rfl rfl esX3_isIn ⟨Nat.le_of_ble_eq_true rfl, Nat.le_of_ble_eq_true rfl⟩) hP hS rfl hl.1 rfl (Nat.le_of_ble_eq_true rfl) dX3_set_26 ⟨Nat.zero_le _, Nat.zero_le _⟩ (fun H locs hP hS => ?_)
      refine lv_if_ne (tgt := 35) hx hb dX3_set_29 (by decide) (fun c_29 => ?_) (fun c_29 => ?_)
      · skip
        refine lv_aload_n hx hb dX3_set_35 rfl (lv_at hl 0 rfl) ?_
        refine va_get (D := D) (ci := 3) (v := .ref (a 4)) (C := RX3) (T := TX3) (N := 13) hx hb hts iwX3_set hown hK hP 0 rfl rfl 4 (by decide) (hts (.fieldLink RX3 19 "LoomPanelModel" "numbers" "[J") flX3_set_19) (fun _ h9 => h9) rfl dX3_set_36 ?_
        refine lv_bipush (v := 8) hx hb dX3_set_39 (by decide) ?_
        refine lv_iload_n hx hb dX3_set_41 rfl (lv_at hl 1 rfl) ?_
        refine lv_imul hx hb dX3_set_42 ?_
        refine lv_iload_n hx hb dX3_set_43 rfl (lv_at hl 2 rfl) ?_
        refine lv_iadd hx hb dX3_set_44 ?_
        refine lv_aload_n hx hb dX3_set_45 rfl (lv_at hl 0 rfl) ?_
        refine va_get (D := D) (ci := 3) (v := .ref (a 1)) (C := RX3) (T := TX3) (N := 13) hx hb hts iwX3_set hown hK hP 0 rfl rfl 1 (by decide) (hts (.fieldLink RX3 7 "LoomPanelModel" "forms" "[I") flX3_set_7) (fun _ h9 => h9) rfl dX3_set_46 ?_
        refine lv_iload_n hx hb dX3_set_49 rfl (lv_at hl 1 rfl) ?_
        refine va_iald hx hb hK hP 1 0 (f := S.forms) rfl rfl (in2 hv.1 hv.2.1) dX3_set_50 ?_
        refine lv_lload_n hx hb dX3_set_51 rfl (lv_at hl 3 rfl) ?_
        refine g_Sl (As := [.int (S.forms x1.toNatClampNeg), .long x3]) (rest := [.int ((8 * x1) + x2), .ref (a 4)]) ⟨hx, hb, hml, hown, hts⟩ (c_X3_cut l (S.forms x1.toNatClampNeg) x3) (va_cwS 2 hts gX3_set_X3_cut rfl rfl rfl esX3_cut ⟨Nat.le_of_ble_eq_true rfl, Nat.le_of_ble_eq_true rfl⟩) hP hS rfl hl.1 rfl (Nat.le_of_ble_eq_true rfl) dX3_set_52 ⟨Nat.zero_le _, Nat.zero_le _⟩ (fun H locs hP hS => ?_)
        refine va_last hx hb hK hP (mw_D hd) hS 4 1 (f := S.nums) rfl rfl (ix8' (in2 hv.1 hv.2.1) (place_in hI c_29)) dX3_set_55 (fun H locs hP _ hS => ?_)
        have hP : va_P D vwCl (mw cI cJ a (S.set_nums (vp_updL S.nums ((8 * x1) + x2).toNatClampNeg (f_X3_cut (S.forms x1.toNatClampNeg) x3)))) H := by rw [← mw_set_nums]; exact hP
        have hI : MInv (S.set_nums (vp_updL S.nums ((8 * x1) + x2).toNatClampNeg (f_X3_cut (S.forms x1.toNatClampNeg) x3))) := MInv_set_nums hI
        refine lv_iconst (v := 1) hx hb dX3_set_56 (by decide) ?_
        exact r_Wi hx hb hr hlocks hP hI hS (by simp only [f_X3_set, if_neg c_5, if_neg c_13, if_neg c_29]) dX3_set_57
      · skip
        refine lv_bipush (v := (-3)) hx hb dX3_set_32 (by decide) ?_
        exact r_Wi hx hb hr hlocks hP hI hS (by simp only [f_X3_set, if_neg c_5, if_neg c_13, if_pos c_29]) dX3_set_34
abbrev rmX3_number : Room := { frames := 2, cells := 0, slots := 0, locals := 43 }
theorem eeX3_number : yX3_number.cls = RX3 ∧ yX3_number.cls ≠ "java/lang/invoke/MethodHandle" ∧ yX3_number.cls ≠ "java/lang/invoke/VarHandle" ∧ (parseMethodDescriptor yX3_number.desc).map (fun d => d.parameters.length) = some 2 := by decide +kernel
theorem iwX3_number : ∀ w ∈ u_ws RX3 TX3 13, w ∈ wsX3_number := by decide +kernel
theorem flX3_number_13 : Cond.fieldLink RX3 13 "LoomPanelModel" "sizes" "[I" ∈ wsX3_number := by decide +kernel
theorem flX3_number_16 : Cond.fieldLink RX3 16 "LoomPanelModel" "levels" "[I" ∈ wsX3_number := by decide +kernel
theorem flX3_number_19 : Cond.fieldLink RX3 19 "LoomPanelModel" "numbers" "[J" ∈ wsX3_number := by decide +kernel
def f_X3_number (S : MS) (x1 : Int32) (x2 : Int32) : Int64 := if (f_X3_isValue S x1) = 0 then (0) else (if (f_X3_isOf S x1 4) = 0 then (if (f_X3_isRow S x1) = 0 then (0) else (if (f_X3_isIn x2 0 ((S.sizes x1.toNatClampNeg) - 1)) = 0 then (0) else (S.nums ((8 * x1) + x2).toNatClampNeg))) else ((S.levels x1.toNatClampNeg).toInt64))
set_option maxHeartbeats 4000000 in
set_option maxRecDepth 100000 in
theorem c_X3_number (l : Launch) (D : va_G) (cI cJ : ClassId) (a : Nat → Nat) (hd : ∀ i j, i < 10 → j < 10 → a i = a j → i = j) (S : MS) (x1 : Int32) (x2 : Int32) : GRl l yX3_number wsX3_number rmX3_number [.ref (a 0), .int x1, .int x2] D (mw_tys cI cJ) (mw cI cJ a) MInv (mA a) S (f_X3_number S x1 x2) := by
  refine GB_of (cc := cX3_number) (maxL := 3) (ret := (some .long)) (by decide) rfl (Nat.le_of_ble_eq_true rfl) ?_
  intro p e s m below meth c C hP hI ls hl
  obtain ⟨hx, hb, hr, hlocks, hml, hown, hts, hK, hN⟩ := id C
  have hS : va_S (mA a) s.heap s.heap [] := va_S.rf
  have hl : lv_has ls 3 [(0, .ref (a 0)), (1, .int x1), (2, .int x2)] := hl
  refine lv_aload_n hx hb dX3_number_0 rfl (lv_at hl 0 rfl) ?_
  refine lv_iload_n hx hb dX3_number_1 rfl (lv_at hl 1 rfl) ?_
  refine g_Ri (As := [.int x1]) (rest := []) ⟨hx, hb, hml, hown, hts⟩ (c_X3_isValue l D cI cJ a hd S x1 ) (cwV 1 hts gX3_number_X3_isValue rfl rfl rfl eeX3_isValue ⟨Nat.le_of_ble_eq_true rfl, Nat.le_of_ble_eq_true rfl⟩) hK hN hP hI (va_recv hK hP (ci := 3) (q0 := 0) rfl rfl) hS rfl hl.1 rfl (Nat.le_of_ble_eq_true rfl) dX3_number_2 ⟨Nat.zero_le _, Nat.zero_le _⟩ (fun H locs hP hS => ?_)
  refine lv_if_ne (tgt := 10) hx hb dX3_number_5 (by decide) (fun c_5 => ?_) (fun c_5 => ?_)
  · skip
    have hv := isValue_in hI c_5
    refine lv_aload_n hx hb dX3_number_10 rfl (lv_at hl 0 rfl) ?_
    refine lv_iload_n hx hb dX3_number_11 rfl (lv_at hl 1 rfl) ?_
    refine lv_iconst (v := 4) hx hb dX3_number_12 (by decide) ?_
    refine g_Ri (As := [.int x1, .int 4]) (rest := []) ⟨hx, hb, hml, hown, hts⟩ (c_X3_isOf l D cI cJ a hd S x1 4 hv.2.1) (cwV 2 hts gX3_number_X3_isOf rfl rfl rfl eeX3_isOf ⟨Nat.le_of_ble_eq_true rfl, Nat.le_of_ble_eq_true rfl⟩) hK hN hP hI (va_recv hK hP (ci := 3) (q0 := 0) rfl rfl) hS rfl hl.1 rfl (Nat.le_of_ble_eq_true rfl) dX3_number_13 ⟨Nat.zero_le _, Nat.zero_le _⟩ (fun H locs hP hS => ?_)
    refine lv_if_eq (tgt := 27) hx hb dX3_number_16 (by decide) (fun c_16 => ?_) (fun c_16 => ?_)
    · skip
      refine lv_aload_n hx hb dX3_number_27 rfl (lv_at hl 0 rfl) ?_
      refine lv_iload_n hx hb dX3_number_28 rfl (lv_at hl 1 rfl) ?_
      refine g_Ri (As := [.int x1]) (rest := []) ⟨hx, hb, hml, hown, hts⟩ (c_X3_isRow l D cI cJ a hd S x1 hv.2.1) (cwV 1 hts gX3_number_X3_isRow rfl rfl rfl eeX3_isRow ⟨Nat.le_of_ble_eq_true rfl, Nat.le_of_ble_eq_true rfl⟩) hK hN hP hI (va_recv hK hP (ci := 3) (q0 := 0) rfl rfl) hS rfl hl.1 rfl (Nat.le_of_ble_eq_true rfl) dX3_number_29 ⟨Nat.zero_le _, Nat.zero_le _⟩ (fun H locs hP hS => ?_)
      refine lv_if_eq (tgt := 65) hx hb dX3_number_32 (by decide) (fun c_32 => ?_) (fun c_32 => ?_)
      · skip
        refine lv_lconst (v := 0) hx hb dX3_number_65 (by decide) ?_
        exact r_Rl hx hb hr hlocks hP hI hS (by simp only [f_X3_number, if_neg c_5, if_pos c_16, if_pos c_32]) dX3_number_66
      · skip
        refine lv_iload_n hx hb dX3_number_35 rfl (lv_at hl 2 rfl) ?_
        refine lv_iconst (v := 0) hx hb dX3_number_36 (by decide) ?_
        refine lv_aload_n hx hb dX3_number_37 rfl (lv_at hl 0 rfl) ?_
        refine va_get (D := D) (ci := 3) (v := .ref (a 2)) (C := RX3) (T := TX3) (N := 13) hx hb hts iwX3_number hown hK hP 0 rfl rfl 2 (by decide) (hts (.fieldLink RX3 13 "LoomPanelModel" "sizes" "[I") flX3_number_13) (fun _ h9 => h9) rfl dX3_number_38 ?_
        refine lv_iload_n hx hb dX3_number_41 rfl (lv_at hl 1 rfl) ?_
        refine va_iald hx hb hK hP 2 0 (f := S.sizes) rfl rfl (in2 hv.1 hv.2.1) dX3_number_42 ?_
        refine lv_iconst (v := 1) hx hb dX3_number_43 (by decide) ?_
        refine lv_isub hx hb dX3_number_44 ?_
        refine g_Si (As := [.int x2, .int 0, .int ((S.sizes x1.toNatClampNeg) - 1)]) (rest := []) ⟨hx, hb, hml, hown, hts⟩ (c_X3_isIn l x2 0 ((S.sizes x1.toNatClampNeg) - 1)) (va_cwS 3 hts gX3_number_X3_isIn rfl rfl rfl esX3_isIn ⟨Nat.le_of_ble_eq_true rfl, Nat.le_of_ble_eq_true rfl⟩) hP hS rfl hl.1 rfl (Nat.le_of_ble_eq_true rfl) dX3_number_45 ⟨Nat.zero_le _, Nat.zero_le _⟩ (fun H locs hP hS => ?_)
        refine lv_if_eq (tgt := 65) hx hb dX3_number_48 (by decide) (fun c_48 => ?_) (fun c_48 => ?_)
        · skip
          refine lv_lconst (v := 0) hx hb dX3_number_65 (by decide) ?_
          exact r_Rl hx hb hr hlocks hP hI hS (by simp only [f_X3_number, if_neg c_5, if_pos c_16, if_neg c_32, if_pos c_48]) dX3_number_66
        · skip
          refine lv_aload_n hx hb dX3_number_51 rfl (lv_at hl 0 rfl) ?_
          refine va_get (D := D) (ci := 3) (v := .ref (a 4)) (C := RX3) (T := TX3) (N := 13) hx hb hts iwX3_number hown hK hP 0 rfl rfl 4 (by decide) (hts (.fieldLink RX3 19 "LoomPanelModel" "numbers" "[J") flX3_number_19) (fun _ h9 => h9) rfl dX3_number_52 ?_
          refine lv_bipush (v := 8) hx hb dX3_number_55 (by decide) ?_
          refine lv_iload_n hx hb dX3_number_57 rfl (lv_at hl 1 rfl) ?_
          refine lv_imul hx hb dX3_number_58 ?_
          refine lv_iload_n hx hb dX3_number_59 rfl (lv_at hl 2 rfl) ?_
          refine lv_iadd hx hb dX3_number_60 ?_
          refine va_lald hx hb hK hP 4 1 (f := S.nums) rfl rfl (ix8' (in2 hv.1 hv.2.1) (place_in hI c_48)) dX3_number_61 ?_
          refine lv_goto (tgt := 66) hx hb dX3_number_62 (by decide) ?_
          exact r_Rl hx hb hr hlocks hP hI hS (by simp only [f_X3_number, if_neg c_5, if_pos c_16, if_neg c_32, if_neg c_48]) dX3_number_66
    · skip
      refine lv_aload_n hx hb dX3_number_19 rfl (lv_at hl 0 rfl) ?_
      refine va_get (D := D) (ci := 3) (v := .ref (a 3)) (C := RX3) (T := TX3) (N := 13) hx hb hts iwX3_number hown hK hP 0 rfl rfl 3 (by decide) (hts (.fieldLink RX3 16 "LoomPanelModel" "levels" "[I") flX3_number_16) (fun _ h9 => h9) rfl dX3_number_20 ?_
      refine lv_iload_n hx hb dX3_number_23 rfl (lv_at hl 1 rfl) ?_
      refine va_iald hx hb hK hP 3 0 (f := S.levels) rfl rfl (in2 hv.1 hv.2.1) dX3_number_24 ?_
      refine lv_i2l (v := (S.levels x1.toNatClampNeg).toInt64) hx hb dX3_number_25 rfl ?_
      exact r_Rl hx hb hr hlocks hP hI hS (by simp only [f_X3_number, if_neg c_5, if_neg c_16]) dX3_number_26
  · skip
    refine lv_lconst (v := 0) hx hb dX3_number_8 (by decide) ?_
    exact r_Rl hx hb hr hlocks hP hI hS (by simp only [f_X3_number, if_pos c_5]) dX3_number_9
abbrev rmX3_with : Room := { frames := 0, cells := 0, slots := 0, locals := 0 }
theorem esX3_with : yX3_with.cls ≠ "java/lang/invoke/MethodHandle" ∧ yX3_with.cls ≠ "java/lang/invoke/VarHandle" ∧ (parseMethodDescriptor yX3_with.desc).map (fun d => d.parameters.length) = some 1 := by decide +kernel
def f_X3_with (x0 : Int32) : Int32 := (-10) - x0
set_option maxHeartbeats 4000000 in
set_option maxRecDepth 100000 in
theorem c_X3_with (l : Launch) (x0 : Int32) : GSi l yX3_with wsX3_with rmX3_with [.int x0] (f_X3_with x0) := by
  refine GS_of (cc := cX3_with) (maxL := 1) (ret := (some .int)) (by decide) rfl (Nat.le_of_ble_eq_true rfl) ?_
  intro p e s m below meth c C ls hl
  obtain ⟨hx, hb, hr, hlocks, hml, hown, hts⟩ := id C
  have hl : lv_has ls 1 [(0, .int x0)] := hl
  refine lv_bipush (v := (-10)) hx hb dX3_with_0 (by decide) ?_
  refine lv_iload_n hx hb dX3_with_2 rfl (lv_at hl 0 rfl) ?_
  refine lv_isub hx hb dX3_with_3 ?_
  exact r_Si hx hb hr hlocks (by simp only [f_X3_with]) dX3_with_4
abbrev rmX3_hasPlaces : Room := { frames := 0, cells := 0, slots := 0, locals := 0 }
theorem eeX3_hasPlaces : yX3_hasPlaces.cls = RX3 ∧ yX3_hasPlaces.cls ≠ "java/lang/invoke/MethodHandle" ∧ yX3_hasPlaces.cls ≠ "java/lang/invoke/VarHandle" ∧ (parseMethodDescriptor yX3_hasPlaces.desc).map (fun d => d.parameters.length) = some 1 := by decide +kernel
theorem iwX3_hasPlaces : ∀ w ∈ u_ws RX3 TX3 13, w ∈ wsX3_hasPlaces := by decide +kernel
theorem flX3_hasPlaces_7 : Cond.fieldLink RX3 7 "LoomPanelModel" "forms" "[I" ∈ wsX3_hasPlaces := by decide +kernel
def f_X3_hasPlaces (S : MS) (x1 : Int32) : Int32 := if (S.forms x1.toNatClampNeg) = 3 then (1) else (if (S.forms x1.toNatClampNeg) < 6 then (0) else (1))
set_option maxHeartbeats 4000000 in
set_option maxRecDepth 100000 in
theorem c_X3_hasPlaces (l : Launch) (D : va_G) (cI cJ : ClassId) (a : Nat → Nat) (hd : ∀ i j, i < 10 → j < 10 → a i = a j → i = j) (S : MS) (x1 : Int32) (hvx : vp_in x1 60) : GRi l yX3_hasPlaces wsX3_hasPlaces rmX3_hasPlaces [.ref (a 0), .int x1] D (mw_tys cI cJ) (mw cI cJ a) MInv (mA a) S (f_X3_hasPlaces S x1) := by
  refine GB_of (cc := cX3_hasPlaces) (maxL := 2) (ret := (some .boolean)) (by decide) rfl (Nat.le_of_ble_eq_true rfl) ?_
  intro p e s m below meth c C hP hI ls hl
  obtain ⟨hx, hb, hr, hlocks, hml, hown, hts, hK, hN⟩ := id C
  have hS : va_S (mA a) s.heap s.heap [] := va_S.rf
  have hl : lv_has ls 2 [(0, .ref (a 0)), (1, .int x1)] := hl
  refine lv_aload_n hx hb dX3_hasPlaces_0 rfl (lv_at hl 0 rfl) ?_
  refine va_get (D := D) (ci := 3) (v := .ref (a 1)) (C := RX3) (T := TX3) (N := 13) hx hb hts iwX3_hasPlaces hown hK hP 0 rfl rfl 1 (by decide) (hts (.fieldLink RX3 7 "LoomPanelModel" "forms" "[I") flX3_hasPlaces_7) (fun _ h9 => h9) rfl dX3_hasPlaces_1 ?_
  refine lv_iload_n hx hb dX3_hasPlaces_4 rfl (lv_at hl 1 rfl) ?_
  refine va_iald hx hb hK hP 1 0 (f := S.forms) rfl rfl hvx dX3_hasPlaces_5 ?_
  refine lv_iconst (v := 3) hx hb dX3_hasPlaces_6 (by decide) ?_
  refine lv_icmp_eq (tgt := 21) hx hb dX3_hasPlaces_7 (by decide) (fun c_7 => ?_) (fun c_7 => ?_)
  · skip
    refine lv_iconst (v := 1) hx hb dX3_hasPlaces_21 (by decide) ?_
    refine lv_goto (tgt := 26) hx hb dX3_hasPlaces_22 (by decide) ?_
    exact r_Rz hx hb hr hlocks hP hI hS rfl (by simp only [f_X3_hasPlaces, if_pos c_7]) dX3_hasPlaces_26
  · skip
    refine lv_aload_n hx hb dX3_hasPlaces_10 rfl (lv_at hl 0 rfl) ?_
    refine va_get (D := D) (ci := 3) (v := .ref (a 1)) (C := RX3) (T := TX3) (N := 13) hx hb hts iwX3_hasPlaces hown hK hP 0 rfl rfl 1 (by decide) (hts (.fieldLink RX3 7 "LoomPanelModel" "forms" "[I") flX3_hasPlaces_7) (fun _ h9 => h9) rfl dX3_hasPlaces_11 ?_
    refine lv_iload_n hx hb dX3_hasPlaces_14 rfl (lv_at hl 1 rfl) ?_
    refine va_iald hx hb hK hP 1 0 (f := S.forms) rfl rfl hvx dX3_hasPlaces_15 ?_
    refine lv_bipush (v := 6) hx hb dX3_hasPlaces_16 (by decide) ?_
    refine lv_icmp_lt (tgt := 25) hx hb dX3_hasPlaces_18 (by decide) (fun c_18 => ?_) (fun c_18 => ?_)
    · skip
      refine lv_iconst (v := 0) hx hb dX3_hasPlaces_25 (by decide) ?_
      exact r_Rz hx hb hr hlocks hP hI hS rfl (by simp only [f_X3_hasPlaces, if_neg c_7, if_pos c_18]) dX3_hasPlaces_26
    · skip
      refine lv_iconst (v := 1) hx hb dX3_hasPlaces_21 (by decide) ?_
      refine lv_goto (tgt := 26) hx hb dX3_hasPlaces_22 (by decide) ?_
      exact r_Rz hx hb hr hlocks hP hI hS rfl (by simp only [f_X3_hasPlaces, if_neg c_7, if_neg c_18]) dX3_hasPlaces_26
abbrev rmX3_takes : Room := { frames := 2, cells := 0, slots := 0, locals := 43 }
theorem eeX3_takes : yX3_takes.cls = RX3 ∧ yX3_takes.cls ≠ "java/lang/invoke/MethodHandle" ∧ yX3_takes.cls ≠ "java/lang/invoke/VarHandle" ∧ (parseMethodDescriptor yX3_takes.desc).map (fun d => d.parameters.length) = some 2 := by decide +kernel
theorem iwX3_takes : ∀ w ∈ u_ws RX3 TX3 13, w ∈ wsX3_takes := by decide +kernel
theorem flX3_takes_7 : Cond.fieldLink RX3 7 "LoomPanelModel" "forms" "[I" ∈ wsX3_takes := by decide +kernel
def f_X3_takes (S : MS) (x1 : Int32) (x2 : Int32) : Int32 := if (S.forms x1.toNatClampNeg) = 3 then (f_X3_isOf S x2 1) else (if (S.forms x1.toNatClampNeg) = 4 then (f_X3_isOf S x2 7) else (if (S.forms x1.toNatClampNeg) = 5 then (f_X3_isOf S x2 7) else (if (S.forms x1.toNatClampNeg) = 6 then (f_X3_isOf S x2 4) else (if (S.forms x1.toNatClampNeg) = 7 then (f_X3_isOf S x2 5) else (if (S.forms x1.toNatClampNeg) = 8 then (f_X3_isOf S x2 11) else (if (S.forms x1.toNatClampNeg) = 9 then (f_X3_isOf S x2 6) else (f_X3_isOf S x2 7)))))))
set_option maxHeartbeats 4000000 in
set_option maxRecDepth 100000 in
theorem c_X3_takes (l : Launch) (D : va_G) (cI cJ : ClassId) (a : Nat → Nat) (hd : ∀ i j, i < 10 → j < 10 → a i = a j → i = j) (S : MS) (x1 : Int32) (x2 : Int32) (hvx : vp_in x1 60) (hy : x2.toInt < 60) : GRi l yX3_takes wsX3_takes rmX3_takes [.ref (a 0), .int x1, .int x2] D (mw_tys cI cJ) (mw cI cJ a) MInv (mA a) S (f_X3_takes S x1 x2) := by
  refine GB_of (cc := cX3_takes) (maxL := 3) (ret := (some .boolean)) (by decide) rfl (Nat.le_of_ble_eq_true rfl) ?_
  intro p e s m below meth c C hP hI ls hl
  obtain ⟨hx, hb, hr, hlocks, hml, hown, hts, hK, hN⟩ := id C
  have hS : va_S (mA a) s.heap s.heap [] := va_S.rf
  have hl : lv_has ls 3 [(0, .ref (a 0)), (1, .int x1), (2, .int x2)] := hl
  refine lv_aload_n hx hb dX3_takes_0 rfl (lv_at hl 0 rfl) ?_
  refine va_get (D := D) (ci := 3) (v := .ref (a 1)) (C := RX3) (T := TX3) (N := 13) hx hb hts iwX3_takes hown hK hP 0 rfl rfl 1 (by decide) (hts (.fieldLink RX3 7 "LoomPanelModel" "forms" "[I") flX3_takes_7) (fun _ h9 => h9) rfl dX3_takes_1 ?_
  refine lv_iload_n hx hb dX3_takes_4 rfl (lv_at hl 1 rfl) ?_
  refine va_iald hx hb hK hP 1 0 (f := S.forms) rfl rfl hvx dX3_takes_5 ?_
  by_cases c_6_3 : (S.forms x1.toNatClampNeg) = 3
  · refine lv_tableIn (tgt := 48) hx hb dX3_takes_6 (by rw [c_6_3]; decide) (by rw [c_6_3]; decide) (by rw [c_6_3]; rfl) (by decide) ?_
    refine lv_aload_n hx hb dX3_takes_48 rfl (lv_at hl 0 rfl) ?_
    refine lv_iload_n hx hb dX3_takes_49 rfl (lv_at hl 2 rfl) ?_
    refine lv_iconst (v := 1) hx hb dX3_takes_50 (by decide) ?_
    refine g_Ri (As := [.int x2, .int 1]) (rest := []) ⟨hx, hb, hml, hown, hts⟩ (c_X3_isOf l D cI cJ a hd S x2 1 hy) (cwV 2 hts gX3_takes_X3_isOf rfl rfl rfl eeX3_isOf ⟨Nat.le_of_ble_eq_true rfl, Nat.le_of_ble_eq_true rfl⟩) hK hN hP hI (va_recv hK hP (ci := 3) (q0 := 0) rfl rfl) hS rfl hl.1 rfl (Nat.le_of_ble_eq_true rfl) dX3_takes_51 ⟨Nat.zero_le _, Nat.zero_le _⟩ (fun H locs hP hS => ?_)
    exact r_Rz hx hb hr hlocks hP hI hS (b_nar (isOf_01 _ _ _)) (by simp only [f_X3_takes, if_pos c_6_3]) dX3_takes_54
  by_cases c_6_4 : (S.forms x1.toNatClampNeg) = 4
  · refine lv_tableIn (tgt := 85) hx hb dX3_takes_6 (by rw [c_6_4]; decide) (by rw [c_6_4]; decide) (by rw [c_6_4]; rfl) (by decide) ?_
    refine lv_aload_n hx hb dX3_takes_85 rfl (lv_at hl 0 rfl) ?_
    refine lv_iload_n hx hb dX3_takes_86 rfl (lv_at hl 2 rfl) ?_
    refine lv_bipush (v := 7) hx hb dX3_takes_87 (by decide) ?_
    refine g_Ri (As := [.int x2, .int 7]) (rest := []) ⟨hx, hb, hml, hown, hts⟩ (c_X3_isOf l D cI cJ a hd S x2 7 hy) (cwV 2 hts gX3_takes_X3_isOf rfl rfl rfl eeX3_isOf ⟨Nat.le_of_ble_eq_true rfl, Nat.le_of_ble_eq_true rfl⟩) hK hN hP hI (va_recv hK hP (ci := 3) (q0 := 0) rfl rfl) hS rfl hl.1 rfl (Nat.le_of_ble_eq_true rfl) dX3_takes_89 ⟨Nat.zero_le _, Nat.zero_le _⟩ (fun H locs hP hS => ?_)
    exact r_Rz hx hb hr hlocks hP hI hS (b_nar (isOf_01 _ _ _)) (by simp only [f_X3_takes, if_neg c_6_3, if_pos c_6_4]) dX3_takes_92
  by_cases c_6_5 : (S.forms x1.toNatClampNeg) = 5
  · refine lv_tableIn (tgt := 85) hx hb dX3_takes_6 (by rw [c_6_5]; decide) (by rw [c_6_5]; decide) (by rw [c_6_5]; rfl) (by decide) ?_
    refine lv_aload_n hx hb dX3_takes_85 rfl (lv_at hl 0 rfl) ?_
    refine lv_iload_n hx hb dX3_takes_86 rfl (lv_at hl 2 rfl) ?_
    refine lv_bipush (v := 7) hx hb dX3_takes_87 (by decide) ?_
    refine g_Ri (As := [.int x2, .int 7]) (rest := []) ⟨hx, hb, hml, hown, hts⟩ (c_X3_isOf l D cI cJ a hd S x2 7 hy) (cwV 2 hts gX3_takes_X3_isOf rfl rfl rfl eeX3_isOf ⟨Nat.le_of_ble_eq_true rfl, Nat.le_of_ble_eq_true rfl⟩) hK hN hP hI (va_recv hK hP (ci := 3) (q0 := 0) rfl rfl) hS rfl hl.1 rfl (Nat.le_of_ble_eq_true rfl) dX3_takes_89 ⟨Nat.zero_le _, Nat.zero_le _⟩ (fun H locs hP hS => ?_)
    exact r_Rz hx hb hr hlocks hP hI hS (b_nar (isOf_01 _ _ _)) (by simp only [f_X3_takes, if_neg c_6_3, if_neg c_6_4, if_pos c_6_5]) dX3_takes_92
  by_cases c_6_6 : (S.forms x1.toNatClampNeg) = 6
  · refine lv_tableIn (tgt := 55) hx hb dX3_takes_6 (by rw [c_6_6]; decide) (by rw [c_6_6]; decide) (by rw [c_6_6]; rfl) (by decide) ?_
    refine lv_aload_n hx hb dX3_takes_55 rfl (lv_at hl 0 rfl) ?_
    refine lv_iload_n hx hb dX3_takes_56 rfl (lv_at hl 2 rfl) ?_
    refine lv_iconst (v := 4) hx hb dX3_takes_57 (by decide) ?_
    refine g_Ri (As := [.int x2, .int 4]) (rest := []) ⟨hx, hb, hml, hown, hts⟩ (c_X3_isOf l D cI cJ a hd S x2 4 hy) (cwV 2 hts gX3_takes_X3_isOf rfl rfl rfl eeX3_isOf ⟨Nat.le_of_ble_eq_true rfl, Nat.le_of_ble_eq_true rfl⟩) hK hN hP hI (va_recv hK hP (ci := 3) (q0 := 0) rfl rfl) hS rfl hl.1 rfl (Nat.le_of_ble_eq_true rfl) dX3_takes_58 ⟨Nat.zero_le _, Nat.zero_le _⟩ (fun H locs hP hS => ?_)
    exact r_Rz hx hb hr hlocks hP hI hS (b_nar (isOf_01 _ _ _)) (by simp only [f_X3_takes, if_neg c_6_3, if_neg c_6_4, if_neg c_6_5, if_pos c_6_6]) dX3_takes_61
  by_cases c_6_7 : (S.forms x1.toNatClampNeg) = 7
  · refine lv_tableIn (tgt := 62) hx hb dX3_takes_6 (by rw [c_6_7]; decide) (by rw [c_6_7]; decide) (by rw [c_6_7]; rfl) (by decide) ?_
    refine lv_aload_n hx hb dX3_takes_62 rfl (lv_at hl 0 rfl) ?_
    refine lv_iload_n hx hb dX3_takes_63 rfl (lv_at hl 2 rfl) ?_
    refine lv_iconst (v := 5) hx hb dX3_takes_64 (by decide) ?_
    refine g_Ri (As := [.int x2, .int 5]) (rest := []) ⟨hx, hb, hml, hown, hts⟩ (c_X3_isOf l D cI cJ a hd S x2 5 hy) (cwV 2 hts gX3_takes_X3_isOf rfl rfl rfl eeX3_isOf ⟨Nat.le_of_ble_eq_true rfl, Nat.le_of_ble_eq_true rfl⟩) hK hN hP hI (va_recv hK hP (ci := 3) (q0 := 0) rfl rfl) hS rfl hl.1 rfl (Nat.le_of_ble_eq_true rfl) dX3_takes_65 ⟨Nat.zero_le _, Nat.zero_le _⟩ (fun H locs hP hS => ?_)
    exact r_Rz hx hb hr hlocks hP hI hS (b_nar (isOf_01 _ _ _)) (by simp only [f_X3_takes, if_neg c_6_3, if_neg c_6_4, if_neg c_6_5, if_neg c_6_6, if_pos c_6_7]) dX3_takes_68
  by_cases c_6_8 : (S.forms x1.toNatClampNeg) = 8
  · refine lv_tableIn (tgt := 69) hx hb dX3_takes_6 (by rw [c_6_8]; decide) (by rw [c_6_8]; decide) (by rw [c_6_8]; rfl) (by decide) ?_
    refine lv_aload_n hx hb dX3_takes_69 rfl (lv_at hl 0 rfl) ?_
    refine lv_iload_n hx hb dX3_takes_70 rfl (lv_at hl 2 rfl) ?_
    refine lv_bipush (v := 11) hx hb dX3_takes_71 (by decide) ?_
    refine g_Ri (As := [.int x2, .int 11]) (rest := []) ⟨hx, hb, hml, hown, hts⟩ (c_X3_isOf l D cI cJ a hd S x2 11 hy) (cwV 2 hts gX3_takes_X3_isOf rfl rfl rfl eeX3_isOf ⟨Nat.le_of_ble_eq_true rfl, Nat.le_of_ble_eq_true rfl⟩) hK hN hP hI (va_recv hK hP (ci := 3) (q0 := 0) rfl rfl) hS rfl hl.1 rfl (Nat.le_of_ble_eq_true rfl) dX3_takes_73 ⟨Nat.zero_le _, Nat.zero_le _⟩ (fun H locs hP hS => ?_)
    exact r_Rz hx hb hr hlocks hP hI hS (b_nar (isOf_01 _ _ _)) (by simp only [f_X3_takes, if_neg c_6_3, if_neg c_6_4, if_neg c_6_5, if_neg c_6_6, if_neg c_6_7, if_pos c_6_8]) dX3_takes_76
  by_cases c_6_9 : (S.forms x1.toNatClampNeg) = 9
  · refine lv_tableIn (tgt := 77) hx hb dX3_takes_6 (by rw [c_6_9]; decide) (by rw [c_6_9]; decide) (by rw [c_6_9]; rfl) (by decide) ?_
    refine lv_aload_n hx hb dX3_takes_77 rfl (lv_at hl 0 rfl) ?_
    refine lv_iload_n hx hb dX3_takes_78 rfl (lv_at hl 2 rfl) ?_
    refine lv_bipush (v := 6) hx hb dX3_takes_79 (by decide) ?_
    refine g_Ri (As := [.int x2, .int 6]) (rest := []) ⟨hx, hb, hml, hown, hts⟩ (c_X3_isOf l D cI cJ a hd S x2 6 hy) (cwV 2 hts gX3_takes_X3_isOf rfl rfl rfl eeX3_isOf ⟨Nat.le_of_ble_eq_true rfl, Nat.le_of_ble_eq_true rfl⟩) hK hN hP hI (va_recv hK hP (ci := 3) (q0 := 0) rfl rfl) hS rfl hl.1 rfl (Nat.le_of_ble_eq_true rfl) dX3_takes_81 ⟨Nat.zero_le _, Nat.zero_le _⟩ (fun H locs hP hS => ?_)
    exact r_Rz hx hb hr hlocks hP hI hS (b_nar (isOf_01 _ _ _)) (by simp only [f_X3_takes, if_neg c_6_3, if_neg c_6_4, if_neg c_6_5, if_neg c_6_6, if_neg c_6_7, if_neg c_6_8, if_pos c_6_9]) dX3_takes_84
  refine lv_tableOut (tgt := 85) hx hb dX3_takes_6 (by have := lv_neT (a := 3) c_6_3 (by decide); have := lv_neT (a := 4) c_6_4 (by decide); have := lv_neT (a := 5) c_6_5 (by decide); have := lv_neT (a := 6) c_6_6 (by decide); have := lv_neT (a := 7) c_6_7 (by decide); have := lv_neT (a := 8) c_6_8 (by decide); have := lv_neT (a := 9) c_6_9 (by decide); omega) (by decide) ?_
  refine lv_aload_n hx hb dX3_takes_85 rfl (lv_at hl 0 rfl) ?_
  refine lv_iload_n hx hb dX3_takes_86 rfl (lv_at hl 2 rfl) ?_
  refine lv_bipush (v := 7) hx hb dX3_takes_87 (by decide) ?_
  refine g_Ri (As := [.int x2, .int 7]) (rest := []) ⟨hx, hb, hml, hown, hts⟩ (c_X3_isOf l D cI cJ a hd S x2 7 hy) (cwV 2 hts gX3_takes_X3_isOf rfl rfl rfl eeX3_isOf ⟨Nat.le_of_ble_eq_true rfl, Nat.le_of_ble_eq_true rfl⟩) hK hN hP hI (va_recv hK hP (ci := 3) (q0 := 0) rfl rfl) hS rfl hl.1 rfl (Nat.le_of_ble_eq_true rfl) dX3_takes_89 ⟨Nat.zero_le _, Nat.zero_le _⟩ (fun H locs hP hS => ?_)
  exact r_Rz hx hb hr hlocks hP hI hS (b_nar (isOf_01 _ _ _)) (by simp only [f_X3_takes, if_neg c_6_3, if_neg c_6_4, if_neg c_6_5, if_neg c_6_6, if_neg c_6_7, if_neg c_6_8, if_neg c_6_9]) dX3_takes_92
