abbrev rmX2_row : Room := { frames := 2, cells := 0, slots := 0, locals := 45 }
theorem eeX2_row : yX2_row.cls = RX2 ∧ yX2_row.cls ≠ "java/lang/invoke/MethodHandle" ∧ yX2_row.cls ≠ "java/lang/invoke/VarHandle" ∧ (parseMethodDescriptor yX2_row.desc).map (fun d => d.parameters.length) = some 2 := by decide +kernel
theorem iwX2_row : ∀ w ∈ u_ws RX2 TX2 5, w ∈ wsX2_row := by decide +kernel
theorem flX2_row_10 : Cond.fieldLink RX2 10 "LoomPanel" "values" "LLoomPanel$Values;" ∈ wsX2_row := by decide +kernel
def f_X2_row (S : KS) (x1 : Int32) (x2 : Int32) : Int32 × KS := if x1 < 0 then (((-3), S)) else (if 2 < x1 then (((-3), S)) else (if (f_X2_isLength x2) = 0 then (((-3), S)) else (((f_X1_add S x1 x2).1, (f_X1_add S x1 x2).2))))
set_option maxHeartbeats 4000000 in
set_option maxRecDepth 100000 in
theorem c_X2_row (l : Launch) (D : va_G) (cI cJ : ClassId) (a : Nat → Nat) (hd : ∀ i j, i < 11 → j < 11 → a i = a j → i = j) (S : KS) (x1 : Int32) (x2 : Int32) : GWi l yX2_row wsX2_row rmX2_row [.ref (a 0), .int x1, .int x2] D (cw_tys cI cJ) (cw cI cJ a) KInv (kA a) S (f_X2_row S x1 x2) := by
  refine GB_of (cc := cX2_row) (maxL := 3) (ret := (some .int)) (by decide) rfl (Nat.le_of_ble_eq_true rfl) ?_
  intro p e s m below meth c C hP hI ls hl
  obtain ⟨hx, hb, hr, hlocks, hml, hown, hts, hK, hN⟩ := id C
  have hS : va_S (kA a) s.heap s.heap [] := va_S.rf
  have hl : lv_has ls 3 [(0, .ref (a 0)), (1, .int x1), (2, .int x2)] := hl
  refine lv_iload_n hx hb dX2_row_0 rfl (lv_at hl 1 rfl) ?_
  refine lv_if_lt (tgt := 16) hx hb dX2_row_1 (by decide) (fun c_1 => ?_) (fun c_1 => ?_)
  · skip
    refine lv_bipush (v := (-3)) hx hb dX2_row_16 (by decide) ?_
    exact r_Wi hx hb hr hlocks hP hI hS (by simp only [f_X2_row, if_pos c_1]) dX2_row_18
  · skip
    refine lv_iload_n hx hb dX2_row_4 rfl (lv_at hl 1 rfl) ?_
    refine lv_iconst (v := 2) hx hb dX2_row_5 (by decide) ?_
    refine lv_icmp_gt (tgt := 16) hx hb dX2_row_6 (by decide) (fun c_6 => ?_) (fun c_6 => ?_)
    · skip
      refine lv_bipush (v := (-3)) hx hb dX2_row_16 (by decide) ?_
      exact r_Wi hx hb hr hlocks hP hI hS (by simp only [f_X2_row, if_neg c_1, if_pos c_6]) dX2_row_18
    · skip
      refine lv_iload_n hx hb dX2_row_9 rfl (lv_at hl 2 rfl) ?_
      refine g_Si (As := [.int x2]) (rest := []) ⟨hx, hb, hml, hown, hts⟩ (c_X2_isLength l x2) (va_cwS 1 hts gX2_row_X2_isLength rfl rfl rfl esX2_isLength ⟨Nat.le_of_ble_eq_true rfl, Nat.le_of_ble_eq_true rfl⟩) hP hS rfl hl.1 rfl (Nat.le_of_ble_eq_true rfl) dX2_row_10 ⟨Nat.zero_le _, Nat.zero_le _⟩ (fun H locs hP hS => ?_)
      refine lv_if_ne (tgt := 19) hx hb dX2_row_13 (by decide) (fun c_13 => ?_) (fun c_13 => ?_)
      · skip
        refine lv_aload_n hx hb dX2_row_19 rfl (lv_at hl 0 rfl) ?_
        refine va_get (D := D) (ci := 2) (v := .ref (a 1)) (C := RX2) (T := TX2) (N := 5) hx hb hts iwX2_row hown hK hP 0 rfl rfl 0 (by decide) (hts (.fieldLink RX2 10 "LoomPanel" "values" "LLoomPanel$Values;") flX2_row_10) (fun _ h9 => h9) rfl dX2_row_20 ?_
        refine lv_iload_n hx hb dX2_row_23 rfl (lv_at hl 1 rfl) ?_
        refine lv_iload_n hx hb dX2_row_24 rfl (lv_at hl 2 rfl) ?_
        refine g_Wi (As := [.int x1, .int x2]) (rest := []) ⟨hx, hb, hml, hown, hts⟩ (c_X1_add l D cI cJ a hd S x1 x2 ) (cwV 2 hts gX2_row_X1_add rfl rfl rfl eeX1_add ⟨Nat.le_of_ble_eq_true rfl, Nat.le_of_ble_eq_true rfl⟩) hK hN hP hI (va_recv hK hP (ci := 1) (q0 := 1) rfl rfl) hS rfl hl.1 rfl (Nat.le_of_ble_eq_true rfl) dX2_row_25 ⟨Nat.zero_le _, Nat.zero_le _⟩ (fun H locs hI hP hS => ?_)
        exact r_Wi hx hb hr hlocks hP hI hS (by simp only [f_X2_row, if_neg c_1, if_neg c_6, if_neg c_13]) dX2_row_28
      · skip
        refine lv_bipush (v := (-3)) hx hb dX2_row_16 (by decide) ?_
        exact r_Wi hx hb hr hlocks hP hI hS (by simp only [f_X2_row, if_neg c_1, if_neg c_6, if_pos c_13]) dX2_row_18
abbrev rmX2_board : Room := { frames := 2, cells := 0, slots := 0, locals := 45 }
theorem eeX2_board : yX2_board.cls = RX2 ∧ yX2_board.cls ≠ "java/lang/invoke/MethodHandle" ∧ yX2_board.cls ≠ "java/lang/invoke/VarHandle" ∧ (parseMethodDescriptor yX2_board.desc).map (fun d => d.parameters.length) = some 2 := by decide +kernel
theorem iwX2_board : ∀ w ∈ u_ws RX2 TX2 5, w ∈ wsX2_board := by decide +kernel
theorem flX2_board_10 : Cond.fieldLink RX2 10 "LoomPanel" "values" "LLoomPanel$Values;" ∈ wsX2_board := by decide +kernel
def f_X2_board (S : KS) (x1 : Int32) (x2 : Int32) : Int32 × KS := if (f_X2_isBoardForm x1) = 0 then (((-3), S)) else (if (f_X2_isLength x2) = 0 then (((-3), S)) else (((f_X1_add S x1 x2).1, (f_X1_add S x1 x2).2)))
set_option maxHeartbeats 4000000 in
set_option maxRecDepth 100000 in
theorem c_X2_board (l : Launch) (D : va_G) (cI cJ : ClassId) (a : Nat → Nat) (hd : ∀ i j, i < 11 → j < 11 → a i = a j → i = j) (S : KS) (x1 : Int32) (x2 : Int32) : GWi l yX2_board wsX2_board rmX2_board [.ref (a 0), .int x1, .int x2] D (cw_tys cI cJ) (cw cI cJ a) KInv (kA a) S (f_X2_board S x1 x2) := by
  refine GB_of (cc := cX2_board) (maxL := 3) (ret := (some .int)) (by decide) rfl (Nat.le_of_ble_eq_true rfl) ?_
  intro p e s m below meth c C hP hI ls hl
  obtain ⟨hx, hb, hr, hlocks, hml, hown, hts, hK, hN⟩ := id C
  have hS : va_S (kA a) s.heap s.heap [] := va_S.rf
  have hl : lv_has ls 3 [(0, .ref (a 0)), (1, .int x1), (2, .int x2)] := hl
  refine lv_iload_n hx hb dX2_board_0 rfl (lv_at hl 1 rfl) ?_
  refine g_Si (As := [.int x1]) (rest := []) ⟨hx, hb, hml, hown, hts⟩ (c_X2_isBoardForm l x1) (va_cwS 1 hts gX2_board_X2_isBoardForm rfl rfl rfl esX2_isBoardForm ⟨Nat.le_of_ble_eq_true rfl, Nat.le_of_ble_eq_true rfl⟩) hP hS rfl hl.1 rfl (Nat.le_of_ble_eq_true rfl) dX2_board_1 ⟨Nat.zero_le _, Nat.zero_le _⟩ (fun H locs hP hS => ?_)
  refine lv_if_eq (tgt := 14) hx hb dX2_board_4 (by decide) (fun c_4 => ?_) (fun c_4 => ?_)
  · skip
    refine lv_bipush (v := (-3)) hx hb dX2_board_14 (by decide) ?_
    exact r_Wi hx hb hr hlocks hP hI hS (by simp only [f_X2_board, if_pos c_4]) dX2_board_16
  · skip
    refine lv_iload_n hx hb dX2_board_7 rfl (lv_at hl 2 rfl) ?_
    refine g_Si (As := [.int x2]) (rest := []) ⟨hx, hb, hml, hown, hts⟩ (c_X2_isLength l x2) (va_cwS 1 hts gX2_board_X2_isLength rfl rfl rfl esX2_isLength ⟨Nat.le_of_ble_eq_true rfl, Nat.le_of_ble_eq_true rfl⟩) hP hS rfl hl.1 rfl (Nat.le_of_ble_eq_true rfl) dX2_board_8 ⟨Nat.zero_le _, Nat.zero_le _⟩ (fun H locs hP hS => ?_)
    refine lv_if_ne (tgt := 17) hx hb dX2_board_11 (by decide) (fun c_11 => ?_) (fun c_11 => ?_)
    · skip
      refine lv_aload_n hx hb dX2_board_17 rfl (lv_at hl 0 rfl) ?_
      refine va_get (D := D) (ci := 2) (v := .ref (a 1)) (C := RX2) (T := TX2) (N := 5) hx hb hts iwX2_board hown hK hP 0 rfl rfl 0 (by decide) (hts (.fieldLink RX2 10 "LoomPanel" "values" "LLoomPanel$Values;") flX2_board_10) (fun _ h9 => h9) rfl dX2_board_18 ?_
      refine lv_iload_n hx hb dX2_board_21 rfl (lv_at hl 1 rfl) ?_
      refine lv_iload_n hx hb dX2_board_22 rfl (lv_at hl 2 rfl) ?_
      refine g_Wi (As := [.int x1, .int x2]) (rest := []) ⟨hx, hb, hml, hown, hts⟩ (c_X1_add l D cI cJ a hd S x1 x2 ) (cwV 2 hts gX2_board_X1_add rfl rfl rfl eeX1_add ⟨Nat.le_of_ble_eq_true rfl, Nat.le_of_ble_eq_true rfl⟩) hK hN hP hI (va_recv hK hP (ci := 1) (q0 := 1) rfl rfl) hS rfl hl.1 rfl (Nat.le_of_ble_eq_true rfl) dX2_board_23 ⟨Nat.zero_le _, Nat.zero_le _⟩ (fun H locs hI hP hS => ?_)
      exact r_Wi hx hb hr hlocks hP hI hS (by simp only [f_X2_board, if_neg c_4, if_neg c_11]) dX2_board_26
    · skip
      refine lv_bipush (v := (-3)) hx hb dX2_board_14 (by decide) ?_
      exact r_Wi hx hb hr hlocks hP hI hS (by simp only [f_X2_board, if_neg c_4, if_pos c_11]) dX2_board_16
abbrev rmX2_wire : Room := { frames := 3, cells := 0, slots := 0, locals := 68 }
theorem eeX2_wire : yX2_wire.cls = RX2 ∧ yX2_wire.cls ≠ "java/lang/invoke/MethodHandle" ∧ yX2_wire.cls ≠ "java/lang/invoke/VarHandle" ∧ (parseMethodDescriptor yX2_wire.desc).map (fun d => d.parameters.length) = some 2 := by decide +kernel
theorem iwX2_wire : ∀ w ∈ u_ws RX2 TX2 5, w ∈ wsX2_wire := by decide +kernel
theorem flX2_wire_10 : Cond.fieldLink RX2 10 "LoomPanel" "values" "LLoomPanel$Values;" ∈ wsX2_wire := by decide +kernel
def f_X2_wire (S : KS) (x1 : Int32) (x2 : Int32) : Int32 × KS := if x1 = 0 then (((f_X1_addWire S 4 x2).1, (f_X1_addWire S 4 x2).2)) else (((f_X1_addWire S 5 x2).1, (f_X1_addWire S 5 x2).2))
set_option maxHeartbeats 4000000 in
set_option maxRecDepth 100000 in
theorem c_X2_wire (l : Launch) (D : va_G) (cI cJ : ClassId) (a : Nat → Nat) (hd : ∀ i j, i < 11 → j < 11 → a i = a j → i = j) (S : KS) (x1 : Int32) (x2 : Int32) : GWi l yX2_wire wsX2_wire rmX2_wire [.ref (a 0), .int x1, .int x2] D (cw_tys cI cJ) (cw cI cJ a) KInv (kA a) S (f_X2_wire S x1 x2) := by
  refine GB_of (cc := cX2_wire) (maxL := 3) (ret := (some .int)) (by decide) rfl (Nat.le_of_ble_eq_true rfl) ?_
  intro p e s m below meth c C hP hI ls hl
  obtain ⟨hx, hb, hr, hlocks, hml, hown, hts, hK, hN⟩ := id C
  have hS : va_S (kA a) s.heap s.heap [] := va_S.rf
  have hl : lv_has ls 3 [(0, .ref (a 0)), (1, .int x1), (2, .int x2)] := hl
  refine lv_aload_n hx hb dX2_wire_0 rfl (lv_at hl 0 rfl) ?_
  refine va_get (D := D) (ci := 2) (v := .ref (a 1)) (C := RX2) (T := TX2) (N := 5) hx hb hts iwX2_wire hown hK hP 0 rfl rfl 0 (by decide) (hts (.fieldLink RX2 10 "LoomPanel" "values" "LLoomPanel$Values;") flX2_wire_10) (fun _ h9 => h9) rfl dX2_wire_1 ?_
  refine lv_iload_n hx hb dX2_wire_4 rfl (lv_at hl 1 rfl) ?_
  refine lv_if_eq (tgt := 12) hx hb dX2_wire_5 (by decide) (fun c_5 => ?_) (fun c_5 => ?_)
  · skip
    refine lv_iconst (v := 4) hx hb dX2_wire_12 (by decide) ?_
    refine lv_iload_n hx hb dX2_wire_13 rfl (lv_at hl 2 rfl) ?_
    refine g_Wi (As := [.int 4, .int x2]) (rest := []) ⟨hx, hb, hml, hown, hts⟩ (c_X1_addWire l D cI cJ a hd S 4 x2 ) (cwV 2 hts gX2_wire_X1_addWire rfl rfl rfl eeX1_addWire ⟨Nat.le_of_ble_eq_true rfl, Nat.le_of_ble_eq_true rfl⟩) hK hN hP hI (va_recv hK hP (ci := 1) (q0 := 1) rfl rfl) hS rfl hl.1 rfl (Nat.le_of_ble_eq_true rfl) dX2_wire_14 ⟨Nat.zero_le _, Nat.zero_le _⟩ (fun H locs hI hP hS => ?_)
    exact r_Wi hx hb hr hlocks hP hI hS (by simp only [f_X2_wire, if_pos c_5]) dX2_wire_17
  · skip
    refine lv_iconst (v := 5) hx hb dX2_wire_8 (by decide) ?_
    refine lv_goto (tgt := 13) hx hb dX2_wire_9 (by decide) ?_
    refine lv_iload_n hx hb dX2_wire_13 rfl (lv_at hl 2 rfl) ?_
    refine g_Wi (As := [.int 5, .int x2]) (rest := []) ⟨hx, hb, hml, hown, hts⟩ (c_X1_addWire l D cI cJ a hd S 5 x2 ) (cwV 2 hts gX2_wire_X1_addWire rfl rfl rfl eeX1_addWire ⟨Nat.le_of_ble_eq_true rfl, Nat.le_of_ble_eq_true rfl⟩) hK hN hP hI (va_recv hK hP (ci := 1) (q0 := 1) rfl rfl) hS rfl hl.1 rfl (Nat.le_of_ble_eq_true rfl) dX2_wire_14 ⟨Nat.zero_le _, Nat.zero_le _⟩ (fun H locs hI hP hS => ?_)
    exact r_Wi hx hb hr hlocks hP hI hS (by simp only [f_X2_wire, if_neg c_5]) dX2_wire_17
abbrev rmX2_set : Room := { frames := 2, cells := 0, slots := 0, locals := 46 }
theorem eeX2_set : yX2_set.cls = RX2 ∧ yX2_set.cls ≠ "java/lang/invoke/MethodHandle" ∧ yX2_set.cls ≠ "java/lang/invoke/VarHandle" ∧ (parseMethodDescriptor yX2_set.desc).map (fun d => d.parameters.length) = some 3 := by decide +kernel
theorem iwX2_set : ∀ w ∈ u_ws RX2 TX2 5, w ∈ wsX2_set := by decide +kernel
theorem flX2_set_10 : Cond.fieldLink RX2 10 "LoomPanel" "values" "LLoomPanel$Values;" ∈ wsX2_set := by decide +kernel
def f_X2_set (S : KS) (x1 : Int32) (x2 : Int32) (x3 : Int64) : Int32 × KS := if (f_X1_isNumbers S x1) = 0 then (((-3), S)) else (if (f_X1_hasPlace S x1 x2) = 0 then (((-3), S)) else ((1, f_X1_put S x1 x2 x3)))
set_option maxHeartbeats 4000000 in
set_option maxRecDepth 100000 in
theorem c_X2_set (l : Launch) (D : va_G) (cI cJ : ClassId) (a : Nat → Nat) (hd : ∀ i j, i < 11 → j < 11 → a i = a j → i = j) (S : KS) (x1 : Int32) (x2 : Int32) (x3 : Int64) : GWi l yX2_set wsX2_set rmX2_set [.ref (a 0), .int x1, .int x2, .long x3] D (cw_tys cI cJ) (cw cI cJ a) KInv (kA a) S (f_X2_set S x1 x2 x3) := by
  refine GB_of (cc := cX2_set) (maxL := 5) (ret := (some .int)) (by decide) rfl (Nat.le_of_ble_eq_true rfl) ?_
  intro p e s m below meth c C hP hI ls hl
  obtain ⟨hx, hb, hr, hlocks, hml, hown, hts, hK, hN⟩ := id C
  have hS : va_S (kA a) s.heap s.heap [] := va_S.rf
  have hl : lv_has ls 5 [(0, .ref (a 0)), (1, .int x1), (2, .int x2), (3, .long x3)] := hl
  refine lv_aload_n hx hb dX2_set_0 rfl (lv_at hl 0 rfl) ?_
  refine va_get (D := D) (ci := 2) (v := .ref (a 1)) (C := RX2) (T := TX2) (N := 5) hx hb hts iwX2_set hown hK hP 0 rfl rfl 0 (by decide) (hts (.fieldLink RX2 10 "LoomPanel" "values" "LLoomPanel$Values;") flX2_set_10) (fun _ h9 => h9) rfl dX2_set_1 ?_
  refine lv_iload_n hx hb dX2_set_4 rfl (lv_at hl 1 rfl) ?_
  refine g_Ri (As := [.int x1]) (rest := []) ⟨hx, hb, hml, hown, hts⟩ (c_X1_isNumbers l D cI cJ a hd S x1 ) (cwV 1 hts gX2_set_X1_isNumbers rfl rfl rfl eeX1_isNumbers ⟨Nat.le_of_ble_eq_true rfl, Nat.le_of_ble_eq_true rfl⟩) hK hN hP hI (va_recv hK hP (ci := 1) (q0 := 1) rfl rfl) hS rfl hl.1 rfl (Nat.le_of_ble_eq_true rfl) dX2_set_5 ⟨Nat.zero_le _, Nat.zero_le _⟩ (fun H locs hP hS => ?_)
  refine lv_if_eq (tgt := 23) hx hb dX2_set_8 (by decide) (fun c_8 => ?_) (fun c_8 => ?_)
  · skip
    refine lv_bipush (v := (-3)) hx hb dX2_set_23 (by decide) ?_
    exact r_Wi hx hb hr hlocks hP hI hS (by simp only [f_X2_set, if_pos c_8]) dX2_set_25
  · skip
    refine lv_aload_n hx hb dX2_set_11 rfl (lv_at hl 0 rfl) ?_
    refine va_get (D := D) (ci := 2) (v := .ref (a 1)) (C := RX2) (T := TX2) (N := 5) hx hb hts iwX2_set hown hK hP 0 rfl rfl 0 (by decide) (hts (.fieldLink RX2 10 "LoomPanel" "values" "LLoomPanel$Values;") flX2_set_10) (fun _ h9 => h9) rfl dX2_set_12 ?_
    refine lv_iload_n hx hb dX2_set_15 rfl (lv_at hl 1 rfl) ?_
    refine lv_iload_n hx hb dX2_set_16 rfl (lv_at hl 2 rfl) ?_
    refine g_Ri (As := [.int x1, .int x2]) (rest := []) ⟨hx, hb, hml, hown, hts⟩ (c_X1_hasPlace l D cI cJ a hd S x1 x2 ) (cwV 2 hts gX2_set_X1_hasPlace rfl rfl rfl eeX1_hasPlace ⟨Nat.le_of_ble_eq_true rfl, Nat.le_of_ble_eq_true rfl⟩) hK hN hP hI (va_recv hK hP (ci := 1) (q0 := 1) rfl rfl) hS rfl hl.1 rfl (Nat.le_of_ble_eq_true rfl) dX2_set_17 ⟨Nat.zero_le _, Nat.zero_le _⟩ (fun H locs hP hS => ?_)
    refine lv_if_ne (tgt := 26) hx hb dX2_set_20 (by decide) (fun c_20 => ?_) (fun c_20 => ?_)
    · skip
      refine lv_aload_n hx hb dX2_set_26 rfl (lv_at hl 0 rfl) ?_
      refine va_get (D := D) (ci := 2) (v := .ref (a 1)) (C := RX2) (T := TX2) (N := 5) hx hb hts iwX2_set hown hK hP 0 rfl rfl 0 (by decide) (hts (.fieldLink RX2 10 "LoomPanel" "values" "LLoomPanel$Values;") flX2_set_10) (fun _ h9 => h9) rfl dX2_set_27 ?_
      refine lv_iload_n hx hb dX2_set_30 rfl (lv_at hl 1 rfl) ?_
      refine lv_iload_n hx hb dX2_set_31 rfl (lv_at hl 2 rfl) ?_
      refine lv_lload_n hx hb dX2_set_32 rfl (lv_at hl 3 rfl) ?_
      refine g_Wv (As := [.int x1, .int x2, .long x3]) (rest := []) ⟨hx, hb, hml, hown, hts⟩ (c_X1_put l D cI cJ a hd S x1 x2 x3 ) (cwV 3 hts gX2_set_X1_put rfl rfl rfl eeX1_put ⟨Nat.le_of_ble_eq_true rfl, Nat.le_of_ble_eq_true rfl⟩) hK hN hP hI (va_recv hK hP (ci := 1) (q0 := 1) rfl rfl) hS rfl hl.1 rfl (Nat.le_of_ble_eq_true rfl) dX2_set_33 ⟨Nat.zero_le _, Nat.zero_le _⟩ (fun H locs hI hP hS => ?_)
      refine lv_iconst (v := 1) hx hb dX2_set_36 (by decide) ?_
      exact r_Wi hx hb hr hlocks hP hI hS (by simp only [f_X2_set, if_neg c_8, if_neg c_20]) dX2_set_37
    · skip
      refine lv_bipush (v := (-3)) hx hb dX2_set_23 (by decide) ?_
      exact r_Wi hx hb hr hlocks hP hI hS (by simp only [f_X2_set, if_neg c_8, if_pos c_20]) dX2_set_25
abbrev rmX2_number : Room := { frames := 2, cells := 0, slots := 0, locals := 44 }
theorem eeX2_number : yX2_number.cls = RX2 ∧ yX2_number.cls ≠ "java/lang/invoke/MethodHandle" ∧ yX2_number.cls ≠ "java/lang/invoke/VarHandle" ∧ (parseMethodDescriptor yX2_number.desc).map (fun d => d.parameters.length) = some 2 := by decide +kernel
theorem iwX2_number : ∀ w ∈ u_ws RX2 TX2 5, w ∈ wsX2_number := by decide +kernel
theorem flX2_number_10 : Cond.fieldLink RX2 10 "LoomPanel" "values" "LLoomPanel$Values;" ∈ wsX2_number := by decide +kernel
def f_X2_number (S : KS) (x1 : Int32) (x2 : Int32) : Int64 := if (f_X1_isA S x1 4) = 0 then (if (f_X1_isNumbers S x1) = 0 then (0) else (f_X1_cellOf S x1 x2)) else ((f_X1_levelOf S x1).toInt64)
set_option maxHeartbeats 4000000 in
set_option maxRecDepth 100000 in
theorem c_X2_number (l : Launch) (D : va_G) (cI cJ : ClassId) (a : Nat → Nat) (hd : ∀ i j, i < 11 → j < 11 → a i = a j → i = j) (S : KS) (x1 : Int32) (x2 : Int32) : GRl l yX2_number wsX2_number rmX2_number [.ref (a 0), .int x1, .int x2] D (cw_tys cI cJ) (cw cI cJ a) KInv (kA a) S (f_X2_number S x1 x2) := by
  refine GB_of (cc := cX2_number) (maxL := 3) (ret := (some .long)) (by decide) rfl (Nat.le_of_ble_eq_true rfl) ?_
  intro p e s m below meth c C hP hI ls hl
  obtain ⟨hx, hb, hr, hlocks, hml, hown, hts, hK, hN⟩ := id C
  have hS : va_S (kA a) s.heap s.heap [] := va_S.rf
  have hl : lv_has ls 3 [(0, .ref (a 0)), (1, .int x1), (2, .int x2)] := hl
  refine lv_aload_n hx hb dX2_number_0 rfl (lv_at hl 0 rfl) ?_
  refine va_get (D := D) (ci := 2) (v := .ref (a 1)) (C := RX2) (T := TX2) (N := 5) hx hb hts iwX2_number hown hK hP 0 rfl rfl 0 (by decide) (hts (.fieldLink RX2 10 "LoomPanel" "values" "LLoomPanel$Values;") flX2_number_10) (fun _ h9 => h9) rfl dX2_number_1 ?_
  refine lv_iload_n hx hb dX2_number_4 rfl (lv_at hl 1 rfl) ?_
  refine lv_iconst (v := 4) hx hb dX2_number_5 (by decide) ?_
  refine g_Ri (As := [.int x1, .int 4]) (rest := []) ⟨hx, hb, hml, hown, hts⟩ (c_X1_isA l D cI cJ a hd S x1 4 ) (cwV 2 hts gX2_number_X1_isA rfl rfl rfl eeX1_isA ⟨Nat.le_of_ble_eq_true rfl, Nat.le_of_ble_eq_true rfl⟩) hK hN hP hI (va_recv hK hP (ci := 1) (q0 := 1) rfl rfl) hS rfl hl.1 rfl (Nat.le_of_ble_eq_true rfl) dX2_number_6 ⟨Nat.zero_le _, Nat.zero_le _⟩ (fun H locs hP hS => ?_)
  refine lv_if_eq (tgt := 22) hx hb dX2_number_9 (by decide) (fun c_9 => ?_) (fun c_9 => ?_)
  · skip
    refine lv_aload_n hx hb dX2_number_22 rfl (lv_at hl 0 rfl) ?_
    refine va_get (D := D) (ci := 2) (v := .ref (a 1)) (C := RX2) (T := TX2) (N := 5) hx hb hts iwX2_number hown hK hP 0 rfl rfl 0 (by decide) (hts (.fieldLink RX2 10 "LoomPanel" "values" "LLoomPanel$Values;") flX2_number_10) (fun _ h9 => h9) rfl dX2_number_23 ?_
    refine lv_iload_n hx hb dX2_number_26 rfl (lv_at hl 1 rfl) ?_
    refine g_Ri (As := [.int x1]) (rest := []) ⟨hx, hb, hml, hown, hts⟩ (c_X1_isNumbers l D cI cJ a hd S x1 ) (cwV 1 hts gX2_number_X1_isNumbers rfl rfl rfl eeX1_isNumbers ⟨Nat.le_of_ble_eq_true rfl, Nat.le_of_ble_eq_true rfl⟩) hK hN hP hI (va_recv hK hP (ci := 1) (q0 := 1) rfl rfl) hS rfl hl.1 rfl (Nat.le_of_ble_eq_true rfl) dX2_number_27 ⟨Nat.zero_le _, Nat.zero_le _⟩ (fun H locs hP hS => ?_)
    refine lv_if_eq (tgt := 45) hx hb dX2_number_30 (by decide) (fun c_30 => ?_) (fun c_30 => ?_)
    · skip
      refine lv_lconst (v := 0) hx hb dX2_number_45 (by decide) ?_
      exact r_Rl hx hb hr hlocks hP hI hS (by simp only [f_X2_number, if_pos c_9, if_pos c_30]) dX2_number_46
    · skip
      refine lv_aload_n hx hb dX2_number_33 rfl (lv_at hl 0 rfl) ?_
      refine va_get (D := D) (ci := 2) (v := .ref (a 1)) (C := RX2) (T := TX2) (N := 5) hx hb hts iwX2_number hown hK hP 0 rfl rfl 0 (by decide) (hts (.fieldLink RX2 10 "LoomPanel" "values" "LLoomPanel$Values;") flX2_number_10) (fun _ h9 => h9) rfl dX2_number_34 ?_
      refine lv_iload_n hx hb dX2_number_37 rfl (lv_at hl 1 rfl) ?_
      refine lv_iload_n hx hb dX2_number_38 rfl (lv_at hl 2 rfl) ?_
      refine g_Rl (As := [.int x1, .int x2]) (rest := []) ⟨hx, hb, hml, hown, hts⟩ (c_X1_cellOf l D cI cJ a hd S x1 x2 ) (cwV 2 hts gX2_number_X1_cellOf rfl rfl rfl eeX1_cellOf ⟨Nat.le_of_ble_eq_true rfl, Nat.le_of_ble_eq_true rfl⟩) hK hN hP hI (va_recv hK hP (ci := 1) (q0 := 1) rfl rfl) hS rfl hl.1 rfl (Nat.le_of_ble_eq_true rfl) dX2_number_39 ⟨Nat.zero_le _, Nat.zero_le _⟩ (fun H locs hP hS => ?_)
      refine lv_goto (tgt := 46) hx hb dX2_number_42 (by decide) ?_
      exact r_Rl hx hb hr hlocks hP hI hS (by simp only [f_X2_number, if_pos c_9, if_neg c_30]) dX2_number_46
  · skip
    refine lv_aload_n hx hb dX2_number_12 rfl (lv_at hl 0 rfl) ?_
    refine va_get (D := D) (ci := 2) (v := .ref (a 1)) (C := RX2) (T := TX2) (N := 5) hx hb hts iwX2_number hown hK hP 0 rfl rfl 0 (by decide) (hts (.fieldLink RX2 10 "LoomPanel" "values" "LLoomPanel$Values;") flX2_number_10) (fun _ h9 => h9) rfl dX2_number_13 ?_
    refine lv_iload_n hx hb dX2_number_16 rfl (lv_at hl 1 rfl) ?_
    refine g_Ri (As := [.int x1]) (rest := []) ⟨hx, hb, hml, hown, hts⟩ (c_X1_levelOf l D cI cJ a hd S x1 ) (cwV 1 hts gX2_number_X1_levelOf rfl rfl rfl eeX1_levelOf ⟨Nat.le_of_ble_eq_true rfl, Nat.le_of_ble_eq_true rfl⟩) hK hN hP hI (va_recv hK hP (ci := 1) (q0 := 1) rfl rfl) hS rfl hl.1 rfl (Nat.le_of_ble_eq_true rfl) dX2_number_17 ⟨Nat.zero_le _, Nat.zero_le _⟩ (fun H locs hP hS => ?_)
    refine lv_i2l (v := (f_X1_levelOf S x1).toInt64) hx hb dX2_number_20 rfl ?_
    exact r_Rl hx hb hr hlocks hP hI hS (by simp only [f_X2_number, if_neg c_9]) dX2_number_21
abbrev rmX2_fault : Room := { frames := 0, cells := 0, slots := 0, locals := 0 }
theorem esX2_fault : yX2_fault.cls ≠ "java/lang/invoke/MethodHandle" ∧ yX2_fault.cls ≠ "java/lang/invoke/VarHandle" ∧ (parseMethodDescriptor yX2_fault.desc).map (fun d => d.parameters.length) = some 1 := by decide +kernel
def f_X2_fault (x0 : Int32) : Int32 := (-10) - x0
set_option maxHeartbeats 4000000 in
set_option maxRecDepth 100000 in
theorem c_X2_fault (l : Launch) (x0 : Int32) : GSi l yX2_fault wsX2_fault rmX2_fault [.int x0] (f_X2_fault x0) := by
  refine GS_of (cc := cX2_fault) (maxL := 1) (ret := (some .int)) (by decide) rfl (Nat.le_of_ble_eq_true rfl) ?_
  intro p e s m below meth c C ls hl
  obtain ⟨hx, hb, hr, hlocks, hml, hown, hts⟩ := id C
  have hl : lv_has ls 1 [(0, .int x0)] := hl
  refine lv_bipush (v := (-10)) hx hb dX2_fault_0 (by decide) ?_
  refine lv_iload_n hx hb dX2_fault_2 rfl (lv_at hl 0 rfl) ?_
  refine lv_isub hx hb dX2_fault_3 ?_
  exact r_Si hx hb hr hlocks (by simp only [f_X2_fault]) dX2_fault_4
abbrev rmX2_isNoneOr : Room := { frames := 2, cells := 0, slots := 0, locals := 43 }
theorem eeX2_isNoneOr : yX2_isNoneOr.cls = RX2 ∧ yX2_isNoneOr.cls ≠ "java/lang/invoke/MethodHandle" ∧ yX2_isNoneOr.cls ≠ "java/lang/invoke/VarHandle" ∧ (parseMethodDescriptor yX2_isNoneOr.desc).map (fun d => d.parameters.length) = some 2 := by decide +kernel
theorem iwX2_isNoneOr : ∀ w ∈ u_ws RX2 TX2 5, w ∈ wsX2_isNoneOr := by decide +kernel
theorem flX2_isNoneOr_10 : Cond.fieldLink RX2 10 "LoomPanel" "values" "LLoomPanel$Values;" ∈ wsX2_isNoneOr := by decide +kernel
def f_X2_isNoneOr (S : KS) (x1 : Int32) (x2 : Int32) : Int32 := if x1 = (-1) then (1) else (if (f_X1_isA S x1 x2) = 0 then (0) else (1))
set_option maxHeartbeats 4000000 in
set_option maxRecDepth 100000 in
theorem c_X2_isNoneOr (l : Launch) (D : va_G) (cI cJ : ClassId) (a : Nat → Nat) (hd : ∀ i j, i < 11 → j < 11 → a i = a j → i = j) (S : KS) (x1 : Int32) (x2 : Int32) : GRi l yX2_isNoneOr wsX2_isNoneOr rmX2_isNoneOr [.ref (a 0), .int x1, .int x2] D (cw_tys cI cJ) (cw cI cJ a) KInv (kA a) S (f_X2_isNoneOr S x1 x2) := by
  refine GB_of (cc := cX2_isNoneOr) (maxL := 3) (ret := (some .boolean)) (by decide) rfl (Nat.le_of_ble_eq_true rfl) ?_
  intro p e s m below meth c C hP hI ls hl
  obtain ⟨hx, hb, hr, hlocks, hml, hown, hts, hK, hN⟩ := id C
  have hS : va_S (kA a) s.heap s.heap [] := va_S.rf
  have hl : lv_has ls 3 [(0, .ref (a 0)), (1, .int x1), (2, .int x2)] := hl
  refine lv_iload_n hx hb dX2_isNoneOr_0 rfl (lv_at hl 1 rfl) ?_
  refine lv_iconst (v := (-1)) hx hb dX2_isNoneOr_1 (by decide) ?_
  refine lv_icmp_eq (tgt := 17) hx hb dX2_isNoneOr_2 (by decide) (fun c_2 => ?_) (fun c_2 => ?_)
  · skip
    refine lv_iconst (v := 1) hx hb dX2_isNoneOr_17 (by decide) ?_
    refine lv_goto (tgt := 22) hx hb dX2_isNoneOr_18 (by decide) ?_
    exact r_Rz hx hb hr hlocks hP hI hS rfl (by simp only [f_X2_isNoneOr, if_pos c_2]) dX2_isNoneOr_22
  · skip
    refine lv_aload_n hx hb dX2_isNoneOr_5 rfl (lv_at hl 0 rfl) ?_
    refine va_get (D := D) (ci := 2) (v := .ref (a 1)) (C := RX2) (T := TX2) (N := 5) hx hb hts iwX2_isNoneOr hown hK hP 0 rfl rfl 0 (by decide) (hts (.fieldLink RX2 10 "LoomPanel" "values" "LLoomPanel$Values;") flX2_isNoneOr_10) (fun _ h9 => h9) rfl dX2_isNoneOr_6 ?_
    refine lv_iload_n hx hb dX2_isNoneOr_9 rfl (lv_at hl 1 rfl) ?_
    refine lv_iload_n hx hb dX2_isNoneOr_10 rfl (lv_at hl 2 rfl) ?_
    refine g_Ri (As := [.int x1, .int x2]) (rest := []) ⟨hx, hb, hml, hown, hts⟩ (c_X1_isA l D cI cJ a hd S x1 x2 ) (cwV 2 hts gX2_isNoneOr_X1_isA rfl rfl rfl eeX1_isA ⟨Nat.le_of_ble_eq_true rfl, Nat.le_of_ble_eq_true rfl⟩) hK hN hP hI (va_recv hK hP (ci := 1) (q0 := 1) rfl rfl) hS rfl hl.1 rfl (Nat.le_of_ble_eq_true rfl) dX2_isNoneOr_11 ⟨Nat.zero_le _, Nat.zero_le _⟩ (fun H locs hP hS => ?_)
    refine lv_if_eq (tgt := 21) hx hb dX2_isNoneOr_14 (by decide) (fun c_14 => ?_) (fun c_14 => ?_)
    · skip
      refine lv_iconst (v := 0) hx hb dX2_isNoneOr_21 (by decide) ?_
      exact r_Rz hx hb hr hlocks hP hI hS rfl (by simp only [f_X2_isNoneOr, if_neg c_2, if_pos c_14]) dX2_isNoneOr_22
    · skip
      refine lv_iconst (v := 1) hx hb dX2_isNoneOr_17 (by decide) ?_
      refine lv_goto (tgt := 22) hx hb dX2_isNoneOr_18 (by decide) ?_
      exact r_Rz hx hb hr hlocks hP hI hS rfl (by simp only [f_X2_isNoneOr, if_neg c_2, if_neg c_14]) dX2_isNoneOr_22
abbrev rmX2_isView : Room := { frames := 0, cells := 0, slots := 0, locals := 0 }
theorem esX2_isView : yX2_isView.cls ≠ "java/lang/invoke/MethodHandle" ∧ yX2_isView.cls ≠ "java/lang/invoke/VarHandle" ∧ (parseMethodDescriptor yX2_isView.desc).map (fun d => d.parameters.length) = some 1 := by decide +kernel
def f_X2_isView (x0 : Int32) : Int32 := if x0 < 0 then (0) else (if 11 < x0 then (0) else (1))
set_option maxHeartbeats 4000000 in
set_option maxRecDepth 100000 in
theorem c_X2_isView (l : Launch) (x0 : Int32) : GSi l yX2_isView wsX2_isView rmX2_isView [.int x0] (f_X2_isView x0) := by
  refine GS_of (cc := cX2_isView) (maxL := 1) (ret := (some .boolean)) (by decide) rfl (Nat.le_of_ble_eq_true rfl) ?_
  intro p e s m below meth c C ls hl
  obtain ⟨hx, hb, hr, hlocks, hml, hown, hts⟩ := id C
  have hl : lv_has ls 1 [(0, .int x0)] := hl
  refine lv_iload_n hx hb dX2_isView_0 rfl (lv_at hl 0 rfl) ?_
  refine lv_if_lt (tgt := 14) hx hb dX2_isView_1 (by decide) (fun c_1 => ?_) (fun c_1 => ?_)
  · skip
    refine lv_iconst (v := 0) hx hb dX2_isView_14 (by decide) ?_
    exact r_Sz hx hb hr hlocks rfl (by simp only [f_X2_isView, if_pos c_1]) dX2_isView_15
  · skip
    refine lv_iload_n hx hb dX2_isView_4 rfl (lv_at hl 0 rfl) ?_
    refine lv_bipush (v := 11) hx hb dX2_isView_5 (by decide) ?_
    refine lv_icmp_gt (tgt := 14) hx hb dX2_isView_7 (by decide) (fun c_7 => ?_) (fun c_7 => ?_)
    · skip
      refine lv_iconst (v := 0) hx hb dX2_isView_14 (by decide) ?_
      exact r_Sz hx hb hr hlocks rfl (by simp only [f_X2_isView, if_neg c_1, if_pos c_7]) dX2_isView_15
    · skip
      refine lv_iconst (v := 1) hx hb dX2_isView_10 (by decide) ?_
      refine lv_goto (tgt := 15) hx hb dX2_isView_11 (by decide) ?_
      exact r_Sz hx hb hr hlocks rfl (by simp only [f_X2_isView, if_neg c_1, if_neg c_7]) dX2_isView_15
abbrev rmX2_check : Room := { frames := 3, cells := 0, slots := 0, locals := 65 }
theorem eeX2_check : yX2_check.cls = RX2 ∧ yX2_check.cls ≠ "java/lang/invoke/MethodHandle" ∧ yX2_check.cls ≠ "java/lang/invoke/VarHandle" ∧ (parseMethodDescriptor yX2_check.desc).map (fun d => d.parameters.length) = some 2 := by decide +kernel
def f_X2_check (S : KS) (x1 : Int32) (x2 : Int32) : Int32 := if (f_X2_isView x2) = 0 then (f_X2_fault 1) else (if (f_X2_isNoneOr S x1 x2) = 0 then (f_X2_fault 1) else (x1))
set_option maxHeartbeats 4000000 in
set_option maxRecDepth 100000 in
theorem c_X2_check (l : Launch) (D : va_G) (cI cJ : ClassId) (a : Nat → Nat) (hd : ∀ i j, i < 11 → j < 11 → a i = a j → i = j) (S : KS) (x1 : Int32) (x2 : Int32) : GRi l yX2_check wsX2_check rmX2_check [.ref (a 0), .int x1, .int x2] D (cw_tys cI cJ) (cw cI cJ a) KInv (kA a) S (f_X2_check S x1 x2) := by
  refine GB_of (cc := cX2_check) (maxL := 3) (ret := (some .int)) (by decide) rfl (Nat.le_of_ble_eq_true rfl) ?_
  intro p e s m below meth c C hP hI ls hl
  obtain ⟨hx, hb, hr, hlocks, hml, hown, hts, hK, hN⟩ := id C
  have hS : va_S (kA a) s.heap s.heap [] := va_S.rf
  have hl : lv_has ls 3 [(0, .ref (a 0)), (1, .int x1), (2, .int x2)] := hl
  refine lv_iload_n hx hb dX2_check_0 rfl (lv_at hl 2 rfl) ?_
  refine g_Si (As := [.int x2]) (rest := []) ⟨hx, hb, hml, hown, hts⟩ (c_X2_isView l x2) (va_cwS 1 hts gX2_check_X2_isView rfl rfl rfl esX2_isView ⟨Nat.le_of_ble_eq_true rfl, Nat.le_of_ble_eq_true rfl⟩) hP hS rfl hl.1 rfl (Nat.le_of_ble_eq_true rfl) dX2_check_1 ⟨Nat.zero_le _, Nat.zero_le _⟩ (fun H locs hP hS => ?_)
  refine lv_if_eq (tgt := 20) hx hb dX2_check_4 (by decide) (fun c_4 => ?_) (fun c_4 => ?_)
  · skip
    refine lv_iconst (v := 1) hx hb dX2_check_20 (by decide) ?_
    refine g_Si (As := [.int 1]) (rest := []) ⟨hx, hb, hml, hown, hts⟩ (c_X2_fault l 1) (va_cwS 1 hts gX2_check_X2_fault rfl rfl rfl esX2_fault ⟨Nat.le_of_ble_eq_true rfl, Nat.le_of_ble_eq_true rfl⟩) hP hS rfl hl.1 rfl (Nat.le_of_ble_eq_true rfl) dX2_check_21 ⟨Nat.zero_le _, Nat.zero_le _⟩ (fun H locs hP hS => ?_)
    exact r_Ri hx hb hr hlocks hP hI hS (by simp only [f_X2_check, if_pos c_4]) dX2_check_24
  · skip
    refine lv_aload_n hx hb dX2_check_7 rfl (lv_at hl 0 rfl) ?_
    refine lv_iload_n hx hb dX2_check_8 rfl (lv_at hl 1 rfl) ?_
    refine lv_iload_n hx hb dX2_check_9 rfl (lv_at hl 2 rfl) ?_
    refine g_Ri (As := [.int x1, .int x2]) (rest := []) ⟨hx, hb, hml, hown, hts⟩ (c_X2_isNoneOr l D cI cJ a hd S x1 x2 ) (cwV 2 hts gX2_check_X2_isNoneOr rfl rfl rfl eeX2_isNoneOr ⟨Nat.le_of_ble_eq_true rfl, Nat.le_of_ble_eq_true rfl⟩) hK hN hP hI (va_recv hK hP (ci := 2) (q0 := 0) rfl rfl) hS rfl hl.1 rfl (Nat.le_of_ble_eq_true rfl) dX2_check_10 ⟨Nat.zero_le _, Nat.zero_le _⟩ (fun H locs hP hS => ?_)
    refine lv_if_eq (tgt := 20) hx hb dX2_check_13 (by decide) (fun c_13 => ?_) (fun c_13 => ?_)
    · skip
      refine lv_iconst (v := 1) hx hb dX2_check_20 (by decide) ?_
      refine g_Si (As := [.int 1]) (rest := []) ⟨hx, hb, hml, hown, hts⟩ (c_X2_fault l 1) (va_cwS 1 hts gX2_check_X2_fault rfl rfl rfl esX2_fault ⟨Nat.le_of_ble_eq_true rfl, Nat.le_of_ble_eq_true rfl⟩) hP hS rfl hl.1 rfl (Nat.le_of_ble_eq_true rfl) dX2_check_21 ⟨Nat.zero_le _, Nat.zero_le _⟩ (fun H locs hP hS => ?_)
      exact r_Ri hx hb hr hlocks hP hI hS (by simp only [f_X2_check, if_neg c_4, if_pos c_13]) dX2_check_24
    · skip
      refine lv_iload_n hx hb dX2_check_16 rfl (lv_at hl 1 rfl) ?_
      refine lv_goto (tgt := 24) hx hb dX2_check_17 (by decide) ?_
      exact r_Ri hx hb hr hlocks hP hI hS (by simp only [f_X2_check, if_neg c_4, if_neg c_13]) dX2_check_24
abbrev rmX2_copy : Room := { frames := 4, cells := 0, slots := 0, locals := 94 }
theorem eeX2_copy : yX2_copy.cls = RX2 ∧ yX2_copy.cls ≠ "java/lang/invoke/MethodHandle" ∧ yX2_copy.cls ≠ "java/lang/invoke/VarHandle" ∧ (parseMethodDescriptor yX2_copy.desc).map (fun d => d.parameters.length) = some 1 := by decide +kernel
theorem iwX2_copy : ∀ w ∈ u_ws RX2 TX2 5, w ∈ wsX2_copy := by decide +kernel
theorem flX2_copy_10 : Cond.fieldLink RX2 10 "LoomPanel" "values" "LLoomPanel$Values;" ∈ wsX2_copy := by decide +kernel
def f_X2_copy (S : KS) (x1 : Int32) : Int32 × KS := if x1 = (-1) then ((f_X2_fault 2, S)) else (if (f_X1_isA S x1 4) = 0 then (((f_X1_addCopy S x1 (f_X1_formOf S x1)).1, (f_X1_addCopy S x1 (f_X1_formOf S x1)).2)) else ((f_X2_fault 1, S)))
set_option maxHeartbeats 4000000 in
set_option maxRecDepth 100000 in
theorem c_X2_copy (l : Launch) (D : va_G) (cI cJ : ClassId) (a : Nat → Nat) (hd : ∀ i j, i < 11 → j < 11 → a i = a j → i = j) (S : KS) (x1 : Int32) : GWi l yX2_copy wsX2_copy rmX2_copy [.ref (a 0), .int x1] D (cw_tys cI cJ) (cw cI cJ a) KInv (kA a) S (f_X2_copy S x1) := by
  refine GB_of (cc := cX2_copy) (maxL := 2) (ret := (some .int)) (by decide) rfl (Nat.le_of_ble_eq_true rfl) ?_
  intro p e s m below meth c C hP hI ls hl
  obtain ⟨hx, hb, hr, hlocks, hml, hown, hts, hK, hN⟩ := id C
  have hS : va_S (kA a) s.heap s.heap [] := va_S.rf
  have hl : lv_has ls 2 [(0, .ref (a 0)), (1, .int x1)] := hl
  refine lv_iload_n hx hb dX2_copy_0 rfl (lv_at hl 1 rfl) ?_
  refine lv_iconst (v := (-1)) hx hb dX2_copy_1 (by decide) ?_
  refine lv_icmp_ne (tgt := 10) hx hb dX2_copy_2 (by decide) (fun c_2 => ?_) (fun c_2 => ?_)
  · skip
    refine lv_aload_n hx hb dX2_copy_10 rfl (lv_at hl 0 rfl) ?_
    refine va_get (D := D) (ci := 2) (v := .ref (a 1)) (C := RX2) (T := TX2) (N := 5) hx hb hts iwX2_copy hown hK hP 0 rfl rfl 0 (by decide) (hts (.fieldLink RX2 10 "LoomPanel" "values" "LLoomPanel$Values;") flX2_copy_10) (fun _ h9 => h9) rfl dX2_copy_11 ?_
    refine lv_iload_n hx hb dX2_copy_14 rfl (lv_at hl 1 rfl) ?_
    refine lv_iconst (v := 4) hx hb dX2_copy_15 (by decide) ?_
    refine g_Ri (As := [.int x1, .int 4]) (rest := []) ⟨hx, hb, hml, hown, hts⟩ (c_X1_isA l D cI cJ a hd S x1 4 ) (cwV 2 hts gX2_copy_X1_isA rfl rfl rfl eeX1_isA ⟨Nat.le_of_ble_eq_true rfl, Nat.le_of_ble_eq_true rfl⟩) hK hN hP hI (va_recv hK hP (ci := 1) (q0 := 1) rfl rfl) hS rfl hl.1 rfl (Nat.le_of_ble_eq_true rfl) dX2_copy_16 ⟨Nat.zero_le _, Nat.zero_le _⟩ (fun H locs hP hS => ?_)
    refine lv_if_eq (tgt := 29) hx hb dX2_copy_19 (by decide) (fun c_19 => ?_) (fun c_19 => ?_)
    · skip
      refine lv_aload_n hx hb dX2_copy_29 rfl (lv_at hl 0 rfl) ?_
      refine va_get (D := D) (ci := 2) (v := .ref (a 1)) (C := RX2) (T := TX2) (N := 5) hx hb hts iwX2_copy hown hK hP 0 rfl rfl 0 (by decide) (hts (.fieldLink RX2 10 "LoomPanel" "values" "LLoomPanel$Values;") flX2_copy_10) (fun _ h9 => h9) rfl dX2_copy_30 ?_
      refine lv_iload_n hx hb dX2_copy_33 rfl (lv_at hl 1 rfl) ?_
      refine lv_aload_n hx hb dX2_copy_34 rfl (lv_at hl 0 rfl) ?_
      refine va_get (D := D) (ci := 2) (v := .ref (a 1)) (C := RX2) (T := TX2) (N := 5) hx hb hts iwX2_copy hown hK hP 0 rfl rfl 0 (by decide) (hts (.fieldLink RX2 10 "LoomPanel" "values" "LLoomPanel$Values;") flX2_copy_10) (fun _ h9 => h9) rfl dX2_copy_35 ?_
      refine lv_iload_n hx hb dX2_copy_38 rfl (lv_at hl 1 rfl) ?_
      refine g_Ri (As := [.int x1]) (rest := [.int x1, .ref (a 1)]) ⟨hx, hb, hml, hown, hts⟩ (c_X1_formOf l D cI cJ a hd S x1 ) (cwV 1 hts gX2_copy_X1_formOf rfl rfl rfl eeX1_formOf ⟨Nat.le_of_ble_eq_true rfl, Nat.le_of_ble_eq_true rfl⟩) hK hN hP hI (va_recv hK hP (ci := 1) (q0 := 1) rfl rfl) hS rfl hl.1 rfl (Nat.le_of_ble_eq_true rfl) dX2_copy_39 ⟨Nat.zero_le _, Nat.zero_le _⟩ (fun H locs hP hS => ?_)
      refine g_Wi (As := [.int x1, .int (f_X1_formOf S x1)]) (rest := []) ⟨hx, hb, hml, hown, hts⟩ (c_X1_addCopy l D cI cJ a hd S x1 (f_X1_formOf S x1) ) (cwV 2 hts gX2_copy_X1_addCopy rfl rfl rfl eeX1_addCopy ⟨Nat.le_of_ble_eq_true rfl, Nat.le_of_ble_eq_true rfl⟩) hK hN hP hI (va_recv hK hP (ci := 1) (q0 := 1) rfl rfl) hS rfl hl.1 rfl (Nat.le_of_ble_eq_true rfl) dX2_copy_42 ⟨Nat.zero_le _, Nat.zero_le _⟩ (fun H locs hI hP hS => ?_)
      exact r_Wi hx hb hr hlocks hP hI hS (by simp only [f_X2_copy, if_neg c_2, if_pos c_19]) dX2_copy_45
    · skip
      refine lv_iconst (v := 1) hx hb dX2_copy_22 (by decide) ?_
      refine g_Si (As := [.int 1]) (rest := []) ⟨hx, hb, hml, hown, hts⟩ (c_X2_fault l 1) (va_cwS 1 hts gX2_copy_X2_fault rfl rfl rfl esX2_fault ⟨Nat.le_of_ble_eq_true rfl, Nat.le_of_ble_eq_true rfl⟩) hP hS rfl hl.1 rfl (Nat.le_of_ble_eq_true rfl) dX2_copy_23 ⟨Nat.zero_le _, Nat.zero_le _⟩ (fun H locs hP hS => ?_)
      refine lv_goto (tgt := 45) hx hb dX2_copy_26 (by decide) ?_
      exact r_Wi hx hb hr hlocks hP hI hS (by simp only [f_X2_copy, if_neg c_2, if_neg c_19]) dX2_copy_45
  · skip
    refine lv_iconst (v := 2) hx hb dX2_copy_5 (by decide) ?_
    refine g_Si (As := [.int 2]) (rest := []) ⟨hx, hb, hml, hown, hts⟩ (c_X2_fault l 2) (va_cwS 1 hts gX2_copy_X2_fault rfl rfl rfl esX2_fault ⟨Nat.le_of_ble_eq_true rfl, Nat.le_of_ble_eq_true rfl⟩) hP hS rfl hl.1 rfl (Nat.le_of_ble_eq_true rfl) dX2_copy_6 ⟨Nat.zero_le _, Nat.zero_le _⟩ (fun H locs hP hS => ?_)
    exact r_Wi hx hb hr hlocks hP hI hS (by simp only [f_X2_copy, if_pos c_2]) dX2_copy_9
abbrev rmX2_drive : Room := { frames := 3, cells := 0, slots := 0, locals := 68 }
theorem eeX2_drive : yX2_drive.cls = RX2 ∧ yX2_drive.cls ≠ "java/lang/invoke/MethodHandle" ∧ yX2_drive.cls ≠ "java/lang/invoke/VarHandle" ∧ (parseMethodDescriptor yX2_drive.desc).map (fun d => d.parameters.length) = some 2 := by decide +kernel
theorem iwX2_drive : ∀ w ∈ u_ws RX2 TX2 5, w ∈ wsX2_drive := by decide +kernel
theorem flX2_drive_10 : Cond.fieldLink RX2 10 "LoomPanel" "values" "LLoomPanel$Values;" ∈ wsX2_drive := by decide +kernel
def f_X2_drive_c112 : Nat → KS → Int32 → Int32 → Int32 → Nat → Int32 × KS
  | 0, S, _, _, _, _ => (0, S)
  | n + 1, S, x3, x4, x5, j => if x3 ≤ (nI j) then ((x5, S)) else (f_X2_drive_c112 n (f_X1_put S x5 (nI j) ((x4 + (nI j)).toInt64)) x3 x4 x5 (j + 1))
set_option maxHeartbeats 4000000 in
set_option maxRecDepth 100000 in
theorem w_X2_drive_c112 {l : Launch} {D : va_G} {cI cJ : ClassId} {a : Nat → Nat} (hd : ∀ i j, i < 11 → j < 11 → a i = a j → i = j) {p : Program} {e : Env} {s : State} {m : MethodId} {args : Array Value} {below : List Frame} {meth : Method} {c : Code} (C : GC p s m meth c cX2_drive (some .int) 7 RX2 wsX2_drive args D (cw_tys cI cJ)) {v : Int32 × KS} : ∀ (n : Nat) (S : KS) (x3 : Int32) (x4 : Int32) (x5 : Int32) (j : Nat) (hb8 : x3.toInt ≤ 8) (hj : j ≤ 8) (hn : j + n = 9) (H : Heap) (locs : List Loc) (ls : Array Slot), va_P D vwCl (cw cI cJ a S) H → KInv S → va_S (kA a) s.heap H locs → lv_has ls 7 [(0, .ref (a 0)), (3, .int x3), (4, .int x4), (5, .int x5), (6, .int (nI j))] → v = f_X2_drive_c112 n S x3 x4 x5 j → W p l e rmX2_drive s m args below meth c H locs 0 0 (MQ below (va_Qi (fun r u => v = (r, u)) (GE D (cw cI cJ a) KInv) (kA a)) args s 0 0 (kA a)) (F0 m 112 ls []) := by
  obtain ⟨hx, hb, hr, hlocks, hml, hown, hts, hK, hN⟩ := id C
  intro n
  induction n with
  | zero =>
    intro S x3 x4 x5 j hb8 hj hn H locs ls hP hI hS hl hq
    exact absurd hn (by omega)
  | succ n ih =>
    intro S x3 x4 x5 j hb8 hj hn H locs ls hP hI hS hl hq
    refine lv_iload hx hb dX2_drive_112 (lv_at hl 4 rfl) ?_
    refine lv_iload_n hx hb dX2_drive_114 rfl (lv_at hl 1 rfl) ?_
    refine lv_icmp_ge (tgt := 141) hx hb dX2_drive_115 (by decide) (fun c_115 => ?_) (fun c_115 => ?_)
    · skip
      refine lv_iload hx hb dX2_drive_141 (lv_at hl 3 rfl) ?_
      exact r_Wi hx hb hr hlocks hP hI hS (hq.trans (by simp only [f_X2_drive_c112, if_pos c_115])) dX2_drive_143
    · skip
      refine lv_aload_n hx hb dX2_drive_118 rfl (lv_at hl 0 rfl) ?_
      refine va_get (D := D) (ci := 2) (v := .ref (a 1)) (C := RX2) (T := TX2) (N := 5) hx hb hts iwX2_drive hown hK hP 0 rfl rfl 0 (by decide) (hts (.fieldLink RX2 10 "LoomPanel" "values" "LLoomPanel$Values;") flX2_drive_10) (fun _ h9 => h9) rfl dX2_drive_119 ?_
      refine lv_iload hx hb dX2_drive_122 (lv_at hl 3 rfl) ?_
      refine lv_iload hx hb dX2_drive_124 (lv_at hl 4 rfl) ?_
      refine lv_iload hx hb dX2_drive_126 (lv_at hl 2 rfl) ?_
      refine lv_iload hx hb dX2_drive_128 (lv_at hl 4 rfl) ?_
      refine lv_iadd hx hb dX2_drive_130 ?_
      refine lv_i2l (v := (x4 + (nI j)).toInt64) hx hb dX2_drive_131 rfl ?_
      refine g_Wv (As := [.int x5, .int (nI j), .long ((x4 + (nI j)).toInt64)]) (rest := []) ⟨hx, hb, hml, hown, hts⟩ (c_X1_put l D cI cJ a hd S x5 (nI j) ((x4 + (nI j)).toInt64) ) (cwV 3 hts gX2_drive_X1_put rfl rfl rfl eeX1_put ⟨Nat.le_of_ble_eq_true rfl, Nat.le_of_ble_eq_true rfl⟩) hK hN hP hI (va_recv hK hP (ci := 1) (q0 := 1) rfl rfl) hS rfl hl.1 rfl (Nat.le_of_ble_eq_true rfl) dX2_drive_132 ⟨Nat.zero_le _, Nat.zero_le _⟩ (fun H locs hI hP hS => ?_)
      refine lv_iinc (v := nI (j + 1)) (lv' := [(6, .int (nI (j + 1))), (0, .ref (a 0)), (3, .int x3), (4, .int x4), (5, .int x5)]) hx hb dX2_drive_135 hl (k := 4) rfl (nI_1 _) (by decide) rfl (fun ls hl => ?_)
      refine lv_goto (tgt := 112) hx hb dX2_drive_138 (by decide) ?_
      exact ih (f_X1_put S x5 (nI j) ((x4 + (nI j)).toInt64)) x3 x4 x5 (j + 1) hb8 (jl8 c_115 hb8 hj) (by omega) _ _ _ hP hI hS (lv_sub hl [1, 2, 3, 4, 0] rfl) (hq.trans (by simp only [f_X2_drive_c112, if_neg c_115]))
def f_X2_drive_c48 : Nat → KS → Int32 → Int32 → Int32 → Int32 → Nat → Int32 × KS
  | 0, S, _, _, _, _, _ => (0, S)
  | n + 1, S, x1, x2, x3, x4, j => if x3 ≤ (nI j) then (if x2 = 0 then (f_X2_drive_c112 9 ((f_X1_add S 6 x3).2) x3 x4 ((f_X1_add S 6 x3).1) 0) else (f_X2_drive_c112 9 ((f_X1_add S 7 x3).2) x3 x4 ((f_X1_add S 7 x3).1) 0)) else (if x2 = 0 then (f_X2_drive_c48 n ((f_X1_addWire S 4 ((f_X1_cellOf S x1 (nI j)).toInt32)).2) x1 x2 x3 x4 (j + 1)) else (f_X2_drive_c48 n ((f_X1_addWire S 5 ((f_X1_cellOf S x1 (nI j)).toInt32)).2) x1 x2 x3 x4 (j + 1)))
set_option maxHeartbeats 4000000 in
set_option maxRecDepth 100000 in
theorem w_X2_drive_c48 {l : Launch} {D : va_G} {cI cJ : ClassId} {a : Nat → Nat} (hd : ∀ i j, i < 11 → j < 11 → a i = a j → i = j) {p : Program} {e : Env} {s : State} {m : MethodId} {args : Array Value} {below : List Frame} {meth : Method} {c : Code} (C : GC p s m meth c cX2_drive (some .int) 7 RX2 wsX2_drive args D (cw_tys cI cJ)) {v : Int32 × KS} : ∀ (n : Nat) (S : KS) (x1 : Int32) (x2 : Int32) (x3 : Int32) (x4 : Int32) (j : Nat) (hb8 : x3.toInt ≤ 8) (hj : j ≤ 8) (hn : j + n = 9) (H : Heap) (locs : List Loc) (ls : Array Slot), va_P D vwCl (cw cI cJ a S) H → KInv S → va_S (kA a) s.heap H locs → lv_has ls 7 [(0, .ref (a 0)), (1, .int x1), (2, .int x2), (3, .int x3), (4, .int x4), (5, .int (nI j))] → v = f_X2_drive_c48 n S x1 x2 x3 x4 j → W p l e rmX2_drive s m args below meth c H locs 0 0 (MQ below (va_Qi (fun r u => v = (r, u)) (GE D (cw cI cJ a) KInv) (kA a)) args s 0 0 (kA a)) (F0 m 48 ls []) := by
  obtain ⟨hx, hb, hr, hlocks, hml, hown, hts, hK, hN⟩ := id C
  intro n
  induction n with
  | zero =>
    intro S x1 x2 x3 x4 j hb8 hj hn H locs ls hP hI hS hl hq
    exact absurd hn (by omega)
  | succ n ih =>
    intro S x1 x2 x3 x4 j hb8 hj hn H locs ls hP hI hS hl hq
    refine lv_iload hx hb dX2_drive_48 (lv_at hl 5 rfl) ?_
    refine lv_iload_n hx hb dX2_drive_50 rfl (lv_at hl 3 rfl) ?_
    refine lv_icmp_ge (tgt := 88) hx hb dX2_drive_51 (by decide) (fun c_51 => ?_) (fun c_51 => ?_)
    · skip
      refine lv_aload_n hx hb dX2_drive_88 rfl (lv_at hl 0 rfl) ?_
      refine va_get (D := D) (ci := 2) (v := .ref (a 1)) (C := RX2) (T := TX2) (N := 5) hx hb hts iwX2_drive hown hK hP 0 rfl rfl 0 (by decide) (hts (.fieldLink RX2 10 "LoomPanel" "values" "LLoomPanel$Values;") flX2_drive_10) (fun _ h9 => h9) rfl dX2_drive_89 ?_
      refine lv_iload_n hx hb dX2_drive_92 rfl (lv_at hl 2 rfl) ?_
      refine lv_if_eq (tgt := 101) hx hb dX2_drive_93 (by decide) (fun c_93 => ?_) (fun c_93 => ?_)
      · skip
        refine lv_bipush (v := 6) hx hb dX2_drive_101 (by decide) ?_
        refine lv_iload_n hx hb dX2_drive_103 rfl (lv_at hl 3 rfl) ?_
        refine g_Wi (As := [.int 6, .int x3]) (rest := []) ⟨hx, hb, hml, hown, hts⟩ (c_X1_add l D cI cJ a hd S 6 x3 ) (cwV 2 hts gX2_drive_X1_add rfl rfl rfl eeX1_add ⟨Nat.le_of_ble_eq_true rfl, Nat.le_of_ble_eq_true rfl⟩) hK hN hP hI (va_recv hK hP (ci := 1) (q0 := 1) rfl rfl) hS rfl hl.1 rfl (Nat.le_of_ble_eq_true rfl) dX2_drive_104 ⟨Nat.zero_le _, Nat.zero_le _⟩ (fun H locs hI hP hS => ?_)
        refine lv_istore (lv' := [(5, .int ((f_X1_add S 6 x3).1)), (0, .ref (a 0)), (1, .int x1), (2, .int x2), (3, .int x3), (4, .int x4)]) hx hb dX2_drive_107 hl (by decide) rfl (fun ls hl => ?_)
        refine lv_iconst (v := 0) hx hb dX2_drive_109 (by decide) ?_
        refine lv_istore (lv' := [(6, .int 0), (5, .int ((f_X1_add S 6 x3).1)), (0, .ref (a 0)), (1, .int x1), (2, .int x2), (3, .int x3), (4, .int x4)]) hx hb dX2_drive_110 hl (by decide) rfl (fun ls hl => ?_)
        exact w_X2_drive_c112 hd C 9 ((f_X1_add S 6 x3).2) x3 x4 ((f_X1_add S 6 x3).1) 0 hb8 (Nat.zero_le _) rfl _ _ _ hP hI hS (lv_sub hl [2, 5, 6, 1, 0] rfl) (hq.trans (by simp only [f_X2_drive_c48, if_pos c_51, if_pos c_93]))
      · skip
        refine lv_bipush (v := 7) hx hb dX2_drive_96 (by decide) ?_
        refine lv_goto (tgt := 103) hx hb dX2_drive_98 (by decide) ?_
        refine lv_iload_n hx hb dX2_drive_103 rfl (lv_at hl 3 rfl) ?_
        refine g_Wi (As := [.int 7, .int x3]) (rest := []) ⟨hx, hb, hml, hown, hts⟩ (c_X1_add l D cI cJ a hd S 7 x3 ) (cwV 2 hts gX2_drive_X1_add rfl rfl rfl eeX1_add ⟨Nat.le_of_ble_eq_true rfl, Nat.le_of_ble_eq_true rfl⟩) hK hN hP hI (va_recv hK hP (ci := 1) (q0 := 1) rfl rfl) hS rfl hl.1 rfl (Nat.le_of_ble_eq_true rfl) dX2_drive_104 ⟨Nat.zero_le _, Nat.zero_le _⟩ (fun H locs hI hP hS => ?_)
        refine lv_istore (lv' := [(5, .int ((f_X1_add S 7 x3).1)), (0, .ref (a 0)), (1, .int x1), (2, .int x2), (3, .int x3), (4, .int x4)]) hx hb dX2_drive_107 hl (by decide) rfl (fun ls hl => ?_)
        refine lv_iconst (v := 0) hx hb dX2_drive_109 (by decide) ?_
        refine lv_istore (lv' := [(6, .int 0), (5, .int ((f_X1_add S 7 x3).1)), (0, .ref (a 0)), (1, .int x1), (2, .int x2), (3, .int x3), (4, .int x4)]) hx hb dX2_drive_110 hl (by decide) rfl (fun ls hl => ?_)
        exact w_X2_drive_c112 hd C 9 ((f_X1_add S 7 x3).2) x3 x4 ((f_X1_add S 7 x3).1) 0 hb8 (Nat.zero_le _) rfl _ _ _ hP hI hS (lv_sub hl [2, 5, 6, 1, 0] rfl) (hq.trans (by simp only [f_X2_drive_c48, if_pos c_51, if_neg c_93]))
    · skip
      refine lv_aload_n hx hb dX2_drive_54 rfl (lv_at hl 0 rfl) ?_
      refine va_get (D := D) (ci := 2) (v := .ref (a 1)) (C := RX2) (T := TX2) (N := 5) hx hb hts iwX2_drive hown hK hP 0 rfl rfl 0 (by decide) (hts (.fieldLink RX2 10 "LoomPanel" "values" "LLoomPanel$Values;") flX2_drive_10) (fun _ h9 => h9) rfl dX2_drive_55 ?_
      refine lv_iload_n hx hb dX2_drive_58 rfl (lv_at hl 2 rfl) ?_
      refine lv_if_eq (tgt := 66) hx hb dX2_drive_59 (by decide) (fun c_59 => ?_) (fun c_59 => ?_)
      · skip
        refine lv_iconst (v := 4) hx hb dX2_drive_66 (by decide) ?_
        refine lv_aload_n hx hb dX2_drive_67 rfl (lv_at hl 0 rfl) ?_
        refine va_get (D := D) (ci := 2) (v := .ref (a 1)) (C := RX2) (T := TX2) (N := 5) hx hb hts iwX2_drive hown hK hP 0 rfl rfl 0 (by decide) (hts (.fieldLink RX2 10 "LoomPanel" "values" "LLoomPanel$Values;") flX2_drive_10) (fun _ h9 => h9) rfl dX2_drive_68 ?_
        refine lv_iload_n hx hb dX2_drive_71 rfl (lv_at hl 1 rfl) ?_
        refine lv_iload hx hb dX2_drive_72 (lv_at hl 5 rfl) ?_
        refine g_Rl (As := [.int x1, .int (nI j)]) (rest := [.int 4, .ref (a 1)]) ⟨hx, hb, hml, hown, hts⟩ (c_X1_cellOf l D cI cJ a hd S x1 (nI j) ) (cwV 2 hts gX2_drive_X1_cellOf rfl rfl rfl eeX1_cellOf ⟨Nat.le_of_ble_eq_true rfl, Nat.le_of_ble_eq_true rfl⟩) hK hN hP hI (va_recv hK hP (ci := 1) (q0 := 1) rfl rfl) hS rfl hl.1 rfl (Nat.le_of_ble_eq_true rfl) dX2_drive_74 ⟨Nat.zero_le _, Nat.zero_le _⟩ (fun H locs hP hS => ?_)
        refine lv_l2i (v := (f_X1_cellOf S x1 (nI j)).toInt32) hx hb dX2_drive_77 rfl ?_
        refine g_Wi (As := [.int 4, .int ((f_X1_cellOf S x1 (nI j)).toInt32)]) (rest := []) ⟨hx, hb, hml, hown, hts⟩ (c_X1_addWire l D cI cJ a hd S 4 ((f_X1_cellOf S x1 (nI j)).toInt32) ) (cwV 2 hts gX2_drive_X1_addWire rfl rfl rfl eeX1_addWire ⟨Nat.le_of_ble_eq_true rfl, Nat.le_of_ble_eq_true rfl⟩) hK hN hP hI (va_recv hK hP (ci := 1) (q0 := 1) rfl rfl) hS rfl hl.1 rfl (Nat.le_of_ble_eq_true rfl) dX2_drive_78 ⟨Nat.zero_le _, Nat.zero_le _⟩ (fun H locs hI hP hS => ?_)
        refine lv_pop hx hb dX2_drive_81 rfl ?_
        refine lv_iinc (v := nI (j + 1)) (lv' := [(5, .int (nI (j + 1))), (0, .ref (a 0)), (1, .int x1), (2, .int x2), (3, .int x3), (4, .int x4)]) hx hb dX2_drive_82 hl (k := 5) rfl (nI_1 _) (by decide) rfl (fun ls hl => ?_)
        refine lv_goto (tgt := 48) hx hb dX2_drive_85 (by decide) ?_
        exact ih ((f_X1_addWire S 4 ((f_X1_cellOf S x1 (nI j)).toInt32)).2) x1 x2 x3 x4 (j + 1) hb8 (jl8 c_51 hb8 hj) (by omega) _ _ _ hP hI hS (lv_sub hl [1, 2, 3, 4, 5, 0] rfl) (hq.trans (by simp only [f_X2_drive_c48, if_neg c_51, if_pos c_59]))
      · skip
        refine lv_iconst (v := 5) hx hb dX2_drive_62 (by decide) ?_
        refine lv_goto (tgt := 67) hx hb dX2_drive_63 (by decide) ?_
        refine lv_aload_n hx hb dX2_drive_67 rfl (lv_at hl 0 rfl) ?_
        refine va_get (D := D) (ci := 2) (v := .ref (a 1)) (C := RX2) (T := TX2) (N := 5) hx hb hts iwX2_drive hown hK hP 0 rfl rfl 0 (by decide) (hts (.fieldLink RX2 10 "LoomPanel" "values" "LLoomPanel$Values;") flX2_drive_10) (fun _ h9 => h9) rfl dX2_drive_68 ?_
        refine lv_iload_n hx hb dX2_drive_71 rfl (lv_at hl 1 rfl) ?_
        refine lv_iload hx hb dX2_drive_72 (lv_at hl 5 rfl) ?_
        refine g_Rl (As := [.int x1, .int (nI j)]) (rest := [.int 5, .ref (a 1)]) ⟨hx, hb, hml, hown, hts⟩ (c_X1_cellOf l D cI cJ a hd S x1 (nI j) ) (cwV 2 hts gX2_drive_X1_cellOf rfl rfl rfl eeX1_cellOf ⟨Nat.le_of_ble_eq_true rfl, Nat.le_of_ble_eq_true rfl⟩) hK hN hP hI (va_recv hK hP (ci := 1) (q0 := 1) rfl rfl) hS rfl hl.1 rfl (Nat.le_of_ble_eq_true rfl) dX2_drive_74 ⟨Nat.zero_le _, Nat.zero_le _⟩ (fun H locs hP hS => ?_)
        refine lv_l2i (v := (f_X1_cellOf S x1 (nI j)).toInt32) hx hb dX2_drive_77 rfl ?_
        refine g_Wi (As := [.int 5, .int ((f_X1_cellOf S x1 (nI j)).toInt32)]) (rest := []) ⟨hx, hb, hml, hown, hts⟩ (c_X1_addWire l D cI cJ a hd S 5 ((f_X1_cellOf S x1 (nI j)).toInt32) ) (cwV 2 hts gX2_drive_X1_addWire rfl rfl rfl eeX1_addWire ⟨Nat.le_of_ble_eq_true rfl, Nat.le_of_ble_eq_true rfl⟩) hK hN hP hI (va_recv hK hP (ci := 1) (q0 := 1) rfl rfl) hS rfl hl.1 rfl (Nat.le_of_ble_eq_true rfl) dX2_drive_78 ⟨Nat.zero_le _, Nat.zero_le _⟩ (fun H locs hI hP hS => ?_)
        refine lv_pop hx hb dX2_drive_81 rfl ?_
        refine lv_iinc (v := nI (j + 1)) (lv' := [(5, .int (nI (j + 1))), (0, .ref (a 0)), (1, .int x1), (2, .int x2), (3, .int x3), (4, .int x4)]) hx hb dX2_drive_82 hl (k := 5) rfl (nI_1 _) (by decide) rfl (fun ls hl => ?_)
        refine lv_goto (tgt := 48) hx hb dX2_drive_85 (by decide) ?_
        exact ih ((f_X1_addWire S 5 ((f_X1_cellOf S x1 (nI j)).toInt32)).2) x1 x2 x3 x4 (j + 1) hb8 (jl8 c_51 hb8 hj) (by omega) _ _ _ hP hI hS (lv_sub hl [1, 2, 3, 4, 5, 0] rfl) (hq.trans (by simp only [f_X2_drive_c48, if_neg c_51, if_neg c_59]))
def f_X2_drive (S : KS) (x1 : Int32) (x2 : Int32) : Int32 × KS := if x1 = (-1) then ((f_X2_fault 2, S)) else (if (f_X1_isA S x1 1) = 0 then ((f_X2_fault 1, S)) else (f_X2_drive_c48 9 S x1 x2 (f_X1_lengthOf S x1) (f_X1_made S) 0))
set_option maxHeartbeats 4000000 in
set_option maxRecDepth 100000 in
theorem c_X2_drive (l : Launch) (D : va_G) (cI cJ : ClassId) (a : Nat → Nat) (hd : ∀ i j, i < 11 → j < 11 → a i = a j → i = j) (S : KS) (x1 : Int32) (x2 : Int32) : GWi l yX2_drive wsX2_drive rmX2_drive [.ref (a 0), .int x1, .int x2] D (cw_tys cI cJ) (cw cI cJ a) KInv (kA a) S (f_X2_drive S x1 x2) := by
  refine GB_of (cc := cX2_drive) (maxL := 7) (ret := (some .int)) (by decide) rfl (Nat.le_of_ble_eq_true rfl) ?_
  intro p e s m below meth c C hP hI ls hl
  obtain ⟨hx, hb, hr, hlocks, hml, hown, hts, hK, hN⟩ := id C
  have hS : va_S (kA a) s.heap s.heap [] := va_S.rf
  have hl : lv_has ls 7 [(0, .ref (a 0)), (1, .int x1), (2, .int x2)] := hl
  refine lv_iload_n hx hb dX2_drive_0 rfl (lv_at hl 1 rfl) ?_
  refine lv_iconst (v := (-1)) hx hb dX2_drive_1 (by decide) ?_
  refine lv_icmp_ne (tgt := 10) hx hb dX2_drive_2 (by decide) (fun c_2 => ?_) (fun c_2 => ?_)
  · skip
    refine lv_aload_n hx hb dX2_drive_10 rfl (lv_at hl 0 rfl) ?_
    refine va_get (D := D) (ci := 2) (v := .ref (a 1)) (C := RX2) (T := TX2) (N := 5) hx hb hts iwX2_drive hown hK hP 0 rfl rfl 0 (by decide) (hts (.fieldLink RX2 10 "LoomPanel" "values" "LLoomPanel$Values;") flX2_drive_10) (fun _ h9 => h9) rfl dX2_drive_11 ?_
    refine lv_iload_n hx hb dX2_drive_14 rfl (lv_at hl 1 rfl) ?_
    refine lv_iconst (v := 1) hx hb dX2_drive_15 (by decide) ?_
    refine g_Ri (As := [.int x1, .int 1]) (rest := []) ⟨hx, hb, hml, hown, hts⟩ (c_X1_isA l D cI cJ a hd S x1 1 ) (cwV 2 hts gX2_drive_X1_isA rfl rfl rfl eeX1_isA ⟨Nat.le_of_ble_eq_true rfl, Nat.le_of_ble_eq_true rfl⟩) hK hN hP hI (va_recv hK hP (ci := 1) (q0 := 1) rfl rfl) hS rfl hl.1 rfl (Nat.le_of_ble_eq_true rfl) dX2_drive_16 ⟨Nat.zero_le _, Nat.zero_le _⟩ (fun H locs hP hS => ?_)
    refine lv_if_ne (tgt := 27) hx hb dX2_drive_19 (by decide) (fun c_19 => ?_) (fun c_19 => ?_)
    · skip
      refine lv_aload_n hx hb dX2_drive_27 rfl (lv_at hl 0 rfl) ?_
      refine va_get (D := D) (ci := 2) (v := .ref (a 1)) (C := RX2) (T := TX2) (N := 5) hx hb hts iwX2_drive hown hK hP 0 rfl rfl 0 (by decide) (hts (.fieldLink RX2 10 "LoomPanel" "values" "LLoomPanel$Values;") flX2_drive_10) (fun _ h9 => h9) rfl dX2_drive_28 ?_
      refine lv_iload_n hx hb dX2_drive_31 rfl (lv_at hl 1 rfl) ?_
      refine g_Ri (As := [.int x1]) (rest := []) ⟨hx, hb, hml, hown, hts⟩ (c_X1_lengthOf l D cI cJ a hd S x1 ) (cwV 1 hts gX2_drive_X1_lengthOf rfl rfl rfl eeX1_lengthOf ⟨Nat.le_of_ble_eq_true rfl, Nat.le_of_ble_eq_true rfl⟩) hK hN hP hI (va_recv hK hP (ci := 1) (q0 := 1) rfl rfl) hS rfl hl.1 rfl (Nat.le_of_ble_eq_true rfl) dX2_drive_32 ⟨Nat.zero_le _, Nat.zero_le _⟩ (fun H locs hP hS => ?_)
      refine lv_istore_n (lv' := [(3, .int (f_X1_lengthOf S x1)), (0, .ref (a 0)), (1, .int x1), (2, .int x2)]) hx hb dX2_drive_35 rfl hl (by decide) rfl (fun ls hl => ?_)
      have hLe := (lengthOf_le (x := x1) hI).2
      refine lv_aload_n hx hb dX2_drive_36 rfl (lv_at hl 1 rfl) ?_
      refine va_get (D := D) (ci := 2) (v := .ref (a 1)) (C := RX2) (T := TX2) (N := 5) hx hb hts iwX2_drive hown hK hP 0 rfl rfl 0 (by decide) (hts (.fieldLink RX2 10 "LoomPanel" "values" "LLoomPanel$Values;") flX2_drive_10) (fun _ h9 => h9) rfl dX2_drive_37 ?_
      refine g_Ri (As := []) (rest := []) ⟨hx, hb, hml, hown, hts⟩ (c_X1_made l D cI cJ a hd S  ) (cwV 0 hts gX2_drive_X1_made rfl rfl rfl eeX1_made ⟨Nat.le_of_ble_eq_true rfl, Nat.le_of_ble_eq_true rfl⟩) hK hN hP hI (va_recv hK hP (ci := 1) (q0 := 1) rfl rfl) hS rfl hl.1 rfl (Nat.le_of_ble_eq_true rfl) dX2_drive_40 ⟨Nat.zero_le _, Nat.zero_le _⟩ (fun H locs hP hS => ?_)
      refine lv_istore (lv' := [(4, .int (f_X1_made S)), (3, .int (f_X1_lengthOf S x1)), (0, .ref (a 0)), (1, .int x1), (2, .int x2)]) hx hb dX2_drive_43 hl (by decide) rfl (fun ls hl => ?_)
      refine lv_iconst (v := 0) hx hb dX2_drive_45 (by decide) ?_
      refine lv_istore (lv' := [(5, .int 0), (4, .int (f_X1_made S)), (3, .int (f_X1_lengthOf S x1)), (0, .ref (a 0)), (1, .int x1), (2, .int x2)]) hx hb dX2_drive_46 hl (by decide) rfl (fun ls hl => ?_)
      exact w_X2_drive_c48 hd C 9 S x1 x2 (f_X1_lengthOf S x1) (f_X1_made S) 0 hLe (Nat.zero_le _) rfl _ _ _ hP hI hS (lv_sub hl [3, 4, 5, 2, 1, 0] rfl) (by simp only [f_X2_drive, if_neg c_2, if_neg c_19])
    · skip
      refine lv_iconst (v := 1) hx hb dX2_drive_22 (by decide) ?_
      refine g_Si (As := [.int 1]) (rest := []) ⟨hx, hb, hml, hown, hts⟩ (c_X2_fault l 1) (va_cwS 1 hts gX2_drive_X2_fault rfl rfl rfl esX2_fault ⟨Nat.le_of_ble_eq_true rfl, Nat.le_of_ble_eq_true rfl⟩) hP hS rfl hl.1 rfl (Nat.le_of_ble_eq_true rfl) dX2_drive_23 ⟨Nat.zero_le _, Nat.zero_le _⟩ (fun H locs hP hS => ?_)
      exact r_Wi hx hb hr hlocks hP hI hS (by simp only [f_X2_drive, if_neg c_2, if_pos c_19]) dX2_drive_26
  · skip
    refine lv_iconst (v := 2) hx hb dX2_drive_5 (by decide) ?_
    refine g_Si (As := [.int 2]) (rest := []) ⟨hx, hb, hml, hown, hts⟩ (c_X2_fault l 2) (va_cwS 1 hts gX2_drive_X2_fault rfl rfl rfl esX2_fault ⟨Nat.le_of_ble_eq_true rfl, Nat.le_of_ble_eq_true rfl⟩) hP hS rfl hl.1 rfl (Nat.le_of_ble_eq_true rfl) dX2_drive_6 ⟨Nat.zero_le _, Nat.zero_le _⟩ (fun H locs hP hS => ?_)
    exact r_Wi hx hb hr hlocks hP hI hS (by simp only [f_X2_drive, if_pos c_2]) dX2_drive_9
abbrev rmX2_holdsOnlyLives : Room := { frames := 3, cells := 0, slots := 0, locals := 65 }
theorem eeX2_holdsOnlyLives : yX2_holdsOnlyLives.cls = RX2 ∧ yX2_holdsOnlyLives.cls ≠ "java/lang/invoke/MethodHandle" ∧ yX2_holdsOnlyLives.cls ≠ "java/lang/invoke/VarHandle" ∧ (parseMethodDescriptor yX2_holdsOnlyLives.desc).map (fun d => d.parameters.length) = some 1 := by decide +kernel
theorem iwX2_holdsOnlyLives : ∀ w ∈ u_ws RX2 TX2 5, w ∈ wsX2_holdsOnlyLives := by decide +kernel
theorem flX2_holdsOnlyLives_10 : Cond.fieldLink RX2 10 "LoomPanel" "values" "LLoomPanel$Values;" ∈ wsX2_holdsOnlyLives := by decide +kernel
def f_X2_holdsOnlyLives_c11 : Nat → KS → Int32 → Int32 → Nat → Int32
  | 0, S, _, _, _ => 0
  | n + 1, S, x1, x2, j => if x2 ≤ (nI j) then (1) else (if (f_X2_isNoneOr S (f_X1_placed S x1 (nI j)) 5) = 0 then (0) else (f_X2_holdsOnlyLives_c11 n S x1 x2 (j + 1)))
set_option maxHeartbeats 4000000 in
set_option maxRecDepth 100000 in
theorem w_X2_holdsOnlyLives_c11 {l : Launch} {D : va_G} {cI cJ : ClassId} {a : Nat → Nat} (hd : ∀ i j, i < 11 → j < 11 → a i = a j → i = j) {p : Program} {e : Env} {s : State} {m : MethodId} {args : Array Value} {below : List Frame} {meth : Method} {c : Code} (C : GC p s m meth c cX2_holdsOnlyLives (some .boolean) 4 RX2 wsX2_holdsOnlyLives args D (cw_tys cI cJ)) {v : Int32} : ∀ (n : Nat) (S : KS) (x1 : Int32) (x2 : Int32) (j : Nat) (hb8 : x2.toInt ≤ 8) (hj : j ≤ 8) (hn : j + n = 9) (H : Heap) (locs : List Loc) (ls : Array Slot), va_P D vwCl (cw cI cJ a S) H → KInv S → va_S (kA a) s.heap H locs → lv_has ls 4 [(0, .ref (a 0)), (1, .int x1), (2, .int x2), (3, .int (nI j))] → v = f_X2_holdsOnlyLives_c11 n S x1 x2 j → W p l e rmX2_holdsOnlyLives s m args below meth c H locs 0 0 (MQ below (va_Qi (fun r u => r = v ∧ u = S) (GE D (cw cI cJ a) KInv) (kA a)) args s 0 0 (kA a)) (F0 m 11 ls []) := by
  obtain ⟨hx, hb, hr, hlocks, hml, hown, hts, hK, hN⟩ := id C
  intro n
  induction n with
  | zero =>
    intro S x1 x2 j hb8 hj hn H locs ls hP hI hS hl hq
    exact absurd hn (by omega)
  | succ n ih =>
    intro S x1 x2 j hb8 hj hn H locs ls hP hI hS hl hq
    refine lv_iload_n hx hb dX2_holdsOnlyLives_11 rfl (lv_at hl 3 rfl) ?_
    refine lv_iload_n hx hb dX2_holdsOnlyLives_12 rfl (lv_at hl 2 rfl) ?_
    refine lv_icmp_ge (tgt := 41) hx hb dX2_holdsOnlyLives_13 (by decide) (fun c_13 => ?_) (fun c_13 => ?_)
    · skip
      refine lv_iconst (v := 1) hx hb dX2_holdsOnlyLives_41 (by decide) ?_
      exact r_Rz hx hb hr hlocks hP hI hS rfl (hq.trans (by simp only [f_X2_holdsOnlyLives_c11, if_pos c_13])) dX2_holdsOnlyLives_42
    · skip
      refine lv_aload_n hx hb dX2_holdsOnlyLives_16 rfl (lv_at hl 0 rfl) ?_
      refine lv_aload_n hx hb dX2_holdsOnlyLives_17 rfl (lv_at hl 0 rfl) ?_
      refine va_get (D := D) (ci := 2) (v := .ref (a 1)) (C := RX2) (T := TX2) (N := 5) hx hb hts iwX2_holdsOnlyLives hown hK hP 0 rfl rfl 0 (by decide) (hts (.fieldLink RX2 10 "LoomPanel" "values" "LLoomPanel$Values;") flX2_holdsOnlyLives_10) (fun _ h9 => h9) rfl dX2_holdsOnlyLives_18 ?_
      refine lv_iload_n hx hb dX2_holdsOnlyLives_21 rfl (lv_at hl 1 rfl) ?_
      refine lv_iload_n hx hb dX2_holdsOnlyLives_22 rfl (lv_at hl 3 rfl) ?_
      refine g_Ri (As := [.int x1, .int (nI j)]) (rest := [.ref (a 0)]) ⟨hx, hb, hml, hown, hts⟩ (c_X1_placed l D cI cJ a hd S x1 (nI j) ) (cwV 2 hts gX2_holdsOnlyLives_X1_placed rfl rfl rfl eeX1_placed ⟨Nat.le_of_ble_eq_true rfl, Nat.le_of_ble_eq_true rfl⟩) hK hN hP hI (va_recv hK hP (ci := 1) (q0 := 1) rfl rfl) hS rfl hl.1 rfl (Nat.le_of_ble_eq_true rfl) dX2_holdsOnlyLives_23 ⟨Nat.zero_le _, Nat.zero_le _⟩ (fun H locs hP hS => ?_)
      refine lv_iconst (v := 5) hx hb dX2_holdsOnlyLives_26 (by decide) ?_
      refine g_Ri (As := [.int (f_X1_placed S x1 (nI j)), .int 5]) (rest := []) ⟨hx, hb, hml, hown, hts⟩ (c_X2_isNoneOr l D cI cJ a hd S (f_X1_placed S x1 (nI j)) 5 ) (cwV 2 hts gX2_holdsOnlyLives_X2_isNoneOr rfl rfl rfl eeX2_isNoneOr ⟨Nat.le_of_ble_eq_true rfl, Nat.le_of_ble_eq_true rfl⟩) hK hN hP hI (va_recv hK hP (ci := 2) (q0 := 0) rfl rfl) hS rfl hl.1 rfl (Nat.le_of_ble_eq_true rfl) dX2_holdsOnlyLives_27 ⟨Nat.zero_le _, Nat.zero_le _⟩ (fun H locs hP hS => ?_)
      refine lv_if_ne (tgt := 35) hx hb dX2_holdsOnlyLives_30 (by decide) (fun c_30 => ?_) (fun c_30 => ?_)
      · skip
        refine lv_iinc (v := nI (j + 1)) (lv' := [(3, .int (nI (j + 1))), (0, .ref (a 0)), (1, .int x1), (2, .int x2)]) hx hb dX2_holdsOnlyLives_35 hl (k := 3) rfl (nI_1 _) (by decide) rfl (fun ls hl => ?_)
        refine lv_goto (tgt := 11) hx hb dX2_holdsOnlyLives_38 (by decide) ?_
        exact ih S x1 x2 (j + 1) hb8 (jl8 c_13 hb8 hj) (by omega) _ _ _ hP hI hS (lv_sub hl [1, 2, 3, 0] rfl) (hq.trans (by simp only [f_X2_holdsOnlyLives_c11, if_neg c_13, if_neg c_30]))
      · skip
        refine lv_iconst (v := 0) hx hb dX2_holdsOnlyLives_33 (by decide) ?_
        exact r_Rz hx hb hr hlocks hP hI hS rfl (hq.trans (by simp only [f_X2_holdsOnlyLives_c11, if_neg c_13, if_pos c_30])) dX2_holdsOnlyLives_34
def f_X2_holdsOnlyLives (S : KS) (x1 : Int32) : Int32 := f_X2_holdsOnlyLives_c11 9 S x1 (f_X1_lengthOf S x1) 0
set_option maxHeartbeats 4000000 in
set_option maxRecDepth 100000 in
theorem c_X2_holdsOnlyLives (l : Launch) (D : va_G) (cI cJ : ClassId) (a : Nat → Nat) (hd : ∀ i j, i < 11 → j < 11 → a i = a j → i = j) (S : KS) (x1 : Int32) : GRi l yX2_holdsOnlyLives wsX2_holdsOnlyLives rmX2_holdsOnlyLives [.ref (a 0), .int x1] D (cw_tys cI cJ) (cw cI cJ a) KInv (kA a) S (f_X2_holdsOnlyLives S x1) := by
  refine GB_of (cc := cX2_holdsOnlyLives) (maxL := 4) (ret := (some .boolean)) (by decide) rfl (Nat.le_of_ble_eq_true rfl) ?_
  intro p e s m below meth c C hP hI ls hl
  obtain ⟨hx, hb, hr, hlocks, hml, hown, hts, hK, hN⟩ := id C
  have hS : va_S (kA a) s.heap s.heap [] := va_S.rf
  have hl : lv_has ls 4 [(0, .ref (a 0)), (1, .int x1)] := hl
  refine lv_aload_n hx hb dX2_holdsOnlyLives_0 rfl (lv_at hl 0 rfl) ?_
  refine va_get (D := D) (ci := 2) (v := .ref (a 1)) (C := RX2) (T := TX2) (N := 5) hx hb hts iwX2_holdsOnlyLives hown hK hP 0 rfl rfl 0 (by decide) (hts (.fieldLink RX2 10 "LoomPanel" "values" "LLoomPanel$Values;") flX2_holdsOnlyLives_10) (fun _ h9 => h9) rfl dX2_holdsOnlyLives_1 ?_
  refine lv_iload_n hx hb dX2_holdsOnlyLives_4 rfl (lv_at hl 1 rfl) ?_
  refine g_Ri (As := [.int x1]) (rest := []) ⟨hx, hb, hml, hown, hts⟩ (c_X1_lengthOf l D cI cJ a hd S x1 ) (cwV 1 hts gX2_holdsOnlyLives_X1_lengthOf rfl rfl rfl eeX1_lengthOf ⟨Nat.le_of_ble_eq_true rfl, Nat.le_of_ble_eq_true rfl⟩) hK hN hP hI (va_recv hK hP (ci := 1) (q0 := 1) rfl rfl) hS rfl hl.1 rfl (Nat.le_of_ble_eq_true rfl) dX2_holdsOnlyLives_5 ⟨Nat.zero_le _, Nat.zero_le _⟩ (fun H locs hP hS => ?_)
  refine lv_istore_n (lv' := [(2, .int (f_X1_lengthOf S x1)), (0, .ref (a 0)), (1, .int x1)]) hx hb dX2_holdsOnlyLives_8 rfl hl (by decide) rfl (fun ls hl => ?_)
  refine lv_iconst (v := 0) hx hb dX2_holdsOnlyLives_9 (by decide) ?_
  refine lv_istore_n (lv' := [(3, .int 0), (2, .int (f_X1_lengthOf S x1)), (0, .ref (a 0)), (1, .int x1)]) hx hb dX2_holdsOnlyLives_10 rfl hl (by decide) rfl (fun ls hl => ?_)
  exact w_X2_holdsOnlyLives_c11 hd C 9 S x1 (f_X1_lengthOf S x1) 0 ((lengthOf_le hI).2) (Nat.zero_le _) rfl _ _ _ hP hI hS (lv_sub hl [2, 3, 1, 0] rfl) (by simp only [f_X2_holdsOnlyLives])
abbrev rmX2_join : Room := { frames := 4, cells := 0, slots := 0, locals := 88 }
theorem eeX2_join : yX2_join.cls = RX2 ∧ yX2_join.cls ≠ "java/lang/invoke/MethodHandle" ∧ yX2_join.cls ≠ "java/lang/invoke/VarHandle" ∧ (parseMethodDescriptor yX2_join.desc).map (fun d => d.parameters.length) = some 2 := by decide +kernel
theorem iwX2_join : ∀ w ∈ u_ws RX2 TX2 5, w ∈ wsX2_join := by decide +kernel
theorem flX2_join_10 : Cond.fieldLink RX2 10 "LoomPanel" "values" "LLoomPanel$Values;" ∈ wsX2_join := by decide +kernel
def f_X2_join_c127 (S : KS) (x1 : Int32) (x2 : Int32) (x4 : Int32) (x5 : Int32) (x6 : Int32) : Int32 × KS := ((f_X1_add S x4 x6).1, f_X1_copyCells (f_X1_copyCells ((f_X1_add S x4 x6).2) x1 ((f_X1_add S x4 x6).1) 0) x2 ((f_X1_add S x4 x6).1) x5)
set_option maxHeartbeats 4000000 in
set_option maxRecDepth 100000 in
theorem w_X2_join_c127 {l : Launch} {D : va_G} {cI cJ : ClassId} {a : Nat → Nat} (hd : ∀ i j, i < 11 → j < 11 → a i = a j → i = j) {p : Program} {e : Env} {s : State} {m : MethodId} {args : Array Value} {below : List Frame} {meth : Method} {c : Code} (C : GC p s m meth c cX2_join (some .int) 8 RX2 wsX2_join args D (cw_tys cI cJ)) {v : Int32 × KS} : ∀ (S : KS) (x1 : Int32) (x2 : Int32) (x4 : Int32) (x5 : Int32) (x6 : Int32) (H : Heap) (locs : List Loc) (ls : Array Slot), va_P D vwCl (cw cI cJ a S) H → KInv S → va_S (kA a) s.heap H locs → lv_has ls 8 [(0, .ref (a 0)), (1, .int x1), (2, .int x2), (4, .int x4), (5, .int x5), (6, .int x6)] → v = f_X2_join_c127 S x1 x2 x4 x5 x6 → W p l e rmX2_join s m args below meth c H locs 0 0 (MQ below (va_Qi (fun r u => v = (r, u)) (GE D (cw cI cJ a) KInv) (kA a)) args s 0 0 (kA a)) (F0 m 127 ls []) := by
  obtain ⟨hx, hb, hr, hlocks, hml, hown, hts, hK, hN⟩ := id C
  intro S x1 x2 x4 x5 x6  H locs ls hP hI hS hl hq
  refine lv_aload_n hx hb dX2_join_127 rfl (lv_at hl 0 rfl) ?_
  refine va_get (D := D) (ci := 2) (v := .ref (a 1)) (C := RX2) (T := TX2) (N := 5) hx hb hts iwX2_join hown hK hP 0 rfl rfl 0 (by decide) (hts (.fieldLink RX2 10 "LoomPanel" "values" "LLoomPanel$Values;") flX2_join_10) (fun _ h9 => h9) rfl dX2_join_128 ?_
  refine lv_iload hx hb dX2_join_131 (lv_at hl 3 rfl) ?_
  refine lv_iload hx hb dX2_join_133 (lv_at hl 5 rfl) ?_
  refine g_Wi (As := [.int x4, .int x6]) (rest := []) ⟨hx, hb, hml, hown, hts⟩ (c_X1_add l D cI cJ a hd S x4 x6 ) (cwV 2 hts gX2_join_X1_add rfl rfl rfl eeX1_add ⟨Nat.le_of_ble_eq_true rfl, Nat.le_of_ble_eq_true rfl⟩) hK hN hP hI (va_recv hK hP (ci := 1) (q0 := 1) rfl rfl) hS rfl hl.1 rfl (Nat.le_of_ble_eq_true rfl) dX2_join_135 ⟨Nat.zero_le _, Nat.zero_le _⟩ (fun H locs hI hP hS => ?_)
  refine lv_istore (lv' := [(7, .int ((f_X1_add S x4 x6).1)), (0, .ref (a 0)), (1, .int x1), (2, .int x2), (4, .int x4), (5, .int x5), (6, .int x6)]) hx hb dX2_join_138 hl (by decide) rfl (fun ls hl => ?_)
  refine lv_aload_n hx hb dX2_join_140 rfl (lv_at hl 1 rfl) ?_
  refine va_get (D := D) (ci := 2) (v := .ref (a 1)) (C := RX2) (T := TX2) (N := 5) hx hb hts iwX2_join hown hK hP 0 rfl rfl 0 (by decide) (hts (.fieldLink RX2 10 "LoomPanel" "values" "LLoomPanel$Values;") flX2_join_10) (fun _ h9 => h9) rfl dX2_join_141 ?_
  refine lv_iload_n hx hb dX2_join_144 rfl (lv_at hl 2 rfl) ?_
  refine lv_iload hx hb dX2_join_145 (lv_at hl 0 rfl) ?_
  refine lv_iconst (v := 0) hx hb dX2_join_147 (by decide) ?_
  refine g_Wv (As := [.int x1, .int ((f_X1_add S x4 x6).1), .int 0]) (rest := []) ⟨hx, hb, hml, hown, hts⟩ (c_X1_copyCells l D cI cJ a hd ((f_X1_add S x4 x6).2) x1 ((f_X1_add S x4 x6).1) 0 ) (cwV 3 hts gX2_join_X1_copyCells rfl rfl rfl eeX1_copyCells ⟨Nat.le_of_ble_eq_true rfl, Nat.le_of_ble_eq_true rfl⟩) hK hN hP hI (va_recv hK hP (ci := 1) (q0 := 1) rfl rfl) hS rfl hl.1 rfl (Nat.le_of_ble_eq_true rfl) dX2_join_148 ⟨Nat.zero_le _, Nat.zero_le _⟩ (fun H locs hI hP hS => ?_)
  refine lv_aload_n hx hb dX2_join_151 rfl (lv_at hl 1 rfl) ?_
  refine va_get (D := D) (ci := 2) (v := .ref (a 1)) (C := RX2) (T := TX2) (N := 5) hx hb hts iwX2_join hown hK hP 0 rfl rfl 0 (by decide) (hts (.fieldLink RX2 10 "LoomPanel" "values" "LLoomPanel$Values;") flX2_join_10) (fun _ h9 => h9) rfl dX2_join_152 ?_
  refine lv_iload_n hx hb dX2_join_155 rfl (lv_at hl 3 rfl) ?_
  refine lv_iload hx hb dX2_join_156 (lv_at hl 0 rfl) ?_
  refine lv_iload hx hb dX2_join_158 (lv_at hl 5 rfl) ?_
  refine g_Wv (As := [.int x2, .int ((f_X1_add S x4 x6).1), .int x5]) (rest := []) ⟨hx, hb, hml, hown, hts⟩ (c_X1_copyCells l D cI cJ a hd (f_X1_copyCells ((f_X1_add S x4 x6).2) x1 ((f_X1_add S x4 x6).1) 0) x2 ((f_X1_add S x4 x6).1) x5 ) (cwV 3 hts gX2_join_X1_copyCells rfl rfl rfl eeX1_copyCells ⟨Nat.le_of_ble_eq_true rfl, Nat.le_of_ble_eq_true rfl⟩) hK hN hP hI (va_recv hK hP (ci := 1) (q0 := 1) rfl rfl) hS rfl hl.1 rfl (Nat.le_of_ble_eq_true rfl) dX2_join_160 ⟨Nat.zero_le _, Nat.zero_le _⟩ (fun H locs hI hP hS => ?_)
  refine lv_iload hx hb dX2_join_163 (lv_at hl 0 rfl) ?_
  exact r_Wi hx hb hr hlocks hP hI hS (hq.trans (by simp only [f_X2_join_c127])) dX2_join_165
def f_X2_join_c57 (S : KS) (x1 : Int32) (x2 : Int32) (x4 : Int32) : Int32 × KS := if x1 = (-1) then ((f_X2_fault 2, S)) else (if x2 = (-1) then ((f_X2_fault 2, S)) else (if ((f_X1_lengthOf S x1) + (f_X1_lengthOf S x2)) ≤ 8 then (if x4 = 7 then (if (f_X2_holdsOnlyLives S x2) = 0 then ((f_X2_fault 4, S)) else (f_X2_join_c127 S x1 x2 x4 (f_X1_lengthOf S x1) ((f_X1_lengthOf S x1) + (f_X1_lengthOf S x2)))) else (f_X2_join_c127 S x1 x2 x4 (f_X1_lengthOf S x1) ((f_X1_lengthOf S x1) + (f_X1_lengthOf S x2)))) else ((f_X2_fault 5, S))))
set_option maxHeartbeats 4000000 in
set_option maxRecDepth 100000 in
theorem w_X2_join_c57 {l : Launch} {D : va_G} {cI cJ : ClassId} {a : Nat → Nat} (hd : ∀ i j, i < 11 → j < 11 → a i = a j → i = j) {p : Program} {e : Env} {s : State} {m : MethodId} {args : Array Value} {below : List Frame} {meth : Method} {c : Code} (C : GC p s m meth c cX2_join (some .int) 8 RX2 wsX2_join args D (cw_tys cI cJ)) {v : Int32 × KS} : ∀ (S : KS) (x1 : Int32) (x2 : Int32) (x4 : Int32) (H : Heap) (locs : List Loc) (ls : Array Slot), va_P D vwCl (cw cI cJ a S) H → KInv S → va_S (kA a) s.heap H locs → lv_has ls 8 [(0, .ref (a 0)), (1, .int x1), (2, .int x2), (4, .int x4)] → v = f_X2_join_c57 S x1 x2 x4 → W p l e rmX2_join s m args below meth c H locs 0 0 (MQ below (va_Qi (fun r u => v = (r, u)) (GE D (cw cI cJ a) KInv) (kA a)) args s 0 0 (kA a)) (F0 m 57 ls []) := by
  obtain ⟨hx, hb, hr, hlocks, hml, hown, hts, hK, hN⟩ := id C
  intro S x1 x2 x4  H locs ls hP hI hS hl hq
  refine lv_iload_n hx hb dX2_join_57 rfl (lv_at hl 1 rfl) ?_
  refine lv_iconst (v := (-1)) hx hb dX2_join_58 (by decide) ?_
  refine lv_icmp_eq (tgt := 67) hx hb dX2_join_59 (by decide) (fun c_59 => ?_) (fun c_59 => ?_)
  · skip
    refine lv_iconst (v := 2) hx hb dX2_join_67 (by decide) ?_
    refine g_Si (As := [.int 2]) (rest := []) ⟨hx, hb, hml, hown, hts⟩ (c_X2_fault l 2) (va_cwS 1 hts gX2_join_X2_fault rfl rfl rfl esX2_fault ⟨Nat.le_of_ble_eq_true rfl, Nat.le_of_ble_eq_true rfl⟩) hP hS rfl hl.1 rfl (Nat.le_of_ble_eq_true rfl) dX2_join_68 ⟨Nat.zero_le _, Nat.zero_le _⟩ (fun H locs hP hS => ?_)
    exact r_Wi hx hb hr hlocks hP hI hS (hq.trans (by simp only [f_X2_join_c57, if_pos c_59])) dX2_join_71
  · skip
    refine lv_iload_n hx hb dX2_join_62 rfl (lv_at hl 2 rfl) ?_
    refine lv_iconst (v := (-1)) hx hb dX2_join_63 (by decide) ?_
    refine lv_icmp_ne (tgt := 72) hx hb dX2_join_64 (by decide) (fun c_64 => ?_) (fun c_64 => ?_)
    · skip
      refine lv_aload_n hx hb dX2_join_72 rfl (lv_at hl 0 rfl) ?_
      refine va_get (D := D) (ci := 2) (v := .ref (a 1)) (C := RX2) (T := TX2) (N := 5) hx hb hts iwX2_join hown hK hP 0 rfl rfl 0 (by decide) (hts (.fieldLink RX2 10 "LoomPanel" "values" "LLoomPanel$Values;") flX2_join_10) (fun _ h9 => h9) rfl dX2_join_73 ?_
      refine lv_iload_n hx hb dX2_join_76 rfl (lv_at hl 1 rfl) ?_
      refine g_Ri (As := [.int x1]) (rest := []) ⟨hx, hb, hml, hown, hts⟩ (c_X1_lengthOf l D cI cJ a hd S x1 ) (cwV 1 hts gX2_join_X1_lengthOf rfl rfl rfl eeX1_lengthOf ⟨Nat.le_of_ble_eq_true rfl, Nat.le_of_ble_eq_true rfl⟩) hK hN hP hI (va_recv hK hP (ci := 1) (q0 := 1) rfl rfl) hS rfl hl.1 rfl (Nat.le_of_ble_eq_true rfl) dX2_join_77 ⟨Nat.zero_le _, Nat.zero_le _⟩ (fun H locs hP hS => ?_)
      refine lv_istore (lv' := [(5, .int (f_X1_lengthOf S x1)), (0, .ref (a 0)), (1, .int x1), (2, .int x2), (4, .int x4)]) hx hb dX2_join_80 hl (by decide) rfl (fun ls hl => ?_)
      refine lv_iload hx hb dX2_join_82 (lv_at hl 0 rfl) ?_
      refine lv_aload_n hx hb dX2_join_84 rfl (lv_at hl 1 rfl) ?_
      refine va_get (D := D) (ci := 2) (v := .ref (a 1)) (C := RX2) (T := TX2) (N := 5) hx hb hts iwX2_join hown hK hP 0 rfl rfl 0 (by decide) (hts (.fieldLink RX2 10 "LoomPanel" "values" "LLoomPanel$Values;") flX2_join_10) (fun _ h9 => h9) rfl dX2_join_85 ?_
      refine lv_iload_n hx hb dX2_join_88 rfl (lv_at hl 3 rfl) ?_
      refine g_Ri (As := [.int x2]) (rest := [.int (f_X1_lengthOf S x1)]) ⟨hx, hb, hml, hown, hts⟩ (c_X1_lengthOf l D cI cJ a hd S x2 ) (cwV 1 hts gX2_join_X1_lengthOf rfl rfl rfl eeX1_lengthOf ⟨Nat.le_of_ble_eq_true rfl, Nat.le_of_ble_eq_true rfl⟩) hK hN hP hI (va_recv hK hP (ci := 1) (q0 := 1) rfl rfl) hS rfl hl.1 rfl (Nat.le_of_ble_eq_true rfl) dX2_join_89 ⟨Nat.zero_le _, Nat.zero_le _⟩ (fun H locs hP hS => ?_)
      refine lv_iadd hx hb dX2_join_92 ?_
      refine lv_istore (lv' := [(6, .int ((f_X1_lengthOf S x1) + (f_X1_lengthOf S x2))), (5, .int (f_X1_lengthOf S x1)), (0, .ref (a 0)), (1, .int x1), (2, .int x2), (4, .int x4)]) hx hb dX2_join_93 hl (by decide) rfl (fun ls hl => ?_)
      refine lv_iload hx hb dX2_join_95 (lv_at hl 0 rfl) ?_
      refine lv_bipush (v := 8) hx hb dX2_join_97 (by decide) ?_
      refine lv_icmp_le (tgt := 107) hx hb dX2_join_99 (by decide) (fun c_99 => ?_) (fun c_99 => ?_)
      · skip
        refine lv_iload hx hb dX2_join_107 (lv_at hl 5 rfl) ?_
        refine lv_bipush (v := 7) hx hb dX2_join_109 (by decide) ?_
        refine lv_icmp_ne (tgt := 127) hx hb dX2_join_111 (by decide) (fun c_111 => ?_) (fun c_111 => ?_)
        · skip
          exact w_X2_join_c127 hd C S x1 x2 x4 (f_X1_lengthOf S x1) ((f_X1_lengthOf S x1) + (f_X1_lengthOf S x2))  _ _ _ hP hI hS (lv_sub hl [2, 3, 4, 5, 1, 0] rfl) (hq.trans (by simp only [f_X2_join_c57, if_neg c_59, if_neg c_64, if_pos c_99, if_neg c_111]))
        · skip
          refine lv_aload_n hx hb dX2_join_114 rfl (lv_at hl 2 rfl) ?_
          refine lv_iload_n hx hb dX2_join_115 rfl (lv_at hl 4 rfl) ?_
          refine g_Ri (As := [.int x2]) (rest := []) ⟨hx, hb, hml, hown, hts⟩ (c_X2_holdsOnlyLives l D cI cJ a hd S x2 ) (cwV 1 hts gX2_join_X2_holdsOnlyLives rfl rfl rfl eeX2_holdsOnlyLives ⟨Nat.le_of_ble_eq_true rfl, Nat.le_of_ble_eq_true rfl⟩) hK hN hP hI (va_recv hK hP (ci := 2) (q0 := 0) rfl rfl) hS rfl hl.1 rfl (Nat.le_of_ble_eq_true rfl) dX2_join_116 ⟨Nat.zero_le _, Nat.zero_le _⟩ (fun H locs hP hS => ?_)
          refine lv_if_ne (tgt := 127) hx hb dX2_join_119 (by decide) (fun c_119 => ?_) (fun c_119 => ?_)
          · skip
            exact w_X2_join_c127 hd C S x1 x2 x4 (f_X1_lengthOf S x1) ((f_X1_lengthOf S x1) + (f_X1_lengthOf S x2))  _ _ _ hP hI hS (lv_sub hl [2, 3, 4, 5, 1, 0] rfl) (hq.trans (by simp only [f_X2_join_c57, if_neg c_59, if_neg c_64, if_pos c_99, if_pos c_111, if_neg c_119]))
          · skip
            refine lv_iconst (v := 4) hx hb dX2_join_122 (by decide) ?_
            refine g_Si (As := [.int 4]) (rest := []) ⟨hx, hb, hml, hown, hts⟩ (c_X2_fault l 4) (va_cwS 1 hts gX2_join_X2_fault rfl rfl rfl esX2_fault ⟨Nat.le_of_ble_eq_true rfl, Nat.le_of_ble_eq_true rfl⟩) hP hS rfl hl.1 rfl (Nat.le_of_ble_eq_true rfl) dX2_join_123 ⟨Nat.zero_le _, Nat.zero_le _⟩ (fun H locs hP hS => ?_)
            exact r_Wi hx hb hr hlocks hP hI hS (hq.trans (by simp only [f_X2_join_c57, if_neg c_59, if_neg c_64, if_pos c_99, if_pos c_111, if_pos c_119])) dX2_join_126
      · skip
        refine lv_iconst (v := 5) hx hb dX2_join_102 (by decide) ?_
        refine g_Si (As := [.int 5]) (rest := []) ⟨hx, hb, hml, hown, hts⟩ (c_X2_fault l 5) (va_cwS 1 hts gX2_join_X2_fault rfl rfl rfl esX2_fault ⟨Nat.le_of_ble_eq_true rfl, Nat.le_of_ble_eq_true rfl⟩) hP hS rfl hl.1 rfl (Nat.le_of_ble_eq_true rfl) dX2_join_103 ⟨Nat.zero_le _, Nat.zero_le _⟩ (fun H locs hP hS => ?_)
        exact r_Wi hx hb hr hlocks hP hI hS (hq.trans (by simp only [f_X2_join_c57, if_neg c_59, if_neg c_64, if_neg c_99])) dX2_join_106
    · skip
      refine lv_iconst (v := 2) hx hb dX2_join_67 (by decide) ?_
      refine g_Si (As := [.int 2]) (rest := []) ⟨hx, hb, hml, hown, hts⟩ (c_X2_fault l 2) (va_cwS 1 hts gX2_join_X2_fault rfl rfl rfl esX2_fault ⟨Nat.le_of_ble_eq_true rfl, Nat.le_of_ble_eq_true rfl⟩) hP hS rfl hl.1 rfl (Nat.le_of_ble_eq_true rfl) dX2_join_68 ⟨Nat.zero_le _, Nat.zero_le _⟩ (fun H locs hP hS => ?_)
      exact r_Wi hx hb hr hlocks hP hI hS (hq.trans (by simp only [f_X2_join_c57, if_neg c_59, if_pos c_64])) dX2_join_71
def f_X2_join (S : KS) (x1 : Int32) (x2 : Int32) : Int32 × KS := if (f_X1_isNumbers S x1) = 0 then (if (f_X2_isNoneOr S x1 6) = 0 then ((f_X2_fault 1, S)) else (if (f_X2_isNoneOr S x2 6) = 0 then ((f_X2_fault 1, S)) else (f_X2_join_c57 S x1 x2 (f_X1_formOf S x1)))) else (if (f_X2_isNoneOr S x2 (f_X1_formOf S x1)) = 0 then ((f_X2_fault 1, S)) else (f_X2_join_c57 S x1 x2 (f_X1_formOf S x1)))
set_option maxHeartbeats 4000000 in
set_option maxRecDepth 100000 in
theorem c_X2_join (l : Launch) (D : va_G) (cI cJ : ClassId) (a : Nat → Nat) (hd : ∀ i j, i < 11 → j < 11 → a i = a j → i = j) (S : KS) (x1 : Int32) (x2 : Int32) : GWi l yX2_join wsX2_join rmX2_join [.ref (a 0), .int x1, .int x2] D (cw_tys cI cJ) (cw cI cJ a) KInv (kA a) S (f_X2_join S x1 x2) := by
  refine GB_of (cc := cX2_join) (maxL := 8) (ret := (some .int)) (by decide) rfl (Nat.le_of_ble_eq_true rfl) ?_
  intro p e s m below meth c C hP hI ls hl
  obtain ⟨hx, hb, hr, hlocks, hml, hown, hts, hK, hN⟩ := id C
  have hS : va_S (kA a) s.heap s.heap [] := va_S.rf
  have hl : lv_has ls 8 [(0, .ref (a 0)), (1, .int x1), (2, .int x2)] := hl
  refine lv_aload_n hx hb dX2_join_0 rfl (lv_at hl 0 rfl) ?_
  refine va_get (D := D) (ci := 2) (v := .ref (a 1)) (C := RX2) (T := TX2) (N := 5) hx hb hts iwX2_join hown hK hP 0 rfl rfl 0 (by decide) (hts (.fieldLink RX2 10 "LoomPanel" "values" "LLoomPanel$Values;") flX2_join_10) (fun _ h9 => h9) rfl dX2_join_1 ?_
  refine lv_iload_n hx hb dX2_join_4 rfl (lv_at hl 1 rfl) ?_
  refine g_Ri (As := [.int x1]) (rest := []) ⟨hx, hb, hml, hown, hts⟩ (c_X1_isNumbers l D cI cJ a hd S x1 ) (cwV 1 hts gX2_join_X1_isNumbers rfl rfl rfl eeX1_isNumbers ⟨Nat.le_of_ble_eq_true rfl, Nat.le_of_ble_eq_true rfl⟩) hK hN hP hI (va_recv hK hP (ci := 1) (q0 := 1) rfl rfl) hS rfl hl.1 rfl (Nat.le_of_ble_eq_true rfl) dX2_join_5 ⟨Nat.zero_le _, Nat.zero_le _⟩ (fun H locs hP hS => ?_)
  refine lv_istore_n (lv' := [(3, .int (f_X1_isNumbers S x1)), (0, .ref (a 0)), (1, .int x1), (2, .int x2)]) hx hb dX2_join_8 rfl hl (by decide) rfl (fun ls hl => ?_)
  refine lv_aload_n hx hb dX2_join_9 rfl (lv_at hl 1 rfl) ?_
  refine va_get (D := D) (ci := 2) (v := .ref (a 1)) (C := RX2) (T := TX2) (N := 5) hx hb hts iwX2_join hown hK hP 0 rfl rfl 0 (by decide) (hts (.fieldLink RX2 10 "LoomPanel" "values" "LLoomPanel$Values;") flX2_join_10) (fun _ h9 => h9) rfl dX2_join_10 ?_
  refine lv_iload_n hx hb dX2_join_13 rfl (lv_at hl 2 rfl) ?_
  refine g_Ri (As := [.int x1]) (rest := []) ⟨hx, hb, hml, hown, hts⟩ (c_X1_formOf l D cI cJ a hd S x1 ) (cwV 1 hts gX2_join_X1_formOf rfl rfl rfl eeX1_formOf ⟨Nat.le_of_ble_eq_true rfl, Nat.le_of_ble_eq_true rfl⟩) hK hN hP hI (va_recv hK hP (ci := 1) (q0 := 1) rfl rfl) hS rfl hl.1 rfl (Nat.le_of_ble_eq_true rfl) dX2_join_14 ⟨Nat.zero_le _, Nat.zero_le _⟩ (fun H locs hP hS => ?_)
  refine lv_istore (lv' := [(4, .int (f_X1_formOf S x1)), (3, .int (f_X1_isNumbers S x1)), (0, .ref (a 0)), (1, .int x1), (2, .int x2)]) hx hb dX2_join_17 hl (by decide) rfl (fun ls hl => ?_)
  refine lv_iload_n hx hb dX2_join_19 rfl (lv_at hl 1 rfl) ?_
  refine lv_if_ne (tgt := 33) hx hb dX2_join_20 (by decide) (fun c_20 => ?_) (fun c_20 => ?_)
  · skip
    refine lv_aload_n hx hb dX2_join_33 rfl (lv_at hl 2 rfl) ?_
    refine lv_iload_n hx hb dX2_join_34 rfl (lv_at hl 4 rfl) ?_
    refine lv_iload_n hx hb dX2_join_35 rfl (lv_at hl 1 rfl) ?_
    refine lv_if_eq (tgt := 44) hx hb dX2_join_36 (by decide) (fun c_36 => ?_) (fun c_36 => ?_)
    · exact absurd c_36 c_20
    · skip
      refine lv_iload hx hb dX2_join_39 (lv_at hl 0 rfl) ?_
      refine lv_goto (tgt := 46) hx hb dX2_join_41 (by decide) ?_
      refine g_Ri (As := [.int x2, .int (f_X1_formOf S x1)]) (rest := []) ⟨hx, hb, hml, hown, hts⟩ (c_X2_isNoneOr l D cI cJ a hd S x2 (f_X1_formOf S x1) ) (cwV 2 hts gX2_join_X2_isNoneOr rfl rfl rfl eeX2_isNoneOr ⟨Nat.le_of_ble_eq_true rfl, Nat.le_of_ble_eq_true rfl⟩) hK hN hP hI (va_recv hK hP (ci := 2) (q0 := 0) rfl rfl) hS rfl hl.1 rfl (Nat.le_of_ble_eq_true rfl) dX2_join_46 ⟨Nat.zero_le _, Nat.zero_le _⟩ (fun H locs hP hS => ?_)
      refine lv_if_ne (tgt := 57) hx hb dX2_join_49 (by decide) (fun c_49 => ?_) (fun c_49 => ?_)
      · skip
        exact w_X2_join_c57 hd C S x1 x2 (f_X1_formOf S x1)  _ _ _ hP hI hS (lv_sub hl [2, 3, 4, 0] rfl) (by simp only [f_X2_join, if_neg c_20, if_neg c_49])
      · skip
        refine lv_iconst (v := 1) hx hb dX2_join_52 (by decide) ?_
        refine g_Si (As := [.int 1]) (rest := []) ⟨hx, hb, hml, hown, hts⟩ (c_X2_fault l 1) (va_cwS 1 hts gX2_join_X2_fault rfl rfl rfl esX2_fault ⟨Nat.le_of_ble_eq_true rfl, Nat.le_of_ble_eq_true rfl⟩) hP hS rfl hl.1 rfl (Nat.le_of_ble_eq_true rfl) dX2_join_53 ⟨Nat.zero_le _, Nat.zero_le _⟩ (fun H locs hP hS => ?_)
        exact r_Wi hx hb hr hlocks hP hI hS (by simp only [f_X2_join, if_neg c_20, if_pos c_49]) dX2_join_56
  · skip
    refine lv_aload_n hx hb dX2_join_23 rfl (lv_at hl 2 rfl) ?_
    refine lv_iload_n hx hb dX2_join_24 rfl (lv_at hl 3 rfl) ?_
    refine lv_bipush (v := 6) hx hb dX2_join_25 (by decide) ?_
    refine g_Ri (As := [.int x1, .int 6]) (rest := []) ⟨hx, hb, hml, hown, hts⟩ (c_X2_isNoneOr l D cI cJ a hd S x1 6 ) (cwV 2 hts gX2_join_X2_isNoneOr rfl rfl rfl eeX2_isNoneOr ⟨Nat.le_of_ble_eq_true rfl, Nat.le_of_ble_eq_true rfl⟩) hK hN hP hI (va_recv hK hP (ci := 2) (q0 := 0) rfl rfl) hS rfl hl.1 rfl (Nat.le_of_ble_eq_true rfl) dX2_join_27 ⟨Nat.zero_le _, Nat.zero_le _⟩ (fun H locs hP hS => ?_)
    refine lv_if_eq (tgt := 52) hx hb dX2_join_30 (by decide) (fun c_30 => ?_) (fun c_30 => ?_)
    · skip
      refine lv_iconst (v := 1) hx hb dX2_join_52 (by decide) ?_
      refine g_Si (As := [.int 1]) (rest := []) ⟨hx, hb, hml, hown, hts⟩ (c_X2_fault l 1) (va_cwS 1 hts gX2_join_X2_fault rfl rfl rfl esX2_fault ⟨Nat.le_of_ble_eq_true rfl, Nat.le_of_ble_eq_true rfl⟩) hP hS rfl hl.1 rfl (Nat.le_of_ble_eq_true rfl) dX2_join_53 ⟨Nat.zero_le _, Nat.zero_le _⟩ (fun H locs hP hS => ?_)
      exact r_Wi hx hb hr hlocks hP hI hS (by simp only [f_X2_join, if_pos c_20, if_pos c_30]) dX2_join_56
    · skip
      refine lv_aload_n hx hb dX2_join_33 rfl (lv_at hl 2 rfl) ?_
      refine lv_iload_n hx hb dX2_join_34 rfl (lv_at hl 4 rfl) ?_
      refine lv_iload_n hx hb dX2_join_35 rfl (lv_at hl 1 rfl) ?_
      refine lv_if_eq (tgt := 44) hx hb dX2_join_36 (by decide) (fun c_36 => ?_) (fun c_36 => ?_)
      · skip
        refine lv_bipush (v := 6) hx hb dX2_join_44 (by decide) ?_
        refine g_Ri (As := [.int x2, .int 6]) (rest := []) ⟨hx, hb, hml, hown, hts⟩ (c_X2_isNoneOr l D cI cJ a hd S x2 6 ) (cwV 2 hts gX2_join_X2_isNoneOr rfl rfl rfl eeX2_isNoneOr ⟨Nat.le_of_ble_eq_true rfl, Nat.le_of_ble_eq_true rfl⟩) hK hN hP hI (va_recv hK hP (ci := 2) (q0 := 0) rfl rfl) hS rfl hl.1 rfl (Nat.le_of_ble_eq_true rfl) dX2_join_46 ⟨Nat.zero_le _, Nat.zero_le _⟩ (fun H locs hP hS => ?_)
        refine lv_if_ne (tgt := 57) hx hb dX2_join_49 (by decide) (fun c_49 => ?_) (fun c_49 => ?_)
        · skip
          exact w_X2_join_c57 hd C S x1 x2 (f_X1_formOf S x1)  _ _ _ hP hI hS (lv_sub hl [2, 3, 4, 0] rfl) (by simp only [f_X2_join, if_pos c_20, if_neg c_30, if_neg c_49])
        · skip
          refine lv_iconst (v := 1) hx hb dX2_join_52 (by decide) ?_
          refine g_Si (As := [.int 1]) (rest := []) ⟨hx, hb, hml, hown, hts⟩ (c_X2_fault l 1) (va_cwS 1 hts gX2_join_X2_fault rfl rfl rfl esX2_fault ⟨Nat.le_of_ble_eq_true rfl, Nat.le_of_ble_eq_true rfl⟩) hP hS rfl hl.1 rfl (Nat.le_of_ble_eq_true rfl) dX2_join_53 ⟨Nat.zero_le _, Nat.zero_le _⟩ (fun H locs hP hS => ?_)
          exact r_Wi hx hb hr hlocks hP hI hS (by simp only [f_X2_join, if_pos c_20, if_neg c_30, if_pos c_49]) dX2_join_56
      · exact absurd c_20 c_36
abbrev rmX2_askedByLay : Room := { frames := 2, cells := 0, slots := 0, locals := 43 }
theorem eeX2_askedByLay : yX2_askedByLay.cls = RX2 ∧ yX2_askedByLay.cls ≠ "java/lang/invoke/MethodHandle" ∧ yX2_askedByLay.cls ≠ "java/lang/invoke/VarHandle" ∧ (parseMethodDescriptor yX2_askedByLay.desc).map (fun d => d.parameters.length) = some 1 := by decide +kernel
theorem iwX2_askedByLay : ∀ w ∈ u_ws RX2 TX2 5, w ∈ wsX2_askedByLay := by decide +kernel
theorem flX2_askedByLay_10 : Cond.fieldLink RX2 10 "LoomPanel" "values" "LLoomPanel$Values;" ∈ wsX2_askedByLay := by decide +kernel
def f_X2_askedByLay (S : KS) (x1 : Int32) : Int32 := if (f_X1_isA S x1 3) = 0 then (if (f_X1_isA S x1 9) = 0 then (if (f_X1_isA S x1 8) = 0 then (4) else (if (f_X1_isA S x1 6) = 0 then (11) else (4))) else (6)) else (1)
set_option maxHeartbeats 4000000 in
set_option maxRecDepth 100000 in
theorem c_X2_askedByLay (l : Launch) (D : va_G) (cI cJ : ClassId) (a : Nat → Nat) (hd : ∀ i j, i < 11 → j < 11 → a i = a j → i = j) (S : KS) (x1 : Int32) : GRi l yX2_askedByLay wsX2_askedByLay rmX2_askedByLay [.ref (a 0), .int x1] D (cw_tys cI cJ) (cw cI cJ a) KInv (kA a) S (f_X2_askedByLay S x1) := by
  refine GB_of (cc := cX2_askedByLay) (maxL := 2) (ret := (some .int)) (by decide) rfl (Nat.le_of_ble_eq_true rfl) ?_
  intro p e s m below meth c C hP hI ls hl
  obtain ⟨hx, hb, hr, hlocks, hml, hown, hts, hK, hN⟩ := id C
  have hS : va_S (kA a) s.heap s.heap [] := va_S.rf
  have hl : lv_has ls 2 [(0, .ref (a 0)), (1, .int x1)] := hl
  refine lv_aload_n hx hb dX2_askedByLay_0 rfl (lv_at hl 0 rfl) ?_
  refine va_get (D := D) (ci := 2) (v := .ref (a 1)) (C := RX2) (T := TX2) (N := 5) hx hb hts iwX2_askedByLay hown hK hP 0 rfl rfl 0 (by decide) (hts (.fieldLink RX2 10 "LoomPanel" "values" "LLoomPanel$Values;") flX2_askedByLay_10) (fun _ h9 => h9) rfl dX2_askedByLay_1 ?_
  refine lv_iload_n hx hb dX2_askedByLay_4 rfl (lv_at hl 1 rfl) ?_
  refine lv_iconst (v := 3) hx hb dX2_askedByLay_5 (by decide) ?_
  refine g_Ri (As := [.int x1, .int 3]) (rest := []) ⟨hx, hb, hml, hown, hts⟩ (c_X1_isA l D cI cJ a hd S x1 3 ) (cwV 2 hts gX2_askedByLay_X1_isA rfl rfl rfl eeX1_isA ⟨Nat.le_of_ble_eq_true rfl, Nat.le_of_ble_eq_true rfl⟩) hK hN hP hI (va_recv hK hP (ci := 1) (q0 := 1) rfl rfl) hS rfl hl.1 rfl (Nat.le_of_ble_eq_true rfl) dX2_askedByLay_6 ⟨Nat.zero_le _, Nat.zero_le _⟩ (fun H locs hP hS => ?_)
  refine lv_if_eq (tgt := 14) hx hb dX2_askedByLay_9 (by decide) (fun c_9 => ?_) (fun c_9 => ?_)
  · skip
    refine lv_aload_n hx hb dX2_askedByLay_14 rfl (lv_at hl 0 rfl) ?_
    refine va_get (D := D) (ci := 2) (v := .ref (a 1)) (C := RX2) (T := TX2) (N := 5) hx hb hts iwX2_askedByLay hown hK hP 0 rfl rfl 0 (by decide) (hts (.fieldLink RX2 10 "LoomPanel" "values" "LLoomPanel$Values;") flX2_askedByLay_10) (fun _ h9 => h9) rfl dX2_askedByLay_15 ?_
    refine lv_iload_n hx hb dX2_askedByLay_18 rfl (lv_at hl 1 rfl) ?_
    refine lv_bipush (v := 9) hx hb dX2_askedByLay_19 (by decide) ?_
    refine g_Ri (As := [.int x1, .int 9]) (rest := []) ⟨hx, hb, hml, hown, hts⟩ (c_X1_isA l D cI cJ a hd S x1 9 ) (cwV 2 hts gX2_askedByLay_X1_isA rfl rfl rfl eeX1_isA ⟨Nat.le_of_ble_eq_true rfl, Nat.le_of_ble_eq_true rfl⟩) hK hN hP hI (va_recv hK hP (ci := 1) (q0 := 1) rfl rfl) hS rfl hl.1 rfl (Nat.le_of_ble_eq_true rfl) dX2_askedByLay_21 ⟨Nat.zero_le _, Nat.zero_le _⟩ (fun H locs hP hS => ?_)
    refine lv_if_eq (tgt := 30) hx hb dX2_askedByLay_24 (by decide) (fun c_24 => ?_) (fun c_24 => ?_)
    · skip
      refine lv_aload_n hx hb dX2_askedByLay_30 rfl (lv_at hl 0 rfl) ?_
      refine va_get (D := D) (ci := 2) (v := .ref (a 1)) (C := RX2) (T := TX2) (N := 5) hx hb hts iwX2_askedByLay hown hK hP 0 rfl rfl 0 (by decide) (hts (.fieldLink RX2 10 "LoomPanel" "values" "LLoomPanel$Values;") flX2_askedByLay_10) (fun _ h9 => h9) rfl dX2_askedByLay_31 ?_
      refine lv_iload_n hx hb dX2_askedByLay_34 rfl (lv_at hl 1 rfl) ?_
      refine lv_bipush (v := 8) hx hb dX2_askedByLay_35 (by decide) ?_
      refine g_Ri (As := [.int x1, .int 8]) (rest := []) ⟨hx, hb, hml, hown, hts⟩ (c_X1_isA l D cI cJ a hd S x1 8 ) (cwV 2 hts gX2_askedByLay_X1_isA rfl rfl rfl eeX1_isA ⟨Nat.le_of_ble_eq_true rfl, Nat.le_of_ble_eq_true rfl⟩) hK hN hP hI (va_recv hK hP (ci := 1) (q0 := 1) rfl rfl) hS rfl hl.1 rfl (Nat.le_of_ble_eq_true rfl) dX2_askedByLay_37 ⟨Nat.zero_le _, Nat.zero_le _⟩ (fun H locs hP hS => ?_)
      refine lv_if_eq (tgt := 61) hx hb dX2_askedByLay_40 (by decide) (fun c_40 => ?_) (fun c_40 => ?_)
      · skip
        refine lv_iconst (v := 4) hx hb dX2_askedByLay_61 (by decide) ?_
        exact r_Ri hx hb hr hlocks hP hI hS (by simp only [f_X2_askedByLay, if_pos c_9, if_pos c_24, if_pos c_40]) dX2_askedByLay_62
      · skip
        refine lv_aload_n hx hb dX2_askedByLay_43 rfl (lv_at hl 0 rfl) ?_
        refine va_get (D := D) (ci := 2) (v := .ref (a 1)) (C := RX2) (T := TX2) (N := 5) hx hb hts iwX2_askedByLay hown hK hP 0 rfl rfl 0 (by decide) (hts (.fieldLink RX2 10 "LoomPanel" "values" "LLoomPanel$Values;") flX2_askedByLay_10) (fun _ h9 => h9) rfl dX2_askedByLay_44 ?_
        refine lv_iload_n hx hb dX2_askedByLay_47 rfl (lv_at hl 1 rfl) ?_
        refine lv_bipush (v := 6) hx hb dX2_askedByLay_48 (by decide) ?_
        refine g_Ri (As := [.int x1, .int 6]) (rest := []) ⟨hx, hb, hml, hown, hts⟩ (c_X1_isA l D cI cJ a hd S x1 6 ) (cwV 2 hts gX2_askedByLay_X1_isA rfl rfl rfl eeX1_isA ⟨Nat.le_of_ble_eq_true rfl, Nat.le_of_ble_eq_true rfl⟩) hK hN hP hI (va_recv hK hP (ci := 1) (q0 := 1) rfl rfl) hS rfl hl.1 rfl (Nat.le_of_ble_eq_true rfl) dX2_askedByLay_50 ⟨Nat.zero_le _, Nat.zero_le _⟩ (fun H locs hP hS => ?_)
        refine lv_if_ne (tgt := 61) hx hb dX2_askedByLay_53 (by decide) (fun c_53 => ?_) (fun c_53 => ?_)
        · skip
          refine lv_iconst (v := 4) hx hb dX2_askedByLay_61 (by decide) ?_
          exact r_Ri hx hb hr hlocks hP hI hS (by simp only [f_X2_askedByLay, if_pos c_9, if_pos c_24, if_neg c_40, if_neg c_53]) dX2_askedByLay_62
        · skip
          refine lv_bipush (v := 11) hx hb dX2_askedByLay_56 (by decide) ?_
          refine lv_goto (tgt := 62) hx hb dX2_askedByLay_58 (by decide) ?_
          exact r_Ri hx hb hr hlocks hP hI hS (by simp only [f_X2_askedByLay, if_pos c_9, if_pos c_24, if_neg c_40, if_pos c_53]) dX2_askedByLay_62
    · skip
      refine lv_bipush (v := 6) hx hb dX2_askedByLay_27 (by decide) ?_
      exact r_Ri hx hb hr hlocks hP hI hS (by simp only [f_X2_askedByLay, if_pos c_9, if_neg c_24]) dX2_askedByLay_29
  · skip
    refine lv_iconst (v := 1) hx hb dX2_askedByLay_12 (by decide) ?_
    exact r_Ri hx hb hr hlocks hP hI hS (by simp only [f_X2_askedByLay, if_neg c_9]) dX2_askedByLay_13
abbrev rmX2_takenBy : Room := { frames := 0, cells := 0, slots := 0, locals := 0 }
theorem esX2_takenBy : yX2_takenBy.cls ≠ "java/lang/invoke/MethodHandle" ∧ yX2_takenBy.cls ≠ "java/lang/invoke/VarHandle" ∧ (parseMethodDescriptor yX2_takenBy.desc).map (fun d => d.parameters.length) = some 1 := by decide +kernel
def f_X2_takenBy (x0 : Int32) : Int32 := if x0 = 3 then (1) else (if x0 = 4 then (4) else (if x0 = 5 then (4) else (if x0 = 6 then (4) else (if x0 = 7 then (5) else (if x0 = 8 then (11) else (if x0 = 9 then (6) else (if x0 = 10 then (7) else (4))))))))
set_option maxHeartbeats 4000000 in
set_option maxRecDepth 100000 in
theorem c_X2_takenBy (l : Launch) (x0 : Int32) : GSi l yX2_takenBy wsX2_takenBy rmX2_takenBy [.int x0] (f_X2_takenBy x0) := by
  refine GS_of (cc := cX2_takenBy) (maxL := 1) (ret := (some .int)) (by decide) rfl (Nat.le_of_ble_eq_true rfl) ?_
  intro p e s m below meth c C ls hl
  obtain ⟨hx, hb, hr, hlocks, hml, hown, hts⟩ := id C
  have hl : lv_has ls 1 [(0, .int x0)] := hl
  refine lv_iload_n hx hb dX2_takenBy_0 rfl (lv_at hl 0 rfl) ?_
  by_cases c_1_3 : x0 = 3
  · refine lv_tableIn (tgt := 48) hx hb dX2_takenBy_1 (by rw [c_1_3]; decide) (by rw [c_1_3]; decide) (by rw [c_1_3]; rfl) (by decide) ?_
    refine lv_iconst (v := 1) hx hb dX2_takenBy_48 (by decide) ?_
    exact r_Si hx hb hr hlocks (by simp only [f_X2_takenBy, if_pos c_1_3]) dX2_takenBy_49
  by_cases c_1_4 : x0 = 4
  · refine lv_tableIn (tgt := 61) hx hb dX2_takenBy_1 (by rw [c_1_4]; decide) (by rw [c_1_4]; decide) (by rw [c_1_4]; rfl) (by decide) ?_
    refine lv_iconst (v := 4) hx hb dX2_takenBy_61 (by decide) ?_
    exact r_Si hx hb hr hlocks (by simp only [f_X2_takenBy, if_neg c_1_3, if_pos c_1_4]) dX2_takenBy_62
  by_cases c_1_5 : x0 = 5
  · refine lv_tableIn (tgt := 61) hx hb dX2_takenBy_1 (by rw [c_1_5]; decide) (by rw [c_1_5]; decide) (by rw [c_1_5]; rfl) (by decide) ?_
    refine lv_iconst (v := 4) hx hb dX2_takenBy_61 (by decide) ?_
    exact r_Si hx hb hr hlocks (by simp only [f_X2_takenBy, if_neg c_1_3, if_neg c_1_4, if_pos c_1_5]) dX2_takenBy_62
  by_cases c_1_6 : x0 = 6
  · refine lv_tableIn (tgt := 61) hx hb dX2_takenBy_1 (by rw [c_1_6]; decide) (by rw [c_1_6]; decide) (by rw [c_1_6]; rfl) (by decide) ?_
    refine lv_iconst (v := 4) hx hb dX2_takenBy_61 (by decide) ?_
    exact r_Si hx hb hr hlocks (by simp only [f_X2_takenBy, if_neg c_1_3, if_neg c_1_4, if_neg c_1_5, if_pos c_1_6]) dX2_takenBy_62
  by_cases c_1_7 : x0 = 7
  · refine lv_tableIn (tgt := 50) hx hb dX2_takenBy_1 (by rw [c_1_7]; decide) (by rw [c_1_7]; decide) (by rw [c_1_7]; rfl) (by decide) ?_
    refine lv_iconst (v := 5) hx hb dX2_takenBy_50 (by decide) ?_
    exact r_Si hx hb hr hlocks (by simp only [f_X2_takenBy, if_neg c_1_3, if_neg c_1_4, if_neg c_1_5, if_neg c_1_6, if_pos c_1_7]) dX2_takenBy_51
  by_cases c_1_8 : x0 = 8
  · refine lv_tableIn (tgt := 52) hx hb dX2_takenBy_1 (by rw [c_1_8]; decide) (by rw [c_1_8]; decide) (by rw [c_1_8]; rfl) (by decide) ?_
    refine lv_bipush (v := 11) hx hb dX2_takenBy_52 (by decide) ?_
    exact r_Si hx hb hr hlocks (by simp only [f_X2_takenBy, if_neg c_1_3, if_neg c_1_4, if_neg c_1_5, if_neg c_1_6, if_neg c_1_7, if_pos c_1_8]) dX2_takenBy_54
  by_cases c_1_9 : x0 = 9
  · refine lv_tableIn (tgt := 55) hx hb dX2_takenBy_1 (by rw [c_1_9]; decide) (by rw [c_1_9]; decide) (by rw [c_1_9]; rfl) (by decide) ?_
    refine lv_bipush (v := 6) hx hb dX2_takenBy_55 (by decide) ?_
    exact r_Si hx hb hr hlocks (by simp only [f_X2_takenBy, if_neg c_1_3, if_neg c_1_4, if_neg c_1_5, if_neg c_1_6, if_neg c_1_7, if_neg c_1_8, if_pos c_1_9]) dX2_takenBy_57
  by_cases c_1_10 : x0 = 10
  · refine lv_tableIn (tgt := 58) hx hb dX2_takenBy_1 (by rw [c_1_10]; decide) (by rw [c_1_10]; decide) (by rw [c_1_10]; rfl) (by decide) ?_
    refine lv_bipush (v := 7) hx hb dX2_takenBy_58 (by decide) ?_
    exact r_Si hx hb hr hlocks (by simp only [f_X2_takenBy, if_neg c_1_3, if_neg c_1_4, if_neg c_1_5, if_neg c_1_6, if_neg c_1_7, if_neg c_1_8, if_neg c_1_9, if_pos c_1_10]) dX2_takenBy_60
  refine lv_tableOut (tgt := 61) hx hb dX2_takenBy_1 (by have := lv_neT (a := 3) c_1_3 (by decide); have := lv_neT (a := 4) c_1_4 (by decide); have := lv_neT (a := 5) c_1_5 (by decide); have := lv_neT (a := 6) c_1_6 (by decide); have := lv_neT (a := 7) c_1_7 (by decide); have := lv_neT (a := 8) c_1_8 (by decide); have := lv_neT (a := 9) c_1_9 (by decide); have := lv_neT (a := 10) c_1_10 (by decide); omega) (by decide) ?_
  refine lv_iconst (v := 4) hx hb dX2_takenBy_61 (by decide) ?_
  exact r_Si hx hb hr hlocks (by simp only [f_X2_takenBy, if_neg c_1_3, if_neg c_1_4, if_neg c_1_5, if_neg c_1_6, if_neg c_1_7, if_neg c_1_8, if_neg c_1_9, if_neg c_1_10]) dX2_takenBy_62
abbrev rmX2_lay : Room := { frames := 3, cells := 0, slots := 0, locals := 65 }
theorem eeX2_lay : yX2_lay.cls = RX2 ∧ yX2_lay.cls ≠ "java/lang/invoke/MethodHandle" ∧ yX2_lay.cls ≠ "java/lang/invoke/VarHandle" ∧ (parseMethodDescriptor yX2_lay.desc).map (fun d => d.parameters.length) = some 3 := by decide +kernel
theorem iwX2_lay : ∀ w ∈ u_ws RX2 TX2 5, w ∈ wsX2_lay := by decide +kernel
theorem flX2_lay_10 : Cond.fieldLink RX2 10 "LoomPanel" "values" "LLoomPanel$Values;" ∈ wsX2_lay := by decide +kernel
def f_X2_lay (S : KS) (x1 : Int32) (x2 : Int32) (x3 : Int32) : Int32 × KS := if (f_X2_isNoneOr S x2 (f_X2_askedByLay S x1)) = 0 then ((f_X2_fault 1, S)) else (if x1 = (-1) then ((f_X2_fault 2, S)) else (if (f_X2_isBoardForm (f_X1_formOf S x1)) = 0 then ((f_X2_fault 1, S)) else (if (f_X1_hasPlace S x1 x3) = 0 then ((f_X2_fault 3, S)) else (if (f_X2_isNoneOr S x2 (f_X2_takenBy (f_X1_formOf S x1))) = 0 then ((f_X2_fault 4, S)) else ((x1, f_X1_put S x1 x3 x2.toInt64))))))
set_option maxHeartbeats 4000000 in
set_option maxRecDepth 100000 in
theorem c_X2_lay (l : Launch) (D : va_G) (cI cJ : ClassId) (a : Nat → Nat) (hd : ∀ i j, i < 11 → j < 11 → a i = a j → i = j) (S : KS) (x1 : Int32) (x2 : Int32) (x3 : Int32) : GWi l yX2_lay wsX2_lay rmX2_lay [.ref (a 0), .int x1, .int x2, .int x3] D (cw_tys cI cJ) (cw cI cJ a) KInv (kA a) S (f_X2_lay S x1 x2 x3) := by
  refine GB_of (cc := cX2_lay) (maxL := 5) (ret := (some .int)) (by decide) rfl (Nat.le_of_ble_eq_true rfl) ?_
  intro p e s m below meth c C hP hI ls hl
  obtain ⟨hx, hb, hr, hlocks, hml, hown, hts, hK, hN⟩ := id C
  have hS : va_S (kA a) s.heap s.heap [] := va_S.rf
  have hl : lv_has ls 5 [(0, .ref (a 0)), (1, .int x1), (2, .int x2), (3, .int x3)] := hl
  refine lv_aload_n hx hb dX2_lay_0 rfl (lv_at hl 0 rfl) ?_
  refine lv_iload_n hx hb dX2_lay_1 rfl (lv_at hl 2 rfl) ?_
  refine lv_aload_n hx hb dX2_lay_2 rfl (lv_at hl 0 rfl) ?_
  refine lv_iload_n hx hb dX2_lay_3 rfl (lv_at hl 1 rfl) ?_
  refine g_Ri (As := [.int x1]) (rest := [.int x2, .ref (a 0)]) ⟨hx, hb, hml, hown, hts⟩ (c_X2_askedByLay l D cI cJ a hd S x1 ) (cwV 1 hts gX2_lay_X2_askedByLay rfl rfl rfl eeX2_askedByLay ⟨Nat.le_of_ble_eq_true rfl, Nat.le_of_ble_eq_true rfl⟩) hK hN hP hI (va_recv hK hP (ci := 2) (q0 := 0) rfl rfl) hS rfl hl.1 rfl (Nat.le_of_ble_eq_true rfl) dX2_lay_4 ⟨Nat.zero_le _, Nat.zero_le _⟩ (fun H locs hP hS => ?_)
  refine g_Ri (As := [.int x2, .int (f_X2_askedByLay S x1)]) (rest := []) ⟨hx, hb, hml, hown, hts⟩ (c_X2_isNoneOr l D cI cJ a hd S x2 (f_X2_askedByLay S x1) ) (cwV 2 hts gX2_lay_X2_isNoneOr rfl rfl rfl eeX2_isNoneOr ⟨Nat.le_of_ble_eq_true rfl, Nat.le_of_ble_eq_true rfl⟩) hK hN hP hI (va_recv hK hP (ci := 2) (q0 := 0) rfl rfl) hS rfl hl.1 rfl (Nat.le_of_ble_eq_true rfl) dX2_lay_7 ⟨Nat.zero_le _, Nat.zero_le _⟩ (fun H locs hP hS => ?_)
  refine lv_if_ne (tgt := 18) hx hb dX2_lay_10 (by decide) (fun c_10 => ?_) (fun c_10 => ?_)
  · skip
    refine lv_iload_n hx hb dX2_lay_18 rfl (lv_at hl 1 rfl) ?_
    refine lv_iconst (v := (-1)) hx hb dX2_lay_19 (by decide) ?_
    refine lv_icmp_ne (tgt := 28) hx hb dX2_lay_20 (by decide) (fun c_20 => ?_) (fun c_20 => ?_)
    · skip
      refine lv_aload_n hx hb dX2_lay_28 rfl (lv_at hl 0 rfl) ?_
      refine va_get (D := D) (ci := 2) (v := .ref (a 1)) (C := RX2) (T := TX2) (N := 5) hx hb hts iwX2_lay hown hK hP 0 rfl rfl 0 (by decide) (hts (.fieldLink RX2 10 "LoomPanel" "values" "LLoomPanel$Values;") flX2_lay_10) (fun _ h9 => h9) rfl dX2_lay_29 ?_
      refine lv_iload_n hx hb dX2_lay_32 rfl (lv_at hl 1 rfl) ?_
      refine g_Ri (As := [.int x1]) (rest := []) ⟨hx, hb, hml, hown, hts⟩ (c_X1_formOf l D cI cJ a hd S x1 ) (cwV 1 hts gX2_lay_X1_formOf rfl rfl rfl eeX1_formOf ⟨Nat.le_of_ble_eq_true rfl, Nat.le_of_ble_eq_true rfl⟩) hK hN hP hI (va_recv hK hP (ci := 1) (q0 := 1) rfl rfl) hS rfl hl.1 rfl (Nat.le_of_ble_eq_true rfl) dX2_lay_33 ⟨Nat.zero_le _, Nat.zero_le _⟩ (fun H locs hP hS => ?_)
      refine lv_istore (lv' := [(4, .int (f_X1_formOf S x1)), (0, .ref (a 0)), (1, .int x1), (2, .int x2), (3, .int x3)]) hx hb dX2_lay_36 hl (by decide) rfl (fun ls hl => ?_)
      refine lv_iload hx hb dX2_lay_38 (lv_at hl 0 rfl) ?_
      refine g_Si (As := [.int (f_X1_formOf S x1)]) (rest := []) ⟨hx, hb, hml, hown, hts⟩ (c_X2_isBoardForm l (f_X1_formOf S x1)) (va_cwS 1 hts gX2_lay_X2_isBoardForm rfl rfl rfl esX2_isBoardForm ⟨Nat.le_of_ble_eq_true rfl, Nat.le_of_ble_eq_true rfl⟩) hP hS rfl hl.1 rfl (Nat.le_of_ble_eq_true rfl) dX2_lay_40 ⟨Nat.zero_le _, Nat.zero_le _⟩ (fun H locs hP hS => ?_)
      refine lv_if_ne (tgt := 51) hx hb dX2_lay_43 (by decide) (fun c_43 => ?_) (fun c_43 => ?_)
      · skip
        refine lv_aload_n hx hb dX2_lay_51 rfl (lv_at hl 1 rfl) ?_
        refine va_get (D := D) (ci := 2) (v := .ref (a 1)) (C := RX2) (T := TX2) (N := 5) hx hb hts iwX2_lay hown hK hP 0 rfl rfl 0 (by decide) (hts (.fieldLink RX2 10 "LoomPanel" "values" "LLoomPanel$Values;") flX2_lay_10) (fun _ h9 => h9) rfl dX2_lay_52 ?_
        refine lv_iload_n hx hb dX2_lay_55 rfl (lv_at hl 2 rfl) ?_
        refine lv_iload_n hx hb dX2_lay_56 rfl (lv_at hl 4 rfl) ?_
        refine g_Ri (As := [.int x1, .int x3]) (rest := []) ⟨hx, hb, hml, hown, hts⟩ (c_X1_hasPlace l D cI cJ a hd S x1 x3 ) (cwV 2 hts gX2_lay_X1_hasPlace rfl rfl rfl eeX1_hasPlace ⟨Nat.le_of_ble_eq_true rfl, Nat.le_of_ble_eq_true rfl⟩) hK hN hP hI (va_recv hK hP (ci := 1) (q0 := 1) rfl rfl) hS rfl hl.1 rfl (Nat.le_of_ble_eq_true rfl) dX2_lay_57 ⟨Nat.zero_le _, Nat.zero_le _⟩ (fun H locs hP hS => ?_)
        refine lv_if_ne (tgt := 68) hx hb dX2_lay_60 (by decide) (fun c_60 => ?_) (fun c_60 => ?_)
        · skip
          refine lv_aload_n hx hb dX2_lay_68 rfl (lv_at hl 1 rfl) ?_
          refine lv_iload_n hx hb dX2_lay_69 rfl (lv_at hl 3 rfl) ?_
          refine lv_iload hx hb dX2_lay_70 (lv_at hl 0 rfl) ?_
          refine g_Si (As := [.int (f_X1_formOf S x1)]) (rest := [.int x2, .ref (a 0)]) ⟨hx, hb, hml, hown, hts⟩ (c_X2_takenBy l (f_X1_formOf S x1)) (va_cwS 1 hts gX2_lay_X2_takenBy rfl rfl rfl esX2_takenBy ⟨Nat.le_of_ble_eq_true rfl, Nat.le_of_ble_eq_true rfl⟩) hP hS rfl hl.1 rfl (Nat.le_of_ble_eq_true rfl) dX2_lay_72 ⟨Nat.zero_le _, Nat.zero_le _⟩ (fun H locs hP hS => ?_)
          refine g_Ri (As := [.int x2, .int (f_X2_takenBy (f_X1_formOf S x1))]) (rest := []) ⟨hx, hb, hml, hown, hts⟩ (c_X2_isNoneOr l D cI cJ a hd S x2 (f_X2_takenBy (f_X1_formOf S x1)) ) (cwV 2 hts gX2_lay_X2_isNoneOr rfl rfl rfl eeX2_isNoneOr ⟨Nat.le_of_ble_eq_true rfl, Nat.le_of_ble_eq_true rfl⟩) hK hN hP hI (va_recv hK hP (ci := 2) (q0 := 0) rfl rfl) hS rfl hl.1 rfl (Nat.le_of_ble_eq_true rfl) dX2_lay_75 ⟨Nat.zero_le _, Nat.zero_le _⟩ (fun H locs hP hS => ?_)
          refine lv_if_ne (tgt := 86) hx hb dX2_lay_78 (by decide) (fun c_78 => ?_) (fun c_78 => ?_)
          · skip
            refine lv_aload_n hx hb dX2_lay_86 rfl (lv_at hl 1 rfl) ?_
            refine va_get (D := D) (ci := 2) (v := .ref (a 1)) (C := RX2) (T := TX2) (N := 5) hx hb hts iwX2_lay hown hK hP 0 rfl rfl 0 (by decide) (hts (.fieldLink RX2 10 "LoomPanel" "values" "LLoomPanel$Values;") flX2_lay_10) (fun _ h9 => h9) rfl dX2_lay_87 ?_
            refine lv_iload_n hx hb dX2_lay_90 rfl (lv_at hl 2 rfl) ?_
            refine lv_iload_n hx hb dX2_lay_91 rfl (lv_at hl 4 rfl) ?_
            refine lv_iload_n hx hb dX2_lay_92 rfl (lv_at hl 3 rfl) ?_
            refine lv_i2l (v := x2.toInt64) hx hb dX2_lay_93 rfl ?_
            refine g_Wv (As := [.int x1, .int x3, .long x2.toInt64]) (rest := []) ⟨hx, hb, hml, hown, hts⟩ (c_X1_put l D cI cJ a hd S x1 x3 x2.toInt64 ) (cwV 3 hts gX2_lay_X1_put rfl rfl rfl eeX1_put ⟨Nat.le_of_ble_eq_true rfl, Nat.le_of_ble_eq_true rfl⟩) hK hN hP hI (va_recv hK hP (ci := 1) (q0 := 1) rfl rfl) hS rfl hl.1 rfl (Nat.le_of_ble_eq_true rfl) dX2_lay_94 ⟨Nat.zero_le _, Nat.zero_le _⟩ (fun H locs hI hP hS => ?_)
            refine lv_iload_n hx hb dX2_lay_97 rfl (lv_at hl 2 rfl) ?_
            exact r_Wi hx hb hr hlocks hP hI hS (by simp only [f_X2_lay, if_neg c_10, if_neg c_20, if_neg c_43, if_neg c_60, if_neg c_78]) dX2_lay_98
          · skip
            refine lv_iconst (v := 4) hx hb dX2_lay_81 (by decide) ?_
            refine g_Si (As := [.int 4]) (rest := []) ⟨hx, hb, hml, hown, hts⟩ (c_X2_fault l 4) (va_cwS 1 hts gX2_lay_X2_fault rfl rfl rfl esX2_fault ⟨Nat.le_of_ble_eq_true rfl, Nat.le_of_ble_eq_true rfl⟩) hP hS rfl hl.1 rfl (Nat.le_of_ble_eq_true rfl) dX2_lay_82 ⟨Nat.zero_le _, Nat.zero_le _⟩ (fun H locs hP hS => ?_)
            exact r_Wi hx hb hr hlocks hP hI hS (by simp only [f_X2_lay, if_neg c_10, if_neg c_20, if_neg c_43, if_neg c_60, if_pos c_78]) dX2_lay_85
        · skip
          refine lv_iconst (v := 3) hx hb dX2_lay_63 (by decide) ?_
          refine g_Si (As := [.int 3]) (rest := []) ⟨hx, hb, hml, hown, hts⟩ (c_X2_fault l 3) (va_cwS 1 hts gX2_lay_X2_fault rfl rfl rfl esX2_fault ⟨Nat.le_of_ble_eq_true rfl, Nat.le_of_ble_eq_true rfl⟩) hP hS rfl hl.1 rfl (Nat.le_of_ble_eq_true rfl) dX2_lay_64 ⟨Nat.zero_le _, Nat.zero_le _⟩ (fun H locs hP hS => ?_)
          exact r_Wi hx hb hr hlocks hP hI hS (by simp only [f_X2_lay, if_neg c_10, if_neg c_20, if_neg c_43, if_pos c_60]) dX2_lay_67
      · skip
        refine lv_iconst (v := 1) hx hb dX2_lay_46 (by decide) ?_
        refine g_Si (As := [.int 1]) (rest := []) ⟨hx, hb, hml, hown, hts⟩ (c_X2_fault l 1) (va_cwS 1 hts gX2_lay_X2_fault rfl rfl rfl esX2_fault ⟨Nat.le_of_ble_eq_true rfl, Nat.le_of_ble_eq_true rfl⟩) hP hS rfl hl.1 rfl (Nat.le_of_ble_eq_true rfl) dX2_lay_47 ⟨Nat.zero_le _, Nat.zero_le _⟩ (fun H locs hP hS => ?_)
        exact r_Wi hx hb hr hlocks hP hI hS (by simp only [f_X2_lay, if_neg c_10, if_neg c_20, if_pos c_43]) dX2_lay_50
    · skip
      refine lv_iconst (v := 2) hx hb dX2_lay_23 (by decide) ?_
      refine g_Si (As := [.int 2]) (rest := []) ⟨hx, hb, hml, hown, hts⟩ (c_X2_fault l 2) (va_cwS 1 hts gX2_lay_X2_fault rfl rfl rfl esX2_fault ⟨Nat.le_of_ble_eq_true rfl, Nat.le_of_ble_eq_true rfl⟩) hP hS rfl hl.1 rfl (Nat.le_of_ble_eq_true rfl) dX2_lay_24 ⟨Nat.zero_le _, Nat.zero_le _⟩ (fun H locs hP hS => ?_)
      exact r_Wi hx hb hr hlocks hP hI hS (by simp only [f_X2_lay, if_neg c_10, if_pos c_20]) dX2_lay_27
  · skip
    refine lv_iconst (v := 1) hx hb dX2_lay_13 (by decide) ?_
    refine g_Si (As := [.int 1]) (rest := []) ⟨hx, hb, hml, hown, hts⟩ (c_X2_fault l 1) (va_cwS 1 hts gX2_lay_X2_fault rfl rfl rfl esX2_fault ⟨Nat.le_of_ble_eq_true rfl, Nat.le_of_ble_eq_true rfl⟩) hP hS rfl hl.1 rfl (Nat.le_of_ble_eq_true rfl) dX2_lay_14 ⟨Nat.zero_le _, Nat.zero_le _⟩ (fun H locs hP hS => ?_)
    exact r_Wi hx hb hr hlocks hP hI hS (by simp only [f_X2_lay, if_pos c_10]) dX2_lay_17
abbrev rmX2_levelsTimes : Room := { frames := 2, cells := 0, slots := 0, locals := 46 }
theorem eeX2_levelsTimes : yX2_levelsTimes.cls = RX2 ∧ yX2_levelsTimes.cls ≠ "java/lang/invoke/MethodHandle" ∧ yX2_levelsTimes.cls ≠ "java/lang/invoke/VarHandle" ∧ (parseMethodDescriptor yX2_levelsTimes.desc).map (fun d => d.parameters.length) = some 2 := by decide +kernel
theorem iwX2_levelsTimes : ∀ w ∈ u_ws RX2 TX2 5, w ∈ wsX2_levelsTimes := by decide +kernel
theorem flX2_levelsTimes_10 : Cond.fieldLink RX2 10 "LoomPanel" "values" "LLoomPanel$Values;" ∈ wsX2_levelsTimes := by decide +kernel
def f_X2_levelsTimes_c25 : Nat → KS → Int32 → Int64 → Int32 → Int32 → Nat → Int32 × KS
  | 0, S, _, _, _, _, _ => (0, S)
  | n + 1, S, x1, x2, x4, x5, j => if x4 ≤ (nI j) then ((x5, S)) else (f_X2_levelsTimes_c25 n (f_X1_put S x5 (nI j) (x2 * ((f_X1_levelOf S (f_X1_placed S x1 (nI j))).toInt64))) x1 x2 x4 x5 (j + 1))
set_option maxHeartbeats 4000000 in
set_option maxRecDepth 100000 in
theorem w_X2_levelsTimes_c25 {l : Launch} {D : va_G} {cI cJ : ClassId} {a : Nat → Nat} (hd : ∀ i j, i < 11 → j < 11 → a i = a j → i = j) {p : Program} {e : Env} {s : State} {m : MethodId} {args : Array Value} {below : List Frame} {meth : Method} {c : Code} (C : GC p s m meth c cX2_levelsTimes (some .int) 7 RX2 wsX2_levelsTimes args D (cw_tys cI cJ)) {v : Int32 × KS} : ∀ (n : Nat) (S : KS) (x1 : Int32) (x2 : Int64) (x4 : Int32) (x5 : Int32) (j : Nat) (hb8 : x4.toInt ≤ 8) (hj : j ≤ 8) (hn : j + n = 9) (H : Heap) (locs : List Loc) (ls : Array Slot), va_P D vwCl (cw cI cJ a S) H → KInv S → va_S (kA a) s.heap H locs → lv_has ls 7 [(0, .ref (a 0)), (1, .int x1), (2, .long x2), (4, .int x4), (5, .int x5), (6, .int (nI j))] → v = f_X2_levelsTimes_c25 n S x1 x2 x4 x5 j → W p l e rmX2_levelsTimes s m args below meth c H locs 0 0 (MQ below (va_Qi (fun r u => v = (r, u)) (GE D (cw cI cJ a) KInv) (kA a)) args s 0 0 (kA a)) (F0 m 25 ls []) := by
  obtain ⟨hx, hb, hr, hlocks, hml, hown, hts, hK, hN⟩ := id C
  intro n
  induction n with
  | zero =>
    intro S x1 x2 x4 x5 j hb8 hj hn H locs ls hP hI hS hl hq
    exact absurd hn (by omega)
  | succ n ih =>
    intro S x1 x2 x4 x5 j hb8 hj hn H locs ls hP hI hS hl hq
    refine lv_iload hx hb dX2_levelsTimes_25 (lv_at hl 5 rfl) ?_
    refine lv_iload hx hb dX2_levelsTimes_27 (lv_at hl 3 rfl) ?_
    refine lv_icmp_ge (tgt := 69) hx hb dX2_levelsTimes_29 (by decide) (fun c_29 => ?_) (fun c_29 => ?_)
    · skip
      refine lv_iload hx hb dX2_levelsTimes_69 (lv_at hl 4 rfl) ?_
      exact r_Wi hx hb hr hlocks hP hI hS (hq.trans (by simp only [f_X2_levelsTimes_c25, if_pos c_29])) dX2_levelsTimes_71
    · skip
      refine lv_aload_n hx hb dX2_levelsTimes_32 rfl (lv_at hl 0 rfl) ?_
      refine va_get (D := D) (ci := 2) (v := .ref (a 1)) (C := RX2) (T := TX2) (N := 5) hx hb hts iwX2_levelsTimes hown hK hP 0 rfl rfl 0 (by decide) (hts (.fieldLink RX2 10 "LoomPanel" "values" "LLoomPanel$Values;") flX2_levelsTimes_10) (fun _ h9 => h9) rfl dX2_levelsTimes_33 ?_
      refine lv_iload hx hb dX2_levelsTimes_36 (lv_at hl 4 rfl) ?_
      refine lv_iload hx hb dX2_levelsTimes_38 (lv_at hl 5 rfl) ?_
      refine lv_lload_n hx hb dX2_levelsTimes_40 rfl (lv_at hl 2 rfl) ?_
      refine lv_aload_n hx hb dX2_levelsTimes_41 rfl (lv_at hl 0 rfl) ?_
      refine va_get (D := D) (ci := 2) (v := .ref (a 1)) (C := RX2) (T := TX2) (N := 5) hx hb hts iwX2_levelsTimes hown hK hP 0 rfl rfl 0 (by decide) (hts (.fieldLink RX2 10 "LoomPanel" "values" "LLoomPanel$Values;") flX2_levelsTimes_10) (fun _ h9 => h9) rfl dX2_levelsTimes_42 ?_
      refine lv_aload_n hx hb dX2_levelsTimes_45 rfl (lv_at hl 0 rfl) ?_
      refine va_get (D := D) (ci := 2) (v := .ref (a 1)) (C := RX2) (T := TX2) (N := 5) hx hb hts iwX2_levelsTimes hown hK hP 0 rfl rfl 0 (by decide) (hts (.fieldLink RX2 10 "LoomPanel" "values" "LLoomPanel$Values;") flX2_levelsTimes_10) (fun _ h9 => h9) rfl dX2_levelsTimes_46 ?_
      refine lv_iload_n hx hb dX2_levelsTimes_49 rfl (lv_at hl 1 rfl) ?_
      refine lv_iload hx hb dX2_levelsTimes_50 (lv_at hl 5 rfl) ?_
      refine g_Ri (As := [.int x1, .int (nI j)]) (rest := [.ref (a 1), .long x2, .int (nI j), .int x5, .ref (a 1)]) ⟨hx, hb, hml, hown, hts⟩ (c_X1_placed l D cI cJ a hd S x1 (nI j) ) (cwV 2 hts gX2_levelsTimes_X1_placed rfl rfl rfl eeX1_placed ⟨Nat.le_of_ble_eq_true rfl, Nat.le_of_ble_eq_true rfl⟩) hK hN hP hI (va_recv hK hP (ci := 1) (q0 := 1) rfl rfl) hS rfl hl.1 rfl (Nat.le_of_ble_eq_true rfl) dX2_levelsTimes_52 ⟨Nat.zero_le _, Nat.zero_le _⟩ (fun H locs hP hS => ?_)
      refine g_Ri (As := [.int (f_X1_placed S x1 (nI j))]) (rest := [.long x2, .int (nI j), .int x5, .ref (a 1)]) ⟨hx, hb, hml, hown, hts⟩ (c_X1_levelOf l D cI cJ a hd S (f_X1_placed S x1 (nI j)) ) (cwV 1 hts gX2_levelsTimes_X1_levelOf rfl rfl rfl eeX1_levelOf ⟨Nat.le_of_ble_eq_true rfl, Nat.le_of_ble_eq_true rfl⟩) hK hN hP hI (va_recv hK hP (ci := 1) (q0 := 1) rfl rfl) hS rfl hl.1 rfl (Nat.le_of_ble_eq_true rfl) dX2_levelsTimes_55 ⟨Nat.zero_le _, Nat.zero_le _⟩ (fun H locs hP hS => ?_)
      refine lv_i2l (v := (f_X1_levelOf S (f_X1_placed S x1 (nI j))).toInt64) hx hb dX2_levelsTimes_58 rfl ?_
      refine lv_lmul hx hb dX2_levelsTimes_59 ?_
      refine g_Wv (As := [.int x5, .int (nI j), .long (x2 * ((f_X1_levelOf S (f_X1_placed S x1 (nI j))).toInt64))]) (rest := []) ⟨hx, hb, hml, hown, hts⟩ (c_X1_put l D cI cJ a hd S x5 (nI j) (x2 * ((f_X1_levelOf S (f_X1_placed S x1 (nI j))).toInt64)) ) (cwV 3 hts gX2_levelsTimes_X1_put rfl rfl rfl eeX1_put ⟨Nat.le_of_ble_eq_true rfl, Nat.le_of_ble_eq_true rfl⟩) hK hN hP hI (va_recv hK hP (ci := 1) (q0 := 1) rfl rfl) hS rfl hl.1 rfl (Nat.le_of_ble_eq_true rfl) dX2_levelsTimes_60 ⟨Nat.zero_le _, Nat.zero_le _⟩ (fun H locs hI hP hS => ?_)
      refine lv_iinc (v := nI (j + 1)) (lv' := [(6, .int (nI (j + 1))), (0, .ref (a 0)), (1, .int x1), (2, .long x2), (4, .int x4), (5, .int x5)]) hx hb dX2_levelsTimes_63 hl (k := 5) rfl (nI_1 _) (by decide) rfl (fun ls hl => ?_)
      refine lv_goto (tgt := 25) hx hb dX2_levelsTimes_66 (by decide) ?_
      exact ih (f_X1_put S x5 (nI j) (x2 * ((f_X1_levelOf S (f_X1_placed S x1 (nI j))).toInt64))) x1 x2 x4 x5 (j + 1) hb8 (jl8 c_29 hb8 hj) (by omega) _ _ _ hP hI hS (lv_sub hl [1, 2, 3, 4, 5, 0] rfl) (hq.trans (by simp only [f_X2_levelsTimes_c25, if_neg c_29]))
def f_X2_levelsTimes (S : KS) (x1 : Int32) (x2 : Int64) : Int32 × KS := f_X2_levelsTimes_c25 9 ((f_X1_add S 1 (f_X1_lengthOf S x1)).2) x1 x2 (f_X1_lengthOf S x1) ((f_X1_add S 1 (f_X1_lengthOf S x1)).1) 0
set_option maxHeartbeats 4000000 in
set_option maxRecDepth 100000 in
theorem c_X2_levelsTimes (l : Launch) (D : va_G) (cI cJ : ClassId) (a : Nat → Nat) (hd : ∀ i j, i < 11 → j < 11 → a i = a j → i = j) (S : KS) (x1 : Int32) (x2 : Int64) : GWi l yX2_levelsTimes wsX2_levelsTimes rmX2_levelsTimes [.ref (a 0), .int x1, .long x2] D (cw_tys cI cJ) (cw cI cJ a) KInv (kA a) S (f_X2_levelsTimes S x1 x2) := by
  refine GB_of (cc := cX2_levelsTimes) (maxL := 7) (ret := (some .int)) (by decide) rfl (Nat.le_of_ble_eq_true rfl) ?_
  intro p e s m below meth c C hP hI ls hl
  obtain ⟨hx, hb, hr, hlocks, hml, hown, hts, hK, hN⟩ := id C
  have hS : va_S (kA a) s.heap s.heap [] := va_S.rf
  have hl : lv_has ls 7 [(0, .ref (a 0)), (1, .int x1), (2, .long x2)] := hl
  refine lv_aload_n hx hb dX2_levelsTimes_0 rfl (lv_at hl 0 rfl) ?_
  refine va_get (D := D) (ci := 2) (v := .ref (a 1)) (C := RX2) (T := TX2) (N := 5) hx hb hts iwX2_levelsTimes hown hK hP 0 rfl rfl 0 (by decide) (hts (.fieldLink RX2 10 "LoomPanel" "values" "LLoomPanel$Values;") flX2_levelsTimes_10) (fun _ h9 => h9) rfl dX2_levelsTimes_1 ?_
  refine lv_iload_n hx hb dX2_levelsTimes_4 rfl (lv_at hl 1 rfl) ?_
  refine g_Ri (As := [.int x1]) (rest := []) ⟨hx, hb, hml, hown, hts⟩ (c_X1_lengthOf l D cI cJ a hd S x1 ) (cwV 1 hts gX2_levelsTimes_X1_lengthOf rfl rfl rfl eeX1_lengthOf ⟨Nat.le_of_ble_eq_true rfl, Nat.le_of_ble_eq_true rfl⟩) hK hN hP hI (va_recv hK hP (ci := 1) (q0 := 1) rfl rfl) hS rfl hl.1 rfl (Nat.le_of_ble_eq_true rfl) dX2_levelsTimes_5 ⟨Nat.zero_le _, Nat.zero_le _⟩ (fun H locs hP hS => ?_)
  refine lv_istore (lv' := [(4, .int (f_X1_lengthOf S x1)), (0, .ref (a 0)), (1, .int x1), (2, .long x2)]) hx hb dX2_levelsTimes_8 hl (by decide) rfl (fun ls hl => ?_)
  have hLe := (lengthOf_le (x := x1) hI).2
  refine lv_aload_n hx hb dX2_levelsTimes_10 rfl (lv_at hl 1 rfl) ?_
  refine va_get (D := D) (ci := 2) (v := .ref (a 1)) (C := RX2) (T := TX2) (N := 5) hx hb hts iwX2_levelsTimes hown hK hP 0 rfl rfl 0 (by decide) (hts (.fieldLink RX2 10 "LoomPanel" "values" "LLoomPanel$Values;") flX2_levelsTimes_10) (fun _ h9 => h9) rfl dX2_levelsTimes_11 ?_
  refine lv_iconst (v := 1) hx hb dX2_levelsTimes_14 (by decide) ?_
  refine lv_iload hx hb dX2_levelsTimes_15 (lv_at hl 0 rfl) ?_
  refine g_Wi (As := [.int 1, .int (f_X1_lengthOf S x1)]) (rest := []) ⟨hx, hb, hml, hown, hts⟩ (c_X1_add l D cI cJ a hd S 1 (f_X1_lengthOf S x1) ) (cwV 2 hts gX2_levelsTimes_X1_add rfl rfl rfl eeX1_add ⟨Nat.le_of_ble_eq_true rfl, Nat.le_of_ble_eq_true rfl⟩) hK hN hP hI (va_recv hK hP (ci := 1) (q0 := 1) rfl rfl) hS rfl hl.1 rfl (Nat.le_of_ble_eq_true rfl) dX2_levelsTimes_17 ⟨Nat.zero_le _, Nat.zero_le _⟩ (fun H locs hI hP hS => ?_)
  refine lv_istore (lv' := [(5, .int ((f_X1_add S 1 (f_X1_lengthOf S x1)).1)), (4, .int (f_X1_lengthOf S x1)), (0, .ref (a 0)), (1, .int x1), (2, .long x2)]) hx hb dX2_levelsTimes_20 hl (by decide) rfl (fun ls hl => ?_)
  refine lv_iconst (v := 0) hx hb dX2_levelsTimes_22 (by decide) ?_
  refine lv_istore (lv' := [(6, .int 0), (5, .int ((f_X1_add S 1 (f_X1_lengthOf S x1)).1)), (4, .int (f_X1_lengthOf S x1)), (0, .ref (a 0)), (1, .int x1), (2, .long x2)]) hx hb dX2_levelsTimes_23 hl (by decide) rfl (fun ls hl => ?_)
  exact w_X2_levelsTimes_c25 hd C 9 ((f_X1_add S 1 (f_X1_lengthOf S x1)).2) x1 x2 (f_X1_lengthOf S x1) ((f_X1_add S 1 (f_X1_lengthOf S x1)).1) 0 hLe (Nat.zero_le _) rfl _ _ _ hP hI hS (lv_sub hl [3, 4, 5, 2, 1, 0] rfl) (by simp only [f_X2_levelsTimes])
abbrev rmX2_levels : Room := { frames := 3, cells := 0, slots := 0, locals := 72 }
theorem eeX2_levels : yX2_levels.cls = RX2 ∧ yX2_levels.cls ≠ "java/lang/invoke/MethodHandle" ∧ yX2_levels.cls ≠ "java/lang/invoke/VarHandle" ∧ (parseMethodDescriptor yX2_levels.desc).map (fun d => d.parameters.length) = some 1 := by decide +kernel
theorem iwX2_levels : ∀ w ∈ u_ws RX2 TX2 5, w ∈ wsX2_levels := by decide +kernel
theorem flX2_levels_10 : Cond.fieldLink RX2 10 "LoomPanel" "values" "LLoomPanel$Values;" ∈ wsX2_levels := by decide +kernel
def f_X2_levels (S : KS) (x1 : Int32) : Int32 × KS := if x1 = (-1) then ((f_X2_fault 2, S)) else (if (f_X1_isA S x1 6) = 0 then (if (f_X1_isA S x1 8) = 0 then ((f_X2_fault 1, S)) else (((f_X2_levelsTimes S x1 1).1, (f_X2_levelsTimes S x1 1).2))) else (((f_X2_levelsTimes S x1 1).1, (f_X2_levelsTimes S x1 1).2)))
set_option maxHeartbeats 4000000 in
set_option maxRecDepth 100000 in
theorem c_X2_levels (l : Launch) (D : va_G) (cI cJ : ClassId) (a : Nat → Nat) (hd : ∀ i j, i < 11 → j < 11 → a i = a j → i = j) (S : KS) (x1 : Int32) : GWi l yX2_levels wsX2_levels rmX2_levels [.ref (a 0), .int x1] D (cw_tys cI cJ) (cw cI cJ a) KInv (kA a) S (f_X2_levels S x1) := by
  refine GB_of (cc := cX2_levels) (maxL := 2) (ret := (some .int)) (by decide) rfl (Nat.le_of_ble_eq_true rfl) ?_
  intro p e s m below meth c C hP hI ls hl
  obtain ⟨hx, hb, hr, hlocks, hml, hown, hts, hK, hN⟩ := id C
  have hS : va_S (kA a) s.heap s.heap [] := va_S.rf
  have hl : lv_has ls 2 [(0, .ref (a 0)), (1, .int x1)] := hl
  refine lv_iload_n hx hb dX2_levels_0 rfl (lv_at hl 1 rfl) ?_
  refine lv_iconst (v := (-1)) hx hb dX2_levels_1 (by decide) ?_
  refine lv_icmp_ne (tgt := 10) hx hb dX2_levels_2 (by decide) (fun c_2 => ?_) (fun c_2 => ?_)
  · skip
    refine lv_aload_n hx hb dX2_levels_10 rfl (lv_at hl 0 rfl) ?_
    refine va_get (D := D) (ci := 2) (v := .ref (a 1)) (C := RX2) (T := TX2) (N := 5) hx hb hts iwX2_levels hown hK hP 0 rfl rfl 0 (by decide) (hts (.fieldLink RX2 10 "LoomPanel" "values" "LLoomPanel$Values;") flX2_levels_10) (fun _ h9 => h9) rfl dX2_levels_11 ?_
    refine lv_iload_n hx hb dX2_levels_14 rfl (lv_at hl 1 rfl) ?_
    refine lv_bipush (v := 6) hx hb dX2_levels_15 (by decide) ?_
    refine g_Ri (As := [.int x1, .int 6]) (rest := []) ⟨hx, hb, hml, hown, hts⟩ (c_X1_isA l D cI cJ a hd S x1 6 ) (cwV 2 hts gX2_levels_X1_isA rfl rfl rfl eeX1_isA ⟨Nat.le_of_ble_eq_true rfl, Nat.le_of_ble_eq_true rfl⟩) hK hN hP hI (va_recv hK hP (ci := 1) (q0 := 1) rfl rfl) hS rfl hl.1 rfl (Nat.le_of_ble_eq_true rfl) dX2_levels_17 ⟨Nat.zero_le _, Nat.zero_le _⟩ (fun H locs hP hS => ?_)
    refine lv_if_ne (tgt := 41) hx hb dX2_levels_20 (by decide) (fun c_20 => ?_) (fun c_20 => ?_)
    · skip
      refine lv_aload_n hx hb dX2_levels_41 rfl (lv_at hl 0 rfl) ?_
      refine lv_iload_n hx hb dX2_levels_42 rfl (lv_at hl 1 rfl) ?_
      refine lv_lconst (v := 1) hx hb dX2_levels_43 (by decide) ?_
      refine g_Wi (As := [.int x1, .long 1]) (rest := []) ⟨hx, hb, hml, hown, hts⟩ (c_X2_levelsTimes l D cI cJ a hd S x1 1 ) (cwV 2 hts gX2_levels_X2_levelsTimes rfl rfl rfl eeX2_levelsTimes ⟨Nat.le_of_ble_eq_true rfl, Nat.le_of_ble_eq_true rfl⟩) hK hN hP hI (va_recv hK hP (ci := 2) (q0 := 0) rfl rfl) hS rfl hl.1 rfl (Nat.le_of_ble_eq_true rfl) dX2_levels_44 ⟨Nat.zero_le _, Nat.zero_le _⟩ (fun H locs hI hP hS => ?_)
      exact r_Wi hx hb hr hlocks hP hI hS (by simp only [f_X2_levels, if_neg c_2, if_neg c_20]) dX2_levels_47
    · skip
      refine lv_aload_n hx hb dX2_levels_23 rfl (lv_at hl 0 rfl) ?_
      refine va_get (D := D) (ci := 2) (v := .ref (a 1)) (C := RX2) (T := TX2) (N := 5) hx hb hts iwX2_levels hown hK hP 0 rfl rfl 0 (by decide) (hts (.fieldLink RX2 10 "LoomPanel" "values" "LLoomPanel$Values;") flX2_levels_10) (fun _ h9 => h9) rfl dX2_levels_24 ?_
      refine lv_iload_n hx hb dX2_levels_27 rfl (lv_at hl 1 rfl) ?_
      refine lv_bipush (v := 8) hx hb dX2_levels_28 (by decide) ?_
      refine g_Ri (As := [.int x1, .int 8]) (rest := []) ⟨hx, hb, hml, hown, hts⟩ (c_X1_isA l D cI cJ a hd S x1 8 ) (cwV 2 hts gX2_levels_X1_isA rfl rfl rfl eeX1_isA ⟨Nat.le_of_ble_eq_true rfl, Nat.le_of_ble_eq_true rfl⟩) hK hN hP hI (va_recv hK hP (ci := 1) (q0 := 1) rfl rfl) hS rfl hl.1 rfl (Nat.le_of_ble_eq_true rfl) dX2_levels_30 ⟨Nat.zero_le _, Nat.zero_le _⟩ (fun H locs hP hS => ?_)
      refine lv_if_ne (tgt := 41) hx hb dX2_levels_33 (by decide) (fun c_33 => ?_) (fun c_33 => ?_)
      · skip
        refine lv_aload_n hx hb dX2_levels_41 rfl (lv_at hl 0 rfl) ?_
        refine lv_iload_n hx hb dX2_levels_42 rfl (lv_at hl 1 rfl) ?_
        refine lv_lconst (v := 1) hx hb dX2_levels_43 (by decide) ?_
        refine g_Wi (As := [.int x1, .long 1]) (rest := []) ⟨hx, hb, hml, hown, hts⟩ (c_X2_levelsTimes l D cI cJ a hd S x1 1 ) (cwV 2 hts gX2_levels_X2_levelsTimes rfl rfl rfl eeX2_levelsTimes ⟨Nat.le_of_ble_eq_true rfl, Nat.le_of_ble_eq_true rfl⟩) hK hN hP hI (va_recv hK hP (ci := 2) (q0 := 0) rfl rfl) hS rfl hl.1 rfl (Nat.le_of_ble_eq_true rfl) dX2_levels_44 ⟨Nat.zero_le _, Nat.zero_le _⟩ (fun H locs hI hP hS => ?_)
        exact r_Wi hx hb hr hlocks hP hI hS (by simp only [f_X2_levels, if_neg c_2, if_pos c_20, if_neg c_33]) dX2_levels_47
      · skip
        refine lv_iconst (v := 1) hx hb dX2_levels_36 (by decide) ?_
        refine g_Si (As := [.int 1]) (rest := []) ⟨hx, hb, hml, hown, hts⟩ (c_X2_fault l 1) (va_cwS 1 hts gX2_levels_X2_fault rfl rfl rfl esX2_fault ⟨Nat.le_of_ble_eq_true rfl, Nat.le_of_ble_eq_true rfl⟩) hP hS rfl hl.1 rfl (Nat.le_of_ble_eq_true rfl) dX2_levels_37 ⟨Nat.zero_le _, Nat.zero_le _⟩ (fun H locs hP hS => ?_)
        exact r_Wi hx hb hr hlocks hP hI hS (by simp only [f_X2_levels, if_neg c_2, if_pos c_20, if_pos c_33]) dX2_levels_40
  · skip
    refine lv_iconst (v := 2) hx hb dX2_levels_5 (by decide) ?_
    refine g_Si (As := [.int 2]) (rest := []) ⟨hx, hb, hml, hown, hts⟩ (c_X2_fault l 2) (va_cwS 1 hts gX2_levels_X2_fault rfl rfl rfl esX2_fault ⟨Nat.le_of_ble_eq_true rfl, Nat.le_of_ble_eq_true rfl⟩) hP hS rfl hl.1 rfl (Nat.le_of_ble_eq_true rfl) dX2_levels_6 ⟨Nat.zero_le _, Nat.zero_le _⟩ (fun H locs hP hS => ?_)
    exact r_Wi hx hb hr hlocks hP hI hS (by simp only [f_X2_levels, if_pos c_2]) dX2_levels_9
abbrev rmX2_makeCable : Room := { frames := 2, cells := 0, slots := 0, locals := 45 }
theorem eeX2_makeCable : yX2_makeCable.cls = RX2 ∧ yX2_makeCable.cls ≠ "java/lang/invoke/MethodHandle" ∧ yX2_makeCable.cls ≠ "java/lang/invoke/VarHandle" ∧ (parseMethodDescriptor yX2_makeCable.desc).map (fun d => d.parameters.length) = some 1 := by decide +kernel
theorem iwX2_makeCable : ∀ w ∈ u_ws RX2 TX2 5, w ∈ wsX2_makeCable := by decide +kernel
theorem flX2_makeCable_10 : Cond.fieldLink RX2 10 "LoomPanel" "values" "LLoomPanel$Values;" ∈ wsX2_makeCable := by decide +kernel
def f_X2_makeCable (S : KS) (x1 : Int32) : Int32 × KS := if (f_X2_isLength x1) = 0 then ((f_X2_fault 5, S)) else (((f_X1_add S 6 x1).1, (f_X1_add S 6 x1).2))
set_option maxHeartbeats 4000000 in
set_option maxRecDepth 100000 in
theorem c_X2_makeCable (l : Launch) (D : va_G) (cI cJ : ClassId) (a : Nat → Nat) (hd : ∀ i j, i < 11 → j < 11 → a i = a j → i = j) (S : KS) (x1 : Int32) : GWi l yX2_makeCable wsX2_makeCable rmX2_makeCable [.ref (a 0), .int x1] D (cw_tys cI cJ) (cw cI cJ a) KInv (kA a) S (f_X2_makeCable S x1) := by
  refine GB_of (cc := cX2_makeCable) (maxL := 2) (ret := (some .int)) (by decide) rfl (Nat.le_of_ble_eq_true rfl) ?_
  intro p e s m below meth c C hP hI ls hl
  obtain ⟨hx, hb, hr, hlocks, hml, hown, hts, hK, hN⟩ := id C
  have hS : va_S (kA a) s.heap s.heap [] := va_S.rf
  have hl : lv_has ls 2 [(0, .ref (a 0)), (1, .int x1)] := hl
  refine lv_iload_n hx hb dX2_makeCable_0 rfl (lv_at hl 1 rfl) ?_
  refine g_Si (As := [.int x1]) (rest := []) ⟨hx, hb, hml, hown, hts⟩ (c_X2_isLength l x1) (va_cwS 1 hts gX2_makeCable_X2_isLength rfl rfl rfl esX2_isLength ⟨Nat.le_of_ble_eq_true rfl, Nat.le_of_ble_eq_true rfl⟩) hP hS rfl hl.1 rfl (Nat.le_of_ble_eq_true rfl) dX2_makeCable_1 ⟨Nat.zero_le _, Nat.zero_le _⟩ (fun H locs hP hS => ?_)
  refine lv_if_eq (tgt := 20) hx hb dX2_makeCable_4 (by decide) (fun c_4 => ?_) (fun c_4 => ?_)
  · skip
    refine lv_iconst (v := 5) hx hb dX2_makeCable_20 (by decide) ?_
    refine g_Si (As := [.int 5]) (rest := []) ⟨hx, hb, hml, hown, hts⟩ (c_X2_fault l 5) (va_cwS 1 hts gX2_makeCable_X2_fault rfl rfl rfl esX2_fault ⟨Nat.le_of_ble_eq_true rfl, Nat.le_of_ble_eq_true rfl⟩) hP hS rfl hl.1 rfl (Nat.le_of_ble_eq_true rfl) dX2_makeCable_21 ⟨Nat.zero_le _, Nat.zero_le _⟩ (fun H locs hP hS => ?_)
    exact r_Wi hx hb hr hlocks hP hI hS (by simp only [f_X2_makeCable, if_pos c_4]) dX2_makeCable_24
  · skip
    refine lv_aload_n hx hb dX2_makeCable_7 rfl (lv_at hl 0 rfl) ?_
    refine va_get (D := D) (ci := 2) (v := .ref (a 1)) (C := RX2) (T := TX2) (N := 5) hx hb hts iwX2_makeCable hown hK hP 0 rfl rfl 0 (by decide) (hts (.fieldLink RX2 10 "LoomPanel" "values" "LLoomPanel$Values;") flX2_makeCable_10) (fun _ h9 => h9) rfl dX2_makeCable_8 ?_
    refine lv_bipush (v := 6) hx hb dX2_makeCable_11 (by decide) ?_
    refine lv_iload_n hx hb dX2_makeCable_13 rfl (lv_at hl 1 rfl) ?_
    refine g_Wi (As := [.int 6, .int x1]) (rest := []) ⟨hx, hb, hml, hown, hts⟩ (c_X1_add l D cI cJ a hd S 6 x1 ) (cwV 2 hts gX2_makeCable_X1_add rfl rfl rfl eeX1_add ⟨Nat.le_of_ble_eq_true rfl, Nat.le_of_ble_eq_true rfl⟩) hK hN hP hI (va_recv hK hP (ci := 1) (q0 := 1) rfl rfl) hS rfl hl.1 rfl (Nat.le_of_ble_eq_true rfl) dX2_makeCable_14 ⟨Nat.zero_le _, Nat.zero_le _⟩ (fun H locs hI hP hS => ?_)
    refine lv_goto (tgt := 24) hx hb dX2_makeCable_17 (by decide) ?_
    exact r_Wi hx hb hr hlocks hP hI hS (by simp only [f_X2_makeCable, if_neg c_4]) dX2_makeCable_24
abbrev rmX2_makes : Room := { frames := 2, cells := 0, slots := 0, locals := 43 }
theorem eeX2_makes : yX2_makes.cls = RX2 ∧ yX2_makes.cls ≠ "java/lang/invoke/MethodHandle" ∧ yX2_makes.cls ≠ "java/lang/invoke/VarHandle" ∧ (parseMethodDescriptor yX2_makes.desc).map (fun d => d.parameters.length) = some 2 := by decide +kernel
theorem iwX2_makes : ∀ w ∈ u_ws RX2 TX2 5, w ∈ wsX2_makes := by decide +kernel
theorem flX2_makes_10 : Cond.fieldLink RX2 10 "LoomPanel" "values" "LLoomPanel$Values;" ∈ wsX2_makes := by decide +kernel
def f_X2_makes (S : KS) (x1 : Int32) (x2 : Int32) : Int32 := if x1 = 3 then (0) else (if x1 = 4 then (0) else (if x1 = 5 then (1) else (if x1 = 6 then (if (f_X1_isA S x2 1) = 0 then (1) else (1 + (f_X1_lengthOf S x2))) else (if x1 = 7 then (1) else (if x1 = 8 then (1) else (if x1 = 9 then (1) else (if x1 = 10 then (1) else (if x1 = 11 then (1) else (if x1 = 12 then (0) else (1))))))))))
set_option maxHeartbeats 4000000 in
set_option maxRecDepth 100000 in
theorem c_X2_makes (l : Launch) (D : va_G) (cI cJ : ClassId) (a : Nat → Nat) (hd : ∀ i j, i < 11 → j < 11 → a i = a j → i = j) (S : KS) (x1 : Int32) (x2 : Int32) : GRi l yX2_makes wsX2_makes rmX2_makes [.ref (a 0), .int x1, .int x2] D (cw_tys cI cJ) (cw cI cJ a) KInv (kA a) S (f_X2_makes S x1 x2) := by
  refine GB_of (cc := cX2_makes) (maxL := 3) (ret := (some .int)) (by decide) rfl (Nat.le_of_ble_eq_true rfl) ?_
  intro p e s m below meth c C hP hI ls hl
  obtain ⟨hx, hb, hr, hlocks, hml, hown, hts, hK, hN⟩ := id C
  have hS : va_S (kA a) s.heap s.heap [] := va_S.rf
  have hl : lv_has ls 3 [(0, .ref (a 0)), (1, .int x1), (2, .int x2)] := hl
  refine lv_iload_n hx hb dX2_makes_0 rfl (lv_at hl 1 rfl) ?_
  by_cases c_1_3 : x1 = 3
  · refine lv_tableIn (tgt := 56) hx hb dX2_makes_1 (by rw [c_1_3]; decide) (by rw [c_1_3]; decide) (by rw [c_1_3]; rfl) (by decide) ?_
    refine lv_iconst (v := 0) hx hb dX2_makes_56 (by decide) ?_
    exact r_Ri hx hb hr hlocks hP hI hS (by simp only [f_X2_makes, if_pos c_1_3]) dX2_makes_57
  by_cases c_1_4 : x1 = 4
  · refine lv_tableIn (tgt := 56) hx hb dX2_makes_1 (by rw [c_1_4]; decide) (by rw [c_1_4]; decide) (by rw [c_1_4]; rfl) (by decide) ?_
    refine lv_iconst (v := 0) hx hb dX2_makes_56 (by decide) ?_
    exact r_Ri hx hb hr hlocks hP hI hS (by simp only [f_X2_makes, if_neg c_1_3, if_pos c_1_4]) dX2_makes_57
  by_cases c_1_5 : x1 = 5
  · refine lv_tableIn (tgt := 85) hx hb dX2_makes_1 (by rw [c_1_5]; decide) (by rw [c_1_5]; decide) (by rw [c_1_5]; rfl) (by decide) ?_
    refine lv_iconst (v := 1) hx hb dX2_makes_85 (by decide) ?_
    exact r_Ri hx hb hr hlocks hP hI hS (by simp only [f_X2_makes, if_neg c_1_3, if_neg c_1_4, if_pos c_1_5]) dX2_makes_86
  by_cases c_1_6 : x1 = 6
  · refine lv_tableIn (tgt := 58) hx hb dX2_makes_1 (by rw [c_1_6]; decide) (by rw [c_1_6]; decide) (by rw [c_1_6]; rfl) (by decide) ?_
    refine lv_aload_n hx hb dX2_makes_58 rfl (lv_at hl 0 rfl) ?_
    refine va_get (D := D) (ci := 2) (v := .ref (a 1)) (C := RX2) (T := TX2) (N := 5) hx hb hts iwX2_makes hown hK hP 0 rfl rfl 0 (by decide) (hts (.fieldLink RX2 10 "LoomPanel" "values" "LLoomPanel$Values;") flX2_makes_10) (fun _ h9 => h9) rfl dX2_makes_59 ?_
    refine lv_iload_n hx hb dX2_makes_62 rfl (lv_at hl 2 rfl) ?_
    refine lv_iconst (v := 1) hx hb dX2_makes_63 (by decide) ?_
    refine g_Ri (As := [.int x2, .int 1]) (rest := []) ⟨hx, hb, hml, hown, hts⟩ (c_X1_isA l D cI cJ a hd S x2 1 ) (cwV 2 hts gX2_makes_X1_isA rfl rfl rfl eeX1_isA ⟨Nat.le_of_ble_eq_true rfl, Nat.le_of_ble_eq_true rfl⟩) hK hN hP hI (va_recv hK hP (ci := 1) (q0 := 1) rfl rfl) hS rfl hl.1 rfl (Nat.le_of_ble_eq_true rfl) dX2_makes_64 ⟨Nat.zero_le _, Nat.zero_le _⟩ (fun H locs hP hS => ?_)
    refine lv_if_eq (tgt := 83) hx hb dX2_makes_67 (by decide) (fun c_67 => ?_) (fun c_67 => ?_)
    · skip
      refine lv_iconst (v := 1) hx hb dX2_makes_83 (by decide) ?_
      exact r_Ri hx hb hr hlocks hP hI hS (by simp only [f_X2_makes, if_neg c_1_3, if_neg c_1_4, if_neg c_1_5, if_pos c_1_6, if_pos c_67]) dX2_makes_84
    · skip
      refine lv_iconst (v := 1) hx hb dX2_makes_70 (by decide) ?_
      refine lv_aload_n hx hb dX2_makes_71 rfl (lv_at hl 0 rfl) ?_
      refine va_get (D := D) (ci := 2) (v := .ref (a 1)) (C := RX2) (T := TX2) (N := 5) hx hb hts iwX2_makes hown hK hP 0 rfl rfl 0 (by decide) (hts (.fieldLink RX2 10 "LoomPanel" "values" "LLoomPanel$Values;") flX2_makes_10) (fun _ h9 => h9) rfl dX2_makes_72 ?_
      refine lv_iload_n hx hb dX2_makes_75 rfl (lv_at hl 2 rfl) ?_
      refine g_Ri (As := [.int x2]) (rest := [.int 1]) ⟨hx, hb, hml, hown, hts⟩ (c_X1_lengthOf l D cI cJ a hd S x2 ) (cwV 1 hts gX2_makes_X1_lengthOf rfl rfl rfl eeX1_lengthOf ⟨Nat.le_of_ble_eq_true rfl, Nat.le_of_ble_eq_true rfl⟩) hK hN hP hI (va_recv hK hP (ci := 1) (q0 := 1) rfl rfl) hS rfl hl.1 rfl (Nat.le_of_ble_eq_true rfl) dX2_makes_76 ⟨Nat.zero_le _, Nat.zero_le _⟩ (fun H locs hP hS => ?_)
      refine lv_iadd hx hb dX2_makes_79 ?_
      refine lv_goto (tgt := 84) hx hb dX2_makes_80 (by decide) ?_
      exact r_Ri hx hb hr hlocks hP hI hS (by simp only [f_X2_makes, if_neg c_1_3, if_neg c_1_4, if_neg c_1_5, if_pos c_1_6, if_neg c_67]) dX2_makes_84
  by_cases c_1_7 : x1 = 7
  · refine lv_tableIn (tgt := 85) hx hb dX2_makes_1 (by rw [c_1_7]; decide) (by rw [c_1_7]; decide) (by rw [c_1_7]; rfl) (by decide) ?_
    refine lv_iconst (v := 1) hx hb dX2_makes_85 (by decide) ?_
    exact r_Ri hx hb hr hlocks hP hI hS (by simp only [f_X2_makes, if_neg c_1_3, if_neg c_1_4, if_neg c_1_5, if_neg c_1_6, if_pos c_1_7]) dX2_makes_86
  by_cases c_1_8 : x1 = 8
  · refine lv_tableIn (tgt := 85) hx hb dX2_makes_1 (by rw [c_1_8]; decide) (by rw [c_1_8]; decide) (by rw [c_1_8]; rfl) (by decide) ?_
    refine lv_iconst (v := 1) hx hb dX2_makes_85 (by decide) ?_
    exact r_Ri hx hb hr hlocks hP hI hS (by simp only [f_X2_makes, if_neg c_1_3, if_neg c_1_4, if_neg c_1_5, if_neg c_1_6, if_neg c_1_7, if_pos c_1_8]) dX2_makes_86
  by_cases c_1_9 : x1 = 9
  · refine lv_tableIn (tgt := 85) hx hb dX2_makes_1 (by rw [c_1_9]; decide) (by rw [c_1_9]; decide) (by rw [c_1_9]; rfl) (by decide) ?_
    refine lv_iconst (v := 1) hx hb dX2_makes_85 (by decide) ?_
    exact r_Ri hx hb hr hlocks hP hI hS (by simp only [f_X2_makes, if_neg c_1_3, if_neg c_1_4, if_neg c_1_5, if_neg c_1_6, if_neg c_1_7, if_neg c_1_8, if_pos c_1_9]) dX2_makes_86
  by_cases c_1_10 : x1 = 10
  · refine lv_tableIn (tgt := 85) hx hb dX2_makes_1 (by rw [c_1_10]; decide) (by rw [c_1_10]; decide) (by rw [c_1_10]; rfl) (by decide) ?_
    refine lv_iconst (v := 1) hx hb dX2_makes_85 (by decide) ?_
    exact r_Ri hx hb hr hlocks hP hI hS (by simp only [f_X2_makes, if_neg c_1_3, if_neg c_1_4, if_neg c_1_5, if_neg c_1_6, if_neg c_1_7, if_neg c_1_8, if_neg c_1_9, if_pos c_1_10]) dX2_makes_86
  by_cases c_1_11 : x1 = 11
  · refine lv_tableIn (tgt := 85) hx hb dX2_makes_1 (by rw [c_1_11]; decide) (by rw [c_1_11]; decide) (by rw [c_1_11]; rfl) (by decide) ?_
    refine lv_iconst (v := 1) hx hb dX2_makes_85 (by decide) ?_
    exact r_Ri hx hb hr hlocks hP hI hS (by simp only [f_X2_makes, if_neg c_1_3, if_neg c_1_4, if_neg c_1_5, if_neg c_1_6, if_neg c_1_7, if_neg c_1_8, if_neg c_1_9, if_neg c_1_10, if_pos c_1_11]) dX2_makes_86
  by_cases c_1_12 : x1 = 12
  · refine lv_tableIn (tgt := 56) hx hb dX2_makes_1 (by rw [c_1_12]; decide) (by rw [c_1_12]; decide) (by rw [c_1_12]; rfl) (by decide) ?_
    refine lv_iconst (v := 0) hx hb dX2_makes_56 (by decide) ?_
    exact r_Ri hx hb hr hlocks hP hI hS (by simp only [f_X2_makes, if_neg c_1_3, if_neg c_1_4, if_neg c_1_5, if_neg c_1_6, if_neg c_1_7, if_neg c_1_8, if_neg c_1_9, if_neg c_1_10, if_neg c_1_11, if_pos c_1_12]) dX2_makes_57
  refine lv_tableOut (tgt := 85) hx hb dX2_makes_1 (by have := lv_neT (a := 3) c_1_3 (by decide); have := lv_neT (a := 4) c_1_4 (by decide); have := lv_neT (a := 5) c_1_5 (by decide); have := lv_neT (a := 6) c_1_6 (by decide); have := lv_neT (a := 7) c_1_7 (by decide); have := lv_neT (a := 8) c_1_8 (by decide); have := lv_neT (a := 9) c_1_9 (by decide); have := lv_neT (a := 10) c_1_10 (by decide); have := lv_neT (a := 11) c_1_11 (by decide); have := lv_neT (a := 12) c_1_12 (by decide); omega) (by decide) ?_
  refine lv_iconst (v := 1) hx hb dX2_makes_85 (by decide) ?_
  exact r_Ri hx hb hr hlocks hP hI hS (by simp only [f_X2_makes, if_neg c_1_3, if_neg c_1_4, if_neg c_1_5, if_neg c_1_6, if_neg c_1_7, if_neg c_1_8, if_neg c_1_9, if_neg c_1_10, if_neg c_1_11, if_neg c_1_12]) dX2_makes_86
abbrev rmX2_narrow : Room := { frames := 4, cells := 0, slots := 0, locals := 94 }
theorem eeX2_narrow : yX2_narrow.cls = RX2 ∧ yX2_narrow.cls ≠ "java/lang/invoke/MethodHandle" ∧ yX2_narrow.cls ≠ "java/lang/invoke/VarHandle" ∧ (parseMethodDescriptor yX2_narrow.desc).map (fun d => d.parameters.length) = some 1 := by decide +kernel
theorem iwX2_narrow : ∀ w ∈ u_ws RX2 TX2 5, w ∈ wsX2_narrow := by decide +kernel
theorem flX2_narrow_10 : Cond.fieldLink RX2 10 "LoomPanel" "values" "LLoomPanel$Values;" ∈ wsX2_narrow := by decide +kernel
def f_X2_narrow (S : KS) (x1 : Int32) : Int32 × KS := if x1 = (-1) then ((f_X2_fault 2, S)) else (if (f_X1_isA S x1 2) = 0 then (if (f_X1_isA S x1 1) = 0 then ((f_X2_fault 1, S)) else (((f_X1_addCopy S x1 0).1, (f_X1_addCopy S x1 0).2))) else (((f_X1_addCopy S x1 1).1, (f_X1_addCopy S x1 1).2)))
set_option maxHeartbeats 4000000 in
set_option maxRecDepth 100000 in
theorem c_X2_narrow (l : Launch) (D : va_G) (cI cJ : ClassId) (a : Nat → Nat) (hd : ∀ i j, i < 11 → j < 11 → a i = a j → i = j) (S : KS) (x1 : Int32) : GWi l yX2_narrow wsX2_narrow rmX2_narrow [.ref (a 0), .int x1] D (cw_tys cI cJ) (cw cI cJ a) KInv (kA a) S (f_X2_narrow S x1) := by
  refine GB_of (cc := cX2_narrow) (maxL := 2) (ret := (some .int)) (by decide) rfl (Nat.le_of_ble_eq_true rfl) ?_
  intro p e s m below meth c C hP hI ls hl
  obtain ⟨hx, hb, hr, hlocks, hml, hown, hts, hK, hN⟩ := id C
  have hS : va_S (kA a) s.heap s.heap [] := va_S.rf
  have hl : lv_has ls 2 [(0, .ref (a 0)), (1, .int x1)] := hl
  refine lv_iload_n hx hb dX2_narrow_0 rfl (lv_at hl 1 rfl) ?_
  refine lv_iconst (v := (-1)) hx hb dX2_narrow_1 (by decide) ?_
  refine lv_icmp_ne (tgt := 10) hx hb dX2_narrow_2 (by decide) (fun c_2 => ?_) (fun c_2 => ?_)
  · skip
    refine lv_aload_n hx hb dX2_narrow_10 rfl (lv_at hl 0 rfl) ?_
    refine va_get (D := D) (ci := 2) (v := .ref (a 1)) (C := RX2) (T := TX2) (N := 5) hx hb hts iwX2_narrow hown hK hP 0 rfl rfl 0 (by decide) (hts (.fieldLink RX2 10 "LoomPanel" "values" "LLoomPanel$Values;") flX2_narrow_10) (fun _ h9 => h9) rfl dX2_narrow_11 ?_
    refine lv_iload_n hx hb dX2_narrow_14 rfl (lv_at hl 1 rfl) ?_
    refine lv_iconst (v := 2) hx hb dX2_narrow_15 (by decide) ?_
    refine g_Ri (As := [.int x1, .int 2]) (rest := []) ⟨hx, hb, hml, hown, hts⟩ (c_X1_isA l D cI cJ a hd S x1 2 ) (cwV 2 hts gX2_narrow_X1_isA rfl rfl rfl eeX1_isA ⟨Nat.le_of_ble_eq_true rfl, Nat.le_of_ble_eq_true rfl⟩) hK hN hP hI (va_recv hK hP (ci := 1) (q0 := 1) rfl rfl) hS rfl hl.1 rfl (Nat.le_of_ble_eq_true rfl) dX2_narrow_16 ⟨Nat.zero_le _, Nat.zero_le _⟩ (fun H locs hP hS => ?_)
    refine lv_if_eq (tgt := 32) hx hb dX2_narrow_19 (by decide) (fun c_19 => ?_) (fun c_19 => ?_)
    · skip
      refine lv_aload_n hx hb dX2_narrow_32 rfl (lv_at hl 0 rfl) ?_
      refine va_get (D := D) (ci := 2) (v := .ref (a 1)) (C := RX2) (T := TX2) (N := 5) hx hb hts iwX2_narrow hown hK hP 0 rfl rfl 0 (by decide) (hts (.fieldLink RX2 10 "LoomPanel" "values" "LLoomPanel$Values;") flX2_narrow_10) (fun _ h9 => h9) rfl dX2_narrow_33 ?_
      refine lv_iload_n hx hb dX2_narrow_36 rfl (lv_at hl 1 rfl) ?_
      refine lv_iconst (v := 1) hx hb dX2_narrow_37 (by decide) ?_
      refine g_Ri (As := [.int x1, .int 1]) (rest := []) ⟨hx, hb, hml, hown, hts⟩ (c_X1_isA l D cI cJ a hd S x1 1 ) (cwV 2 hts gX2_narrow_X1_isA rfl rfl rfl eeX1_isA ⟨Nat.le_of_ble_eq_true rfl, Nat.le_of_ble_eq_true rfl⟩) hK hN hP hI (va_recv hK hP (ci := 1) (q0 := 1) rfl rfl) hS rfl hl.1 rfl (Nat.le_of_ble_eq_true rfl) dX2_narrow_38 ⟨Nat.zero_le _, Nat.zero_le _⟩ (fun H locs hP hS => ?_)
      refine lv_if_eq (tgt := 56) hx hb dX2_narrow_41 (by decide) (fun c_41 => ?_) (fun c_41 => ?_)
      · skip
        refine lv_iconst (v := 1) hx hb dX2_narrow_56 (by decide) ?_
        refine g_Si (As := [.int 1]) (rest := []) ⟨hx, hb, hml, hown, hts⟩ (c_X2_fault l 1) (va_cwS 1 hts gX2_narrow_X2_fault rfl rfl rfl esX2_fault ⟨Nat.le_of_ble_eq_true rfl, Nat.le_of_ble_eq_true rfl⟩) hP hS rfl hl.1 rfl (Nat.le_of_ble_eq_true rfl) dX2_narrow_57 ⟨Nat.zero_le _, Nat.zero_le _⟩ (fun H locs hP hS => ?_)
        exact r_Wi hx hb hr hlocks hP hI hS (by simp only [f_X2_narrow, if_neg c_2, if_pos c_19, if_pos c_41]) dX2_narrow_60
      · skip
        refine lv_aload_n hx hb dX2_narrow_44 rfl (lv_at hl 0 rfl) ?_
        refine va_get (D := D) (ci := 2) (v := .ref (a 1)) (C := RX2) (T := TX2) (N := 5) hx hb hts iwX2_narrow hown hK hP 0 rfl rfl 0 (by decide) (hts (.fieldLink RX2 10 "LoomPanel" "values" "LLoomPanel$Values;") flX2_narrow_10) (fun _ h9 => h9) rfl dX2_narrow_45 ?_
        refine lv_iload_n hx hb dX2_narrow_48 rfl (lv_at hl 1 rfl) ?_
        refine lv_iconst (v := 0) hx hb dX2_narrow_49 (by decide) ?_
        refine g_Wi (As := [.int x1, .int 0]) (rest := []) ⟨hx, hb, hml, hown, hts⟩ (c_X1_addCopy l D cI cJ a hd S x1 0 ) (cwV 2 hts gX2_narrow_X1_addCopy rfl rfl rfl eeX1_addCopy ⟨Nat.le_of_ble_eq_true rfl, Nat.le_of_ble_eq_true rfl⟩) hK hN hP hI (va_recv hK hP (ci := 1) (q0 := 1) rfl rfl) hS rfl hl.1 rfl (Nat.le_of_ble_eq_true rfl) dX2_narrow_50 ⟨Nat.zero_le _, Nat.zero_le _⟩ (fun H locs hI hP hS => ?_)
        refine lv_goto (tgt := 60) hx hb dX2_narrow_53 (by decide) ?_
        exact r_Wi hx hb hr hlocks hP hI hS (by simp only [f_X2_narrow, if_neg c_2, if_pos c_19, if_neg c_41]) dX2_narrow_60
    · skip
      refine lv_aload_n hx hb dX2_narrow_22 rfl (lv_at hl 0 rfl) ?_
      refine va_get (D := D) (ci := 2) (v := .ref (a 1)) (C := RX2) (T := TX2) (N := 5) hx hb hts iwX2_narrow hown hK hP 0 rfl rfl 0 (by decide) (hts (.fieldLink RX2 10 "LoomPanel" "values" "LLoomPanel$Values;") flX2_narrow_10) (fun _ h9 => h9) rfl dX2_narrow_23 ?_
      refine lv_iload_n hx hb dX2_narrow_26 rfl (lv_at hl 1 rfl) ?_
      refine lv_iconst (v := 1) hx hb dX2_narrow_27 (by decide) ?_
      refine g_Wi (As := [.int x1, .int 1]) (rest := []) ⟨hx, hb, hml, hown, hts⟩ (c_X1_addCopy l D cI cJ a hd S x1 1 ) (cwV 2 hts gX2_narrow_X1_addCopy rfl rfl rfl eeX1_addCopy ⟨Nat.le_of_ble_eq_true rfl, Nat.le_of_ble_eq_true rfl⟩) hK hN hP hI (va_recv hK hP (ci := 1) (q0 := 1) rfl rfl) hS rfl hl.1 rfl (Nat.le_of_ble_eq_true rfl) dX2_narrow_28 ⟨Nat.zero_le _, Nat.zero_le _⟩ (fun H locs hI hP hS => ?_)
      exact r_Wi hx hb hr hlocks hP hI hS (by simp only [f_X2_narrow, if_neg c_2, if_neg c_19]) dX2_narrow_31
  · skip
    refine lv_iconst (v := 2) hx hb dX2_narrow_5 (by decide) ?_
    refine g_Si (As := [.int 2]) (rest := []) ⟨hx, hb, hml, hown, hts⟩ (c_X2_fault l 2) (va_cwS 1 hts gX2_narrow_X2_fault rfl rfl rfl esX2_fault ⟨Nat.le_of_ble_eq_true rfl, Nat.le_of_ble_eq_true rfl⟩) hP hS rfl hl.1 rfl (Nat.le_of_ble_eq_true rfl) dX2_narrow_6 ⟨Nat.zero_le _, Nat.zero_le _⟩ (fun H locs hP hS => ?_)
    exact r_Wi hx hb hr hlocks hP hI hS (by simp only [f_X2_narrow, if_pos c_2]) dX2_narrow_9
