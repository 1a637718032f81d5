abbrev rmX2_pair : Room := { frames := 3, cells := 0, slots := 0, locals := 65 }
theorem eeX2_pair : yX2_pair.cls = RX2 ∧ yX2_pair.cls ≠ "java/lang/invoke/MethodHandle" ∧ yX2_pair.cls ≠ "java/lang/invoke/VarHandle" ∧ (parseMethodDescriptor yX2_pair.desc).map (fun d => d.parameters.length) = some 3 := by decide +kernel
theorem iwX2_pair : ∀ w ∈ u_ws RX2 TX2 5, w ∈ wsX2_pair := by decide +kernel
theorem flX2_pair_10 : Cond.fieldLink RX2 10 "LoomPanel" "values" "LLoomPanel$Values;" ∈ wsX2_pair := by decide +kernel
def f_X2_pair_c38 (S : KS) (x1 : Int32) (x2 : Int32) (x3 : Int32) : Int32 × KS := if x1 = (-1) then ((f_X2_fault 2, S)) else (if x2 = (-1) then ((f_X2_fault 2, S)) else (if x3 = 0 then (((f_X1_add S 9 2).1, f_X1_put (f_X1_put ((f_X1_add S 9 2).2) ((f_X1_add S 9 2).1) 0 x1.toInt64) ((f_X1_add S 9 2).1) 1 x2.toInt64)) else (((f_X1_add S 10 2).1, f_X1_put (f_X1_put ((f_X1_add S 10 2).2) ((f_X1_add S 10 2).1) 0 x1.toInt64) ((f_X1_add S 10 2).1) 1 x2.toInt64))))
set_option maxHeartbeats 4000000 in
set_option maxRecDepth 100000 in
theorem w_X2_pair_c38 {l : Launch} {D : va_G} {cI cJ : ClassId} {a : Nat → Nat} (hd : ∀ i j, i < 11 → j < 11 → a i = a j → i = j) {p : Program} {e : Env} {s : State} {m : MethodId} {args : Array Value} {below : List Frame} {meth : Method} {c : Code} (C : GC p s m meth c cX2_pair (some .int) 6 RX2 wsX2_pair args D (cw_tys cI cJ)) {v : Int32 × KS} : ∀ (S : KS) (x1 : Int32) (x2 : Int32) (x3 : Int32) (H : Heap) (locs : List Loc) (ls : Array Slot), va_P D vwCl (cw cI cJ a S) H → KInv S → va_S (kA a) s.heap H locs → lv_has ls 6 [(0, .ref (a 0)), (1, .int x1), (2, .int x2), (3, .int x3)] → v = f_X2_pair_c38 S x1 x2 x3 → W p l e rmX2_pair s m args below meth c H locs 0 0 (MQ below (va_Qi (fun r u => v = (r, u)) (GE D (cw cI cJ a) KInv) (kA a)) args s 0 0 (kA a)) (F0 m 38 ls []) := by
  obtain ⟨hx, hb, hr, hlocks, hml, hown, hts, hK, hN⟩ := id C
  intro S x1 x2 x3  H locs ls hP hI hS hl hq
  refine lv_iload_n hx hb dX2_pair_38 rfl (lv_at hl 1 rfl) ?_
  refine lv_iconst (v := (-1)) hx hb dX2_pair_39 (by decide) ?_
  refine lv_icmp_eq (tgt := 48) hx hb dX2_pair_40 (by decide) (fun c_40 => ?_) (fun c_40 => ?_)
  · skip
    refine lv_iconst (v := 2) hx hb dX2_pair_48 (by decide) ?_
    refine g_Si (As := [.int 2]) (rest := []) ⟨hx, hb, hml, hown, hts⟩ (c_X2_fault l 2) (va_cwS 1 hts gX2_pair_X2_fault rfl rfl rfl esX2_fault ⟨Nat.le_of_ble_eq_true rfl, Nat.le_of_ble_eq_true rfl⟩) hP hS rfl hl.1 rfl (Nat.le_of_ble_eq_true rfl) dX2_pair_49 ⟨Nat.zero_le _, Nat.zero_le _⟩ (fun H locs hP hS => ?_)
    exact r_Wi hx hb hr hlocks hP hI hS (hq.trans (by simp only [f_X2_pair_c38, if_pos c_40])) dX2_pair_52
  · skip
    refine lv_iload_n hx hb dX2_pair_43 rfl (lv_at hl 2 rfl) ?_
    refine lv_iconst (v := (-1)) hx hb dX2_pair_44 (by decide) ?_
    refine lv_icmp_ne (tgt := 53) hx hb dX2_pair_45 (by decide) (fun c_45 => ?_) (fun c_45 => ?_)
    · skip
      refine lv_aload_n hx hb dX2_pair_53 rfl (lv_at hl 0 rfl) ?_
      refine va_get (D := D) (ci := 2) (v := .ref (a 1)) (C := RX2) (T := TX2) (N := 5) hx hb hts iwX2_pair hown hK hP 0 rfl rfl 0 (by decide) (hts (.fieldLink RX2 10 "LoomPanel" "values" "LLoomPanel$Values;") flX2_pair_10) (fun _ h9 => h9) rfl dX2_pair_54 ?_
      refine lv_iload_n hx hb dX2_pair_57 rfl (lv_at hl 3 rfl) ?_
      refine lv_if_eq (tgt := 66) hx hb dX2_pair_58 (by decide) (fun c_58 => ?_) (fun c_58 => ?_)
      · skip
        refine lv_bipush (v := 9) hx hb dX2_pair_66 (by decide) ?_
        refine lv_iconst (v := 2) hx hb dX2_pair_68 (by decide) ?_
        refine g_Wi (As := [.int 9, .int 2]) (rest := []) ⟨hx, hb, hml, hown, hts⟩ (c_X1_add l D cI cJ a hd S 9 2 ) (cwV 2 hts gX2_pair_X1_add rfl rfl rfl eeX1_add ⟨Nat.le_of_ble_eq_true rfl, Nat.le_of_ble_eq_true rfl⟩) hK hN hP hI (va_recv hK hP (ci := 1) (q0 := 1) rfl rfl) hS rfl hl.1 rfl (Nat.le_of_ble_eq_true rfl) dX2_pair_69 ⟨Nat.zero_le _, Nat.zero_le _⟩ (fun H locs hI hP hS => ?_)
        refine lv_istore (lv' := [(5, .int ((f_X1_add S 9 2).1)), (0, .ref (a 0)), (1, .int x1), (2, .int x2), (3, .int x3)]) hx hb dX2_pair_72 hl (by decide) rfl (fun ls hl => ?_)
        refine lv_aload_n hx hb dX2_pair_74 rfl (lv_at hl 1 rfl) ?_
        refine va_get (D := D) (ci := 2) (v := .ref (a 1)) (C := RX2) (T := TX2) (N := 5) hx hb hts iwX2_pair hown hK hP 0 rfl rfl 0 (by decide) (hts (.fieldLink RX2 10 "LoomPanel" "values" "LLoomPanel$Values;") flX2_pair_10) (fun _ h9 => h9) rfl dX2_pair_75 ?_
        refine lv_iload hx hb dX2_pair_78 (lv_at hl 0 rfl) ?_
        refine lv_iconst (v := 0) hx hb dX2_pair_80 (by decide) ?_
        refine lv_iload_n hx hb dX2_pair_81 rfl (lv_at hl 2 rfl) ?_
        refine lv_i2l (v := x1.toInt64) hx hb dX2_pair_82 rfl ?_
        refine g_Wv (As := [.int ((f_X1_add S 9 2).1), .int 0, .long x1.toInt64]) (rest := []) ⟨hx, hb, hml, hown, hts⟩ (c_X1_put l D cI cJ a hd ((f_X1_add S 9 2).2) ((f_X1_add S 9 2).1) 0 x1.toInt64 ) (cwV 3 hts gX2_pair_X1_put rfl rfl rfl eeX1_put ⟨Nat.le_of_ble_eq_true rfl, Nat.le_of_ble_eq_true rfl⟩) hK hN hP hI (va_recv hK hP (ci := 1) (q0 := 1) rfl rfl) hS rfl hl.1 rfl (Nat.le_of_ble_eq_true rfl) dX2_pair_83 ⟨Nat.zero_le _, Nat.zero_le _⟩ (fun H locs hI hP hS => ?_)
        refine lv_aload_n hx hb dX2_pair_86 rfl (lv_at hl 1 rfl) ?_
        refine va_get (D := D) (ci := 2) (v := .ref (a 1)) (C := RX2) (T := TX2) (N := 5) hx hb hts iwX2_pair hown hK hP 0 rfl rfl 0 (by decide) (hts (.fieldLink RX2 10 "LoomPanel" "values" "LLoomPanel$Values;") flX2_pair_10) (fun _ h9 => h9) rfl dX2_pair_87 ?_
        refine lv_iload hx hb dX2_pair_90 (lv_at hl 0 rfl) ?_
        refine lv_iconst (v := 1) hx hb dX2_pair_92 (by decide) ?_
        refine lv_iload_n hx hb dX2_pair_93 rfl (lv_at hl 3 rfl) ?_
        refine lv_i2l (v := x2.toInt64) hx hb dX2_pair_94 rfl ?_
        refine g_Wv (As := [.int ((f_X1_add S 9 2).1), .int 1, .long x2.toInt64]) (rest := []) ⟨hx, hb, hml, hown, hts⟩ (c_X1_put l D cI cJ a hd (f_X1_put ((f_X1_add S 9 2).2) ((f_X1_add S 9 2).1) 0 x1.toInt64) ((f_X1_add S 9 2).1) 1 x2.toInt64 ) (cwV 3 hts gX2_pair_X1_put rfl rfl rfl eeX1_put ⟨Nat.le_of_ble_eq_true rfl, Nat.le_of_ble_eq_true rfl⟩) hK hN hP hI (va_recv hK hP (ci := 1) (q0 := 1) rfl rfl) hS rfl hl.1 rfl (Nat.le_of_ble_eq_true rfl) dX2_pair_95 ⟨Nat.zero_le _, Nat.zero_le _⟩ (fun H locs hI hP hS => ?_)
        refine lv_iload hx hb dX2_pair_98 (lv_at hl 0 rfl) ?_
        exact r_Wi hx hb hr hlocks hP hI hS (hq.trans (by simp only [f_X2_pair_c38, if_neg c_40, if_neg c_45, if_pos c_58])) dX2_pair_100
      · skip
        refine lv_bipush (v := 10) hx hb dX2_pair_61 (by decide) ?_
        refine lv_goto (tgt := 68) hx hb dX2_pair_63 (by decide) ?_
        refine lv_iconst (v := 2) hx hb dX2_pair_68 (by decide) ?_
        refine g_Wi (As := [.int 10, .int 2]) (rest := []) ⟨hx, hb, hml, hown, hts⟩ (c_X1_add l D cI cJ a hd S 10 2 ) (cwV 2 hts gX2_pair_X1_add rfl rfl rfl eeX1_add ⟨Nat.le_of_ble_eq_true rfl, Nat.le_of_ble_eq_true rfl⟩) hK hN hP hI (va_recv hK hP (ci := 1) (q0 := 1) rfl rfl) hS rfl hl.1 rfl (Nat.le_of_ble_eq_true rfl) dX2_pair_69 ⟨Nat.zero_le _, Nat.zero_le _⟩ (fun H locs hI hP hS => ?_)
        refine lv_istore (lv' := [(5, .int ((f_X1_add S 10 2).1)), (0, .ref (a 0)), (1, .int x1), (2, .int x2), (3, .int x3)]) hx hb dX2_pair_72 hl (by decide) rfl (fun ls hl => ?_)
        refine lv_aload_n hx hb dX2_pair_74 rfl (lv_at hl 1 rfl) ?_
        refine va_get (D := D) (ci := 2) (v := .ref (a 1)) (C := RX2) (T := TX2) (N := 5) hx hb hts iwX2_pair hown hK hP 0 rfl rfl 0 (by decide) (hts (.fieldLink RX2 10 "LoomPanel" "values" "LLoomPanel$Values;") flX2_pair_10) (fun _ h9 => h9) rfl dX2_pair_75 ?_
        refine lv_iload hx hb dX2_pair_78 (lv_at hl 0 rfl) ?_
        refine lv_iconst (v := 0) hx hb dX2_pair_80 (by decide) ?_
        refine lv_iload_n hx hb dX2_pair_81 rfl (lv_at hl 2 rfl) ?_
        refine lv_i2l (v := x1.toInt64) hx hb dX2_pair_82 rfl ?_
        refine g_Wv (As := [.int ((f_X1_add S 10 2).1), .int 0, .long x1.toInt64]) (rest := []) ⟨hx, hb, hml, hown, hts⟩ (c_X1_put l D cI cJ a hd ((f_X1_add S 10 2).2) ((f_X1_add S 10 2).1) 0 x1.toInt64 ) (cwV 3 hts gX2_pair_X1_put rfl rfl rfl eeX1_put ⟨Nat.le_of_ble_eq_true rfl, Nat.le_of_ble_eq_true rfl⟩) hK hN hP hI (va_recv hK hP (ci := 1) (q0 := 1) rfl rfl) hS rfl hl.1 rfl (Nat.le_of_ble_eq_true rfl) dX2_pair_83 ⟨Nat.zero_le _, Nat.zero_le _⟩ (fun H locs hI hP hS => ?_)
        refine lv_aload_n hx hb dX2_pair_86 rfl (lv_at hl 1 rfl) ?_
        refine va_get (D := D) (ci := 2) (v := .ref (a 1)) (C := RX2) (T := TX2) (N := 5) hx hb hts iwX2_pair hown hK hP 0 rfl rfl 0 (by decide) (hts (.fieldLink RX2 10 "LoomPanel" "values" "LLoomPanel$Values;") flX2_pair_10) (fun _ h9 => h9) rfl dX2_pair_87 ?_
        refine lv_iload hx hb dX2_pair_90 (lv_at hl 0 rfl) ?_
        refine lv_iconst (v := 1) hx hb dX2_pair_92 (by decide) ?_
        refine lv_iload_n hx hb dX2_pair_93 rfl (lv_at hl 3 rfl) ?_
        refine lv_i2l (v := x2.toInt64) hx hb dX2_pair_94 rfl ?_
        refine g_Wv (As := [.int ((f_X1_add S 10 2).1), .int 1, .long x2.toInt64]) (rest := []) ⟨hx, hb, hml, hown, hts⟩ (c_X1_put l D cI cJ a hd (f_X1_put ((f_X1_add S 10 2).2) ((f_X1_add S 10 2).1) 0 x1.toInt64) ((f_X1_add S 10 2).1) 1 x2.toInt64 ) (cwV 3 hts gX2_pair_X1_put rfl rfl rfl eeX1_put ⟨Nat.le_of_ble_eq_true rfl, Nat.le_of_ble_eq_true rfl⟩) hK hN hP hI (va_recv hK hP (ci := 1) (q0 := 1) rfl rfl) hS rfl hl.1 rfl (Nat.le_of_ble_eq_true rfl) dX2_pair_95 ⟨Nat.zero_le _, Nat.zero_le _⟩ (fun H locs hI hP hS => ?_)
        refine lv_iload hx hb dX2_pair_98 (lv_at hl 0 rfl) ?_
        exact r_Wi hx hb hr hlocks hP hI hS (hq.trans (by simp only [f_X2_pair_c38, if_neg c_40, if_neg c_45, if_neg c_58])) dX2_pair_100
    · skip
      refine lv_iconst (v := 2) hx hb dX2_pair_48 (by decide) ?_
      refine g_Si (As := [.int 2]) (rest := []) ⟨hx, hb, hml, hown, hts⟩ (c_X2_fault l 2) (va_cwS 1 hts gX2_pair_X2_fault rfl rfl rfl esX2_fault ⟨Nat.le_of_ble_eq_true rfl, Nat.le_of_ble_eq_true rfl⟩) hP hS rfl hl.1 rfl (Nat.le_of_ble_eq_true rfl) dX2_pair_49 ⟨Nat.zero_le _, Nat.zero_le _⟩ (fun H locs hP hS => ?_)
      exact r_Wi hx hb hr hlocks hP hI hS (hq.trans (by simp only [f_X2_pair_c38, if_neg c_40, if_pos c_45])) dX2_pair_52
def f_X2_pair (S : KS) (x1 : Int32) (x2 : Int32) (x3 : Int32) : Int32 × KS := if x3 = 0 then (if (f_X2_isNoneOr S x1 6) = 0 then ((f_X2_fault 1, S)) else (if (f_X2_isNoneOr S x2 6) = 0 then ((f_X2_fault 1, S)) else (f_X2_pair_c38 S x1 x2 x3))) else (if (f_X2_isNoneOr S x1 7) = 0 then ((f_X2_fault 1, S)) else (if (f_X2_isNoneOr S x2 7) = 0 then ((f_X2_fault 1, S)) else (f_X2_pair_c38 S x1 x2 x3)))
set_option maxHeartbeats 4000000 in
set_option maxRecDepth 100000 in
theorem c_X2_pair (l : Launch) (D : va_G) (cI cJ : ClassId) (a : Nat → Nat) (hd : ∀ i j, i < 11 → j < 11 → a i = a j → i = j) (S : KS) (x1 : Int32) (x2 : Int32) (x3 : Int32) : GWi l yX2_pair wsX2_pair rmX2_pair [.ref (a 0), .int x1, .int x2, .int x3] D (cw_tys cI cJ) (cw cI cJ a) KInv (kA a) S (f_X2_pair S x1 x2 x3) := by
  refine GB_of (cc := cX2_pair) (maxL := 6) (ret := (some .int)) (by decide) rfl (Nat.le_of_ble_eq_true rfl) ?_
  intro p e s m below meth c C hP hI ls hl
  obtain ⟨hx, hb, hr, hlocks, hml, hown, hts, hK, hN⟩ := id C
  have hS : va_S (kA a) s.heap s.heap [] := va_S.rf
  have hl : lv_has ls 6 [(0, .ref (a 0)), (1, .int x1), (2, .int x2), (3, .int x3)] := hl
  refine lv_iload_n hx hb dX2_pair_0 rfl (lv_at hl 3 rfl) ?_
  refine lv_if_eq (tgt := 9) hx hb dX2_pair_1 (by decide) (fun c_1 => ?_) (fun c_1 => ?_)
  · skip
    refine lv_bipush (v := 6) hx hb dX2_pair_9 (by decide) ?_
    refine lv_istore (lv' := [(4, .int 6), (0, .ref (a 0)), (1, .int x1), (2, .int x2), (3, .int x3)]) hx hb dX2_pair_11 hl (by decide) rfl (fun ls hl => ?_)
    refine lv_aload_n hx hb dX2_pair_13 rfl (lv_at hl 1 rfl) ?_
    refine lv_iload_n hx hb dX2_pair_14 rfl (lv_at hl 2 rfl) ?_
    refine lv_iload hx hb dX2_pair_15 (lv_at hl 0 rfl) ?_
    refine g_Ri (As := [.int x1, .int 6]) (rest := []) ⟨hx, hb, hml, hown, hts⟩ (c_X2_isNoneOr l D cI cJ a hd S x1 6 ) (cwV 2 hts gX2_pair_X2_isNoneOr rfl rfl rfl eeX2_isNoneOr ⟨Nat.le_of_ble_eq_true rfl, Nat.le_of_ble_eq_true rfl⟩) hK hN hP hI (va_recv hK hP (ci := 2) (q0 := 0) rfl rfl) hS rfl hl.1 rfl (Nat.le_of_ble_eq_true rfl) dX2_pair_17 ⟨Nat.zero_le _, Nat.zero_le _⟩ (fun H locs hP hS => ?_)
    refine lv_if_eq (tgt := 33) hx hb dX2_pair_20 (by decide) (fun c_20 => ?_) (fun c_20 => ?_)
    · skip
      refine lv_iconst (v := 1) hx hb dX2_pair_33 (by decide) ?_
      refine g_Si (As := [.int 1]) (rest := []) ⟨hx, hb, hml, hown, hts⟩ (c_X2_fault l 1) (va_cwS 1 hts gX2_pair_X2_fault rfl rfl rfl esX2_fault ⟨Nat.le_of_ble_eq_true rfl, Nat.le_of_ble_eq_true rfl⟩) hP hS rfl hl.1 rfl (Nat.le_of_ble_eq_true rfl) dX2_pair_34 ⟨Nat.zero_le _, Nat.zero_le _⟩ (fun H locs hP hS => ?_)
      exact r_Wi hx hb hr hlocks hP hI hS (by simp only [f_X2_pair, if_pos c_1, if_pos c_20]) dX2_pair_37
    · skip
      refine lv_aload_n hx hb dX2_pair_23 rfl (lv_at hl 1 rfl) ?_
      refine lv_iload_n hx hb dX2_pair_24 rfl (lv_at hl 3 rfl) ?_
      refine lv_iload hx hb dX2_pair_25 (lv_at hl 0 rfl) ?_
      refine g_Ri (As := [.int x2, .int 6]) (rest := []) ⟨hx, hb, hml, hown, hts⟩ (c_X2_isNoneOr l D cI cJ a hd S x2 6 ) (cwV 2 hts gX2_pair_X2_isNoneOr rfl rfl rfl eeX2_isNoneOr ⟨Nat.le_of_ble_eq_true rfl, Nat.le_of_ble_eq_true rfl⟩) hK hN hP hI (va_recv hK hP (ci := 2) (q0 := 0) rfl rfl) hS rfl hl.1 rfl (Nat.le_of_ble_eq_true rfl) dX2_pair_27 ⟨Nat.zero_le _, Nat.zero_le _⟩ (fun H locs hP hS => ?_)
      refine lv_if_ne (tgt := 38) hx hb dX2_pair_30 (by decide) (fun c_30 => ?_) (fun c_30 => ?_)
      · skip
        exact w_X2_pair_c38 hd C S x1 x2 x3  _ _ _ hP hI hS (lv_sub hl [1, 2, 3, 4] rfl) (by simp only [f_X2_pair, if_pos c_1, if_neg c_20, if_neg c_30])
      · skip
        refine lv_iconst (v := 1) hx hb dX2_pair_33 (by decide) ?_
        refine g_Si (As := [.int 1]) (rest := []) ⟨hx, hb, hml, hown, hts⟩ (c_X2_fault l 1) (va_cwS 1 hts gX2_pair_X2_fault rfl rfl rfl esX2_fault ⟨Nat.le_of_ble_eq_true rfl, Nat.le_of_ble_eq_true rfl⟩) hP hS rfl hl.1 rfl (Nat.le_of_ble_eq_true rfl) dX2_pair_34 ⟨Nat.zero_le _, Nat.zero_le _⟩ (fun H locs hP hS => ?_)
        exact r_Wi hx hb hr hlocks hP hI hS (by simp only [f_X2_pair, if_pos c_1, if_neg c_20, if_pos c_30]) dX2_pair_37
  · skip
    refine lv_bipush (v := 7) hx hb dX2_pair_4 (by decide) ?_
    refine lv_goto (tgt := 11) hx hb dX2_pair_6 (by decide) ?_
    refine lv_istore (lv' := [(4, .int 7), (0, .ref (a 0)), (1, .int x1), (2, .int x2), (3, .int x3)]) hx hb dX2_pair_11 hl (by decide) rfl (fun ls hl => ?_)
    refine lv_aload_n hx hb dX2_pair_13 rfl (lv_at hl 1 rfl) ?_
    refine lv_iload_n hx hb dX2_pair_14 rfl (lv_at hl 2 rfl) ?_
    refine lv_iload hx hb dX2_pair_15 (lv_at hl 0 rfl) ?_
    refine g_Ri (As := [.int x1, .int 7]) (rest := []) ⟨hx, hb, hml, hown, hts⟩ (c_X2_isNoneOr l D cI cJ a hd S x1 7 ) (cwV 2 hts gX2_pair_X2_isNoneOr rfl rfl rfl eeX2_isNoneOr ⟨Nat.le_of_ble_eq_true rfl, Nat.le_of_ble_eq_true rfl⟩) hK hN hP hI (va_recv hK hP (ci := 2) (q0 := 0) rfl rfl) hS rfl hl.1 rfl (Nat.le_of_ble_eq_true rfl) dX2_pair_17 ⟨Nat.zero_le _, Nat.zero_le _⟩ (fun H locs hP hS => ?_)
    refine lv_if_eq (tgt := 33) hx hb dX2_pair_20 (by decide) (fun c_20 => ?_) (fun c_20 => ?_)
    · skip
      refine lv_iconst (v := 1) hx hb dX2_pair_33 (by decide) ?_
      refine g_Si (As := [.int 1]) (rest := []) ⟨hx, hb, hml, hown, hts⟩ (c_X2_fault l 1) (va_cwS 1 hts gX2_pair_X2_fault rfl rfl rfl esX2_fault ⟨Nat.le_of_ble_eq_true rfl, Nat.le_of_ble_eq_true rfl⟩) hP hS rfl hl.1 rfl (Nat.le_of_ble_eq_true rfl) dX2_pair_34 ⟨Nat.zero_le _, Nat.zero_le _⟩ (fun H locs hP hS => ?_)
      exact r_Wi hx hb hr hlocks hP hI hS (by simp only [f_X2_pair, if_neg c_1, if_pos c_20]) dX2_pair_37
    · skip
      refine lv_aload_n hx hb dX2_pair_23 rfl (lv_at hl 1 rfl) ?_
      refine lv_iload_n hx hb dX2_pair_24 rfl (lv_at hl 3 rfl) ?_
      refine lv_iload hx hb dX2_pair_25 (lv_at hl 0 rfl) ?_
      refine g_Ri (As := [.int x2, .int 7]) (rest := []) ⟨hx, hb, hml, hown, hts⟩ (c_X2_isNoneOr l D cI cJ a hd S x2 7 ) (cwV 2 hts gX2_pair_X2_isNoneOr rfl rfl rfl eeX2_isNoneOr ⟨Nat.le_of_ble_eq_true rfl, Nat.le_of_ble_eq_true rfl⟩) hK hN hP hI (va_recv hK hP (ci := 2) (q0 := 0) rfl rfl) hS rfl hl.1 rfl (Nat.le_of_ble_eq_true rfl) dX2_pair_27 ⟨Nat.zero_le _, Nat.zero_le _⟩ (fun H locs hP hS => ?_)
      refine lv_if_ne (tgt := 38) hx hb dX2_pair_30 (by decide) (fun c_30 => ?_) (fun c_30 => ?_)
      · skip
        exact w_X2_pair_c38 hd C S x1 x2 x3  _ _ _ hP hI hS (lv_sub hl [1, 2, 3, 4] rfl) (by simp only [f_X2_pair, if_neg c_1, if_neg c_20, if_neg c_30])
      · skip
        refine lv_iconst (v := 1) hx hb dX2_pair_33 (by decide) ?_
        refine g_Si (As := [.int 1]) (rest := []) ⟨hx, hb, hml, hown, hts⟩ (c_X2_fault l 1) (va_cwS 1 hts gX2_pair_X2_fault rfl rfl rfl esX2_fault ⟨Nat.le_of_ble_eq_true rfl, Nat.le_of_ble_eq_true rfl⟩) hP hS rfl hl.1 rfl (Nat.le_of_ble_eq_true rfl) dX2_pair_34 ⟨Nat.zero_le _, Nat.zero_le _⟩ (fun H locs hP hS => ?_)
        exact r_Wi hx hb hr hlocks hP hI hS (by simp only [f_X2_pair, if_neg c_1, if_neg c_20, if_pos c_30]) dX2_pair_37
abbrev rmX2_power : Room := { frames := 3, cells := 0, slots := 0, locals := 72 }
theorem eeX2_power : yX2_power.cls = RX2 ∧ yX2_power.cls ≠ "java/lang/invoke/MethodHandle" ∧ yX2_power.cls ≠ "java/lang/invoke/VarHandle" ∧ (parseMethodDescriptor yX2_power.desc).map (fun d => d.parameters.length) = some 1 := by decide +kernel
theorem iwX2_power : ∀ w ∈ u_ws RX2 TX2 5, w ∈ wsX2_power := by decide +kernel
theorem clX2_power_201 : Cond.constantLong RX2 201 3 ∈ wsX2_power := by decide +kernel
theorem flX2_power_10 : Cond.fieldLink RX2 10 "LoomPanel" "values" "LLoomPanel$Values;" ∈ wsX2_power := by decide +kernel
def f_X2_power (S : KS) (x1 : Int32) : Int32 × KS := if x1 = (-1) then ((f_X2_fault 2, S)) else (if (f_X1_isA S x1 11) = 0 then (if (f_X1_isA S x1 8) = 0 then ((f_X2_fault 1, S)) else (((f_X2_levelsTimes S x1 3).1, (f_X2_levelsTimes S x1 3).2))) else (((f_X1_addSingle S 1 (3 * ((f_X1_levelOf S x1).toInt64))).1, (f_X1_addSingle S 1 (3 * ((f_X1_levelOf S x1).toInt64))).2)))
set_option maxHeartbeats 4000000 in
set_option maxRecDepth 100000 in
theorem c_X2_power (l : Launch) (D : va_G) (cI cJ : ClassId) (a : Nat → Nat) (hd : ∀ i j, i < 11 → j < 11 → a i = a j → i = j) (S : KS) (x1 : Int32) : GWi l yX2_power wsX2_power rmX2_power [.ref (a 0), .int x1] D (cw_tys cI cJ) (cw cI cJ a) KInv (kA a) S (f_X2_power S x1) := by
  refine GB_of (cc := cX2_power) (maxL := 2) (ret := (some .int)) (by decide) rfl (Nat.le_of_ble_eq_true rfl) ?_
  intro p e s m below meth c C hP hI ls hl
  obtain ⟨hx, hb, hr, hlocks, hml, hown, hts, hK, hN⟩ := id C
  have hS : va_S (kA a) s.heap s.heap [] := va_S.rf
  have hl : lv_has ls 2 [(0, .ref (a 0)), (1, .int x1)] := hl
  refine lv_iload_n hx hb dX2_power_0 rfl (lv_at hl 1 rfl) ?_
  refine lv_iconst (v := (-1)) hx hb dX2_power_1 (by decide) ?_
  refine lv_icmp_ne (tgt := 10) hx hb dX2_power_2 (by decide) (fun c_2 => ?_) (fun c_2 => ?_)
  · skip
    refine lv_aload_n hx hb dX2_power_10 rfl (lv_at hl 0 rfl) ?_
    refine va_get (D := D) (ci := 2) (v := .ref (a 1)) (C := RX2) (T := TX2) (N := 5) hx hb hts iwX2_power hown hK hP 0 rfl rfl 0 (by decide) (hts (.fieldLink RX2 10 "LoomPanel" "values" "LLoomPanel$Values;") flX2_power_10) (fun _ h9 => h9) rfl dX2_power_11 ?_
    refine lv_iload_n hx hb dX2_power_14 rfl (lv_at hl 1 rfl) ?_
    refine lv_bipush (v := 11) hx hb dX2_power_15 (by decide) ?_
    refine g_Ri (As := [.int x1, .int 11]) (rest := []) ⟨hx, hb, hml, hown, hts⟩ (c_X1_isA l D cI cJ a hd S x1 11 ) (cwV 2 hts gX2_power_X1_isA rfl rfl rfl eeX1_isA ⟨Nat.le_of_ble_eq_true rfl, Nat.le_of_ble_eq_true rfl⟩) hK hN hP hI (va_recv hK hP (ci := 1) (q0 := 1) rfl rfl) hS rfl hl.1 rfl (Nat.le_of_ble_eq_true rfl) dX2_power_17 ⟨Nat.zero_le _, Nat.zero_le _⟩ (fun H locs hP hS => ?_)
    refine lv_if_eq (tgt := 45) hx hb dX2_power_20 (by decide) (fun c_20 => ?_) (fun c_20 => ?_)
    · skip
      refine lv_aload_n hx hb dX2_power_45 rfl (lv_at hl 0 rfl) ?_
      refine va_get (D := D) (ci := 2) (v := .ref (a 1)) (C := RX2) (T := TX2) (N := 5) hx hb hts iwX2_power hown hK hP 0 rfl rfl 0 (by decide) (hts (.fieldLink RX2 10 "LoomPanel" "values" "LLoomPanel$Values;") flX2_power_10) (fun _ h9 => h9) rfl dX2_power_46 ?_
      refine lv_iload_n hx hb dX2_power_49 rfl (lv_at hl 1 rfl) ?_
      refine lv_bipush (v := 8) hx hb dX2_power_50 (by decide) ?_
      refine g_Ri (As := [.int x1, .int 8]) (rest := []) ⟨hx, hb, hml, hown, hts⟩ (c_X1_isA l D cI cJ a hd S x1 8 ) (cwV 2 hts gX2_power_X1_isA rfl rfl rfl eeX1_isA ⟨Nat.le_of_ble_eq_true rfl, Nat.le_of_ble_eq_true rfl⟩) hK hN hP hI (va_recv hK hP (ci := 1) (q0 := 1) rfl rfl) hS rfl hl.1 rfl (Nat.le_of_ble_eq_true rfl) dX2_power_52 ⟨Nat.zero_le _, Nat.zero_le _⟩ (fun H locs hP hS => ?_)
      refine lv_if_eq (tgt := 69) hx hb dX2_power_55 (by decide) (fun c_55 => ?_) (fun c_55 => ?_)
      · skip
        refine lv_iconst (v := 1) hx hb dX2_power_69 (by decide) ?_
        refine g_Si (As := [.int 1]) (rest := []) ⟨hx, hb, hml, hown, hts⟩ (c_X2_fault l 1) (va_cwS 1 hts gX2_power_X2_fault rfl rfl rfl esX2_fault ⟨Nat.le_of_ble_eq_true rfl, Nat.le_of_ble_eq_true rfl⟩) hP hS rfl hl.1 rfl (Nat.le_of_ble_eq_true rfl) dX2_power_70 ⟨Nat.zero_le _, Nat.zero_le _⟩ (fun H locs hP hS => ?_)
        exact r_Wi hx hb hr hlocks hP hI hS (by simp only [f_X2_power, if_neg c_2, if_pos c_20, if_pos c_55]) dX2_power_73
      · skip
        refine lv_aload_n hx hb dX2_power_58 rfl (lv_at hl 0 rfl) ?_
        refine lv_iload_n hx hb dX2_power_59 rfl (lv_at hl 1 rfl) ?_
        refine lv_ldc2 (v := 3) hx hb hown (hts (.constantLong RX2 201 3) clX2_power_201) dX2_power_60 ?_
        refine g_Wi (As := [.int x1, .long 3]) (rest := []) ⟨hx, hb, hml, hown, hts⟩ (c_X2_levelsTimes l D cI cJ a hd S x1 3 ) (cwV 2 hts gX2_power_X2_levelsTimes rfl rfl rfl eeX2_levelsTimes ⟨Nat.le_of_ble_eq_true rfl, Nat.le_of_ble_eq_true rfl⟩) hK hN hP hI (va_recv hK hP (ci := 2) (q0 := 0) rfl rfl) hS rfl hl.1 rfl (Nat.le_of_ble_eq_true rfl) dX2_power_63 ⟨Nat.zero_le _, Nat.zero_le _⟩ (fun H locs hI hP hS => ?_)
        refine lv_goto (tgt := 73) hx hb dX2_power_66 (by decide) ?_
        exact r_Wi hx hb hr hlocks hP hI hS (by simp only [f_X2_power, if_neg c_2, if_pos c_20, if_neg c_55]) dX2_power_73
    · skip
      refine lv_aload_n hx hb dX2_power_23 rfl (lv_at hl 0 rfl) ?_
      refine va_get (D := D) (ci := 2) (v := .ref (a 1)) (C := RX2) (T := TX2) (N := 5) hx hb hts iwX2_power hown hK hP 0 rfl rfl 0 (by decide) (hts (.fieldLink RX2 10 "LoomPanel" "values" "LLoomPanel$Values;") flX2_power_10) (fun _ h9 => h9) rfl dX2_power_24 ?_
      refine lv_iconst (v := 1) hx hb dX2_power_27 (by decide) ?_
      refine lv_ldc2 (v := 3) hx hb hown (hts (.constantLong RX2 201 3) clX2_power_201) dX2_power_28 ?_
      refine lv_aload_n hx hb dX2_power_31 rfl (lv_at hl 0 rfl) ?_
      refine va_get (D := D) (ci := 2) (v := .ref (a 1)) (C := RX2) (T := TX2) (N := 5) hx hb hts iwX2_power hown hK hP 0 rfl rfl 0 (by decide) (hts (.fieldLink RX2 10 "LoomPanel" "values" "LLoomPanel$Values;") flX2_power_10) (fun _ h9 => h9) rfl dX2_power_32 ?_
      refine lv_iload_n hx hb dX2_power_35 rfl (lv_at hl 1 rfl) ?_
      refine g_Ri (As := [.int x1]) (rest := [.long 3, .int 1, .ref (a 1)]) ⟨hx, hb, hml, hown, hts⟩ (c_X1_levelOf l D cI cJ a hd S x1 ) (cwV 1 hts gX2_power_X1_levelOf rfl rfl rfl eeX1_levelOf ⟨Nat.le_of_ble_eq_true rfl, Nat.le_of_ble_eq_true rfl⟩) hK hN hP hI (va_recv hK hP (ci := 1) (q0 := 1) rfl rfl) hS rfl hl.1 rfl (Nat.le_of_ble_eq_true rfl) dX2_power_36 ⟨Nat.zero_le _, Nat.zero_le _⟩ (fun H locs hP hS => ?_)
      refine lv_i2l (v := (f_X1_levelOf S x1).toInt64) hx hb dX2_power_39 rfl ?_
      refine lv_lmul hx hb dX2_power_40 ?_
      refine g_Wi (As := [.int 1, .long (3 * ((f_X1_levelOf S x1).toInt64))]) (rest := []) ⟨hx, hb, hml, hown, hts⟩ (c_X1_addSingle l D cI cJ a hd S 1 (3 * ((f_X1_levelOf S x1).toInt64)) ) (cwV 2 hts gX2_power_X1_addSingle rfl rfl rfl eeX1_addSingle ⟨Nat.le_of_ble_eq_true rfl, Nat.le_of_ble_eq_true rfl⟩) hK hN hP hI (va_recv hK hP (ci := 1) (q0 := 1) rfl rfl) hS rfl hl.1 rfl (Nat.le_of_ble_eq_true rfl) dX2_power_41 ⟨Nat.zero_le _, Nat.zero_le _⟩ (fun H locs hI hP hS => ?_)
      exact r_Wi hx hb hr hlocks hP hI hS (by simp only [f_X2_power, if_neg c_2, if_neg c_20]) dX2_power_44
  · skip
    refine lv_iconst (v := 2) hx hb dX2_power_5 (by decide) ?_
    refine g_Si (As := [.int 2]) (rest := []) ⟨hx, hb, hml, hown, hts⟩ (c_X2_fault l 2) (va_cwS 1 hts gX2_power_X2_fault rfl rfl rfl esX2_fault ⟨Nat.le_of_ble_eq_true rfl, Nat.le_of_ble_eq_true rfl⟩) hP hS rfl hl.1 rfl (Nat.le_of_ble_eq_true rfl) dX2_power_6 ⟨Nat.zero_le _, Nat.zero_le _⟩ (fun H locs hP hS => ?_)
    exact r_Wi hx hb hr hlocks hP hI hS (by simp only [f_X2_power, if_pos c_2]) dX2_power_9
abbrev rmX2_totalOf : Room := { frames := 2, cells := 0, slots := 0, locals := 44 }
theorem eeX2_totalOf : yX2_totalOf.cls = RX2 ∧ yX2_totalOf.cls ≠ "java/lang/invoke/MethodHandle" ∧ yX2_totalOf.cls ≠ "java/lang/invoke/VarHandle" ∧ (parseMethodDescriptor yX2_totalOf.desc).map (fun d => d.parameters.length) = some 1 := by decide +kernel
theorem iwX2_totalOf : ∀ w ∈ u_ws RX2 TX2 5, w ∈ wsX2_totalOf := by decide +kernel
theorem flX2_totalOf_10 : Cond.fieldLink RX2 10 "LoomPanel" "values" "LLoomPanel$Values;" ∈ wsX2_totalOf := by decide +kernel
def f_X2_totalOf_c15 : Nat → KS → Int32 → Int64 → Int32 → Nat → Int64
  | 0, S, _, _, _, _ => 0
  | n + 1, S, x1, x2, x4, j => if x4 ≤ (nI j) then (x2) else (f_X2_totalOf_c15 n S x1 (x2 + (f_X1_cellOf S x1 (nI j))) x4 (j + 1))
set_option maxHeartbeats 4000000 in
set_option maxRecDepth 100000 in
theorem w_X2_totalOf_c15 {l : Launch} {D : va_G} {cI cJ : ClassId} {a : Nat → Nat} (hd : ∀ i j, i < 11 → j < 11 → a i = a j → i = j) {p : Program} {e : Env} {s : State} {m : MethodId} {args : Array Value} {below : List Frame} {meth : Method} {c : Code} (C : GC p s m meth c cX2_totalOf (some .long) 6 RX2 wsX2_totalOf args D (cw_tys cI cJ)) {v : Int64} : ∀ (n : Nat) (S : KS) (x1 : Int32) (x2 : Int64) (x4 : Int32) (j : Nat) (hb8 : x4.toInt ≤ 8) (hj : j ≤ 8) (hn : j + n = 9) (H : Heap) (locs : List Loc) (ls : Array Slot), va_P D vwCl (cw cI cJ a S) H → KInv S → va_S (kA a) s.heap H locs → lv_has ls 6 [(0, .ref (a 0)), (1, .int x1), (2, .long x2), (4, .int x4), (5, .int (nI j))] → v = f_X2_totalOf_c15 n S x1 x2 x4 j → W p l e rmX2_totalOf s m args below meth c H locs 0 0 (MQ below (va_Ql (fun r u => r = v ∧ u = S) (GE D (cw cI cJ a) KInv) (kA a)) args s 0 0 (kA a)) (F0 m 15 ls []) := by
  obtain ⟨hx, hb, hr, hlocks, hml, hown, hts, hK, hN⟩ := id C
  intro n
  induction n with
  | zero =>
    intro S x1 x2 x4 j hb8 hj hn H locs ls hP hI hS hl hq
    exact absurd hn (by omega)
  | succ n ih =>
    intro S x1 x2 x4 j hb8 hj hn H locs ls hP hI hS hl hq
    refine lv_iload hx hb dX2_totalOf_15 (lv_at hl 4 rfl) ?_
    refine lv_iload hx hb dX2_totalOf_17 (lv_at hl 3 rfl) ?_
    refine lv_icmp_ge (tgt := 41) hx hb dX2_totalOf_19 (by decide) (fun c_19 => ?_) (fun c_19 => ?_)
    · skip
      refine lv_lload_n hx hb dX2_totalOf_41 rfl (lv_at hl 2 rfl) ?_
      exact r_Rl hx hb hr hlocks hP hI hS (hq.trans (by simp only [f_X2_totalOf_c15, if_pos c_19])) dX2_totalOf_42
    · skip
      refine lv_lload_n hx hb dX2_totalOf_22 rfl (lv_at hl 2 rfl) ?_
      refine lv_aload_n hx hb dX2_totalOf_23 rfl (lv_at hl 0 rfl) ?_
      refine va_get (D := D) (ci := 2) (v := .ref (a 1)) (C := RX2) (T := TX2) (N := 5) hx hb hts iwX2_totalOf hown hK hP 0 rfl rfl 0 (by decide) (hts (.fieldLink RX2 10 "LoomPanel" "values" "LLoomPanel$Values;") flX2_totalOf_10) (fun _ h9 => h9) rfl dX2_totalOf_24 ?_
      refine lv_iload_n hx hb dX2_totalOf_27 rfl (lv_at hl 1 rfl) ?_
      refine lv_iload hx hb dX2_totalOf_28 (lv_at hl 4 rfl) ?_
      refine g_Rl (As := [.int x1, .int (nI j)]) (rest := [.long x2]) ⟨hx, hb, hml, hown, hts⟩ (c_X1_cellOf l D cI cJ a hd S x1 (nI j) ) (cwV 2 hts gX2_totalOf_X1_cellOf rfl rfl rfl eeX1_cellOf ⟨Nat.le_of_ble_eq_true rfl, Nat.le_of_ble_eq_true rfl⟩) hK hN hP hI (va_recv hK hP (ci := 1) (q0 := 1) rfl rfl) hS rfl hl.1 rfl (Nat.le_of_ble_eq_true rfl) dX2_totalOf_30 ⟨Nat.zero_le _, Nat.zero_le _⟩ (fun H locs hP hS => ?_)
      refine lv_ladd hx hb dX2_totalOf_33 ?_
      refine lv_lstore_n (lv' := [(2, .long (x2 + (f_X1_cellOf S x1 (nI j)))), (0, .ref (a 0)), (1, .int x1), (4, .int x4), (5, .int (nI j))]) hx hb dX2_totalOf_34 rfl hl (by decide) rfl (fun ls hl => ?_)
      refine lv_iinc (v := nI (j + 1)) (lv' := [(5, .int (nI (j + 1))), (2, .long (x2 + (f_X1_cellOf S x1 (nI j)))), (0, .ref (a 0)), (1, .int x1), (4, .int x4)]) hx hb dX2_totalOf_35 hl (k := 4) rfl (nI_1 _) (by decide) rfl (fun ls hl => ?_)
      refine lv_goto (tgt := 15) hx hb dX2_totalOf_38 (by decide) ?_
      exact ih S x1 (x2 + (f_X1_cellOf S x1 (nI j))) x4 (j + 1) hb8 (jl8 c_19 hb8 hj) (by omega) _ _ _ hP hI hS (lv_sub hl [2, 3, 1, 4, 0] rfl) (hq.trans (by simp only [f_X2_totalOf_c15, if_neg c_19]))
def f_X2_totalOf (S : KS) (x1 : Int32) : Int64 := f_X2_totalOf_c15 9 S x1 0 (f_X1_lengthOf S x1) 0
set_option maxHeartbeats 4000000 in
set_option maxRecDepth 100000 in
theorem c_X2_totalOf (l : Launch) (D : va_G) (cI cJ : ClassId) (a : Nat → Nat) (hd : ∀ i j, i < 11 → j < 11 → a i = a j → i = j) (S : KS) (x1 : Int32) : GRl l yX2_totalOf wsX2_totalOf rmX2_totalOf [.ref (a 0), .int x1] D (cw_tys cI cJ) (cw cI cJ a) KInv (kA a) S (f_X2_totalOf S x1) := by
  refine GB_of (cc := cX2_totalOf) (maxL := 6) (ret := (some .long)) (by decide) rfl (Nat.le_of_ble_eq_true rfl) ?_
  intro p e s m below meth c C hP hI ls hl
  obtain ⟨hx, hb, hr, hlocks, hml, hown, hts, hK, hN⟩ := id C
  have hS : va_S (kA a) s.heap s.heap [] := va_S.rf
  have hl : lv_has ls 6 [(0, .ref (a 0)), (1, .int x1)] := hl
  refine lv_lconst (v := 0) hx hb dX2_totalOf_0 (by decide) ?_
  refine lv_lstore_n (lv' := [(2, .long 0), (0, .ref (a 0)), (1, .int x1)]) hx hb dX2_totalOf_1 rfl hl (by decide) rfl (fun ls hl => ?_)
  refine lv_aload_n hx hb dX2_totalOf_2 rfl (lv_at hl 1 rfl) ?_
  refine va_get (D := D) (ci := 2) (v := .ref (a 1)) (C := RX2) (T := TX2) (N := 5) hx hb hts iwX2_totalOf hown hK hP 0 rfl rfl 0 (by decide) (hts (.fieldLink RX2 10 "LoomPanel" "values" "LLoomPanel$Values;") flX2_totalOf_10) (fun _ h9 => h9) rfl dX2_totalOf_3 ?_
  refine lv_iload_n hx hb dX2_totalOf_6 rfl (lv_at hl 2 rfl) ?_
  refine g_Ri (As := [.int x1]) (rest := []) ⟨hx, hb, hml, hown, hts⟩ (c_X1_lengthOf l D cI cJ a hd S x1 ) (cwV 1 hts gX2_totalOf_X1_lengthOf rfl rfl rfl eeX1_lengthOf ⟨Nat.le_of_ble_eq_true rfl, Nat.le_of_ble_eq_true rfl⟩) hK hN hP hI (va_recv hK hP (ci := 1) (q0 := 1) rfl rfl) hS rfl hl.1 rfl (Nat.le_of_ble_eq_true rfl) dX2_totalOf_7 ⟨Nat.zero_le _, Nat.zero_le _⟩ (fun H locs hP hS => ?_)
  refine lv_istore (lv' := [(4, .int (f_X1_lengthOf S x1)), (2, .long 0), (0, .ref (a 0)), (1, .int x1)]) hx hb dX2_totalOf_10 hl (by decide) rfl (fun ls hl => ?_)
  refine lv_iconst (v := 0) hx hb dX2_totalOf_12 (by decide) ?_
  refine lv_istore (lv' := [(5, .int 0), (4, .int (f_X1_lengthOf S x1)), (2, .long 0), (0, .ref (a 0)), (1, .int x1)]) hx hb dX2_totalOf_13 hl (by decide) rfl (fun ls hl => ?_)
  exact w_X2_totalOf_c15 hd C 9 S x1 0 (f_X1_lengthOf S x1) 0 ((lengthOf_le hI).2) (Nat.zero_le _) rfl _ _ _ hP hI hS (lv_sub hl [3, 4, 2, 1, 0] rfl) (by simp only [f_X2_totalOf])
abbrev rmX2_sum : Room := { frames := 3, cells := 0, slots := 0, locals := 70 }
theorem eeX2_sum : yX2_sum.cls = RX2 ∧ yX2_sum.cls ≠ "java/lang/invoke/MethodHandle" ∧ yX2_sum.cls ≠ "java/lang/invoke/VarHandle" ∧ (parseMethodDescriptor yX2_sum.desc).map (fun d => d.parameters.length) = some 1 := by decide +kernel
theorem iwX2_sum : ∀ w ∈ u_ws RX2 TX2 5, w ∈ wsX2_sum := by decide +kernel
theorem flX2_sum_10 : Cond.fieldLink RX2 10 "LoomPanel" "values" "LLoomPanel$Values;" ∈ wsX2_sum := by decide +kernel
def f_X2_sum_c74 : Nat → KS → Int32 → Int32 → Int32 → Nat → Int32 × KS
  | 0, S, _, _, _, _ => (0, S)
  | n + 1, S, x1, x2, x3, j => if x2 ≤ (nI j) then ((x3, S)) else (f_X2_sum_c74 n (f_X1_put S x3 (nI j) (f_X2_totalOf S (f_X1_placed S x1 (nI j)))) x1 x2 x3 (j + 1))
set_option maxHeartbeats 4000000 in
set_option maxRecDepth 100000 in
theorem w_X2_sum_c74 {l : Launch} {D : va_G} {cI cJ : ClassId} {a : Nat → Nat} (hd : ∀ i j, i < 11 → j < 11 → a i = a j → i = j) {p : Program} {e : Env} {s : State} {m : MethodId} {args : Array Value} {below : List Frame} {meth : Method} {c : Code} (C : GC p s m meth c cX2_sum (some .int) 5 RX2 wsX2_sum args D (cw_tys cI cJ)) {v : Int32 × KS} : ∀ (n : Nat) (S : KS) (x1 : Int32) (x2 : Int32) (x3 : Int32) (j : Nat) (hb8 : x2.toInt ≤ 8) (hj : j ≤ 8) (hn : j + n = 9) (H : Heap) (locs : List Loc) (ls : Array Slot), va_P D vwCl (cw cI cJ a S) H → KInv S → va_S (kA a) s.heap H locs → lv_has ls 5 [(0, .ref (a 0)), (1, .int x1), (2, .int x2), (3, .int x3), (4, .int (nI j))] → v = f_X2_sum_c74 n S x1 x2 x3 j → W p l e rmX2_sum s m args below meth c H locs 0 0 (MQ below (va_Qi (fun r u => v = (r, u)) (GE D (cw cI cJ a) KInv) (kA a)) args s 0 0 (kA a)) (F0 m 74 ls []) := by
  obtain ⟨hx, hb, hr, hlocks, hml, hown, hts, hK, hN⟩ := id C
  intro n
  induction n with
  | zero =>
    intro S x1 x2 x3 j hb8 hj hn H locs ls hP hI hS hl hq
    exact absurd hn (by omega)
  | succ n ih =>
    intro S x1 x2 x3 j hb8 hj hn H locs ls hP hI hS hl hq
    refine lv_iload hx hb dX2_sum_74 (lv_at hl 4 rfl) ?_
    refine lv_iload_n hx hb dX2_sum_76 rfl (lv_at hl 2 rfl) ?_
    refine lv_icmp_ge (tgt := 110) hx hb dX2_sum_77 (by decide) (fun c_77 => ?_) (fun c_77 => ?_)
    · skip
      refine lv_iload_n hx hb dX2_sum_110 rfl (lv_at hl 3 rfl) ?_
      exact r_Wi hx hb hr hlocks hP hI hS (hq.trans (by simp only [f_X2_sum_c74, if_pos c_77])) dX2_sum_111
    · skip
      refine lv_aload_n hx hb dX2_sum_80 rfl (lv_at hl 0 rfl) ?_
      refine va_get (D := D) (ci := 2) (v := .ref (a 1)) (C := RX2) (T := TX2) (N := 5) hx hb hts iwX2_sum hown hK hP 0 rfl rfl 0 (by decide) (hts (.fieldLink RX2 10 "LoomPanel" "values" "LLoomPanel$Values;") flX2_sum_10) (fun _ h9 => h9) rfl dX2_sum_81 ?_
      refine lv_iload_n hx hb dX2_sum_84 rfl (lv_at hl 3 rfl) ?_
      refine lv_iload hx hb dX2_sum_85 (lv_at hl 4 rfl) ?_
      refine lv_aload_n hx hb dX2_sum_87 rfl (lv_at hl 0 rfl) ?_
      refine lv_aload_n hx hb dX2_sum_88 rfl (lv_at hl 0 rfl) ?_
      refine va_get (D := D) (ci := 2) (v := .ref (a 1)) (C := RX2) (T := TX2) (N := 5) hx hb hts iwX2_sum hown hK hP 0 rfl rfl 0 (by decide) (hts (.fieldLink RX2 10 "LoomPanel" "values" "LLoomPanel$Values;") flX2_sum_10) (fun _ h9 => h9) rfl dX2_sum_89 ?_
      refine lv_iload_n hx hb dX2_sum_92 rfl (lv_at hl 1 rfl) ?_
      refine lv_iload hx hb dX2_sum_93 (lv_at hl 4 rfl) ?_
      refine g_Ri (As := [.int x1, .int (nI j)]) (rest := [.ref (a 0), .int (nI j), .int x3, .ref (a 1)]) ⟨hx, hb, hml, hown, hts⟩ (c_X1_placed l D cI cJ a hd S x1 (nI j) ) (cwV 2 hts gX2_sum_X1_placed rfl rfl rfl eeX1_placed ⟨Nat.le_of_ble_eq_true rfl, Nat.le_of_ble_eq_true rfl⟩) hK hN hP hI (va_recv hK hP (ci := 1) (q0 := 1) rfl rfl) hS rfl hl.1 rfl (Nat.le_of_ble_eq_true rfl) dX2_sum_95 ⟨Nat.zero_le _, Nat.zero_le _⟩ (fun H locs hP hS => ?_)
      refine g_Rl (As := [.int (f_X1_placed S x1 (nI j))]) (rest := [.int (nI j), .int x3, .ref (a 1)]) ⟨hx, hb, hml, hown, hts⟩ (c_X2_totalOf l D cI cJ a hd S (f_X1_placed S x1 (nI j)) ) (cwV 1 hts gX2_sum_X2_totalOf rfl rfl rfl eeX2_totalOf ⟨Nat.le_of_ble_eq_true rfl, Nat.le_of_ble_eq_true rfl⟩) hK hN hP hI (va_recv hK hP (ci := 2) (q0 := 0) rfl rfl) hS rfl hl.1 rfl (Nat.le_of_ble_eq_true rfl) dX2_sum_98 ⟨Nat.zero_le _, Nat.zero_le _⟩ (fun H locs hP hS => ?_)
      refine g_Wv (As := [.int x3, .int (nI j), .long (f_X2_totalOf S (f_X1_placed S x1 (nI j)))]) (rest := []) ⟨hx, hb, hml, hown, hts⟩ (c_X1_put l D cI cJ a hd S x3 (nI j) (f_X2_totalOf S (f_X1_placed S x1 (nI j))) ) (cwV 3 hts gX2_sum_X1_put rfl rfl rfl eeX1_put ⟨Nat.le_of_ble_eq_true rfl, Nat.le_of_ble_eq_true rfl⟩) hK hN hP hI (va_recv hK hP (ci := 1) (q0 := 1) rfl rfl) hS rfl hl.1 rfl (Nat.le_of_ble_eq_true rfl) dX2_sum_101 ⟨Nat.zero_le _, Nat.zero_le _⟩ (fun H locs hI hP hS => ?_)
      refine lv_iinc (v := nI (j + 1)) (lv' := [(4, .int (nI (j + 1))), (0, .ref (a 0)), (1, .int x1), (2, .int x2), (3, .int x3)]) hx hb dX2_sum_104 hl (k := 4) rfl (nI_1 _) (by decide) rfl (fun ls hl => ?_)
      refine lv_goto (tgt := 74) hx hb dX2_sum_107 (by decide) ?_
      exact ih (f_X1_put S x3 (nI j) (f_X2_totalOf S (f_X1_placed S x1 (nI j)))) x1 x2 x3 (j + 1) hb8 (jl8 c_77 hb8 hj) (by omega) _ _ _ hP hI hS (lv_sub hl [1, 2, 3, 4, 0] rfl) (hq.trans (by simp only [f_X2_sum_c74, if_neg c_77]))
def f_X2_sum (S : KS) (x1 : Int32) : Int32 × KS := if x1 = (-1) then ((f_X2_fault 2, S)) else (if (f_X1_isNumbers S x1) = 0 then (if (f_X1_isA S x1 3) = 0 then ((f_X2_fault 1, S)) else (f_X2_sum_c74 9 ((f_X1_add S 2 (f_X1_lengthOf S x1)).2) x1 (f_X1_lengthOf S x1) ((f_X1_add S 2 (f_X1_lengthOf S x1)).1) 0)) else (((f_X1_addSingle S 2 (f_X2_totalOf S x1)).1, (f_X1_addSingle S 2 (f_X2_totalOf S x1)).2)))
set_option maxHeartbeats 4000000 in
set_option maxRecDepth 100000 in
theorem c_X2_sum (l : Launch) (D : va_G) (cI cJ : ClassId) (a : Nat → Nat) (hd : ∀ i j, i < 11 → j < 11 → a i = a j → i = j) (S : KS) (x1 : Int32) : GWi l yX2_sum wsX2_sum rmX2_sum [.ref (a 0), .int x1] D (cw_tys cI cJ) (cw cI cJ a) KInv (kA a) S (f_X2_sum S x1) := by
  refine GB_of (cc := cX2_sum) (maxL := 5) (ret := (some .int)) (by decide) rfl (Nat.le_of_ble_eq_true rfl) ?_
  intro p e s m below meth c C hP hI ls hl
  obtain ⟨hx, hb, hr, hlocks, hml, hown, hts, hK, hN⟩ := id C
  have hS : va_S (kA a) s.heap s.heap [] := va_S.rf
  have hl : lv_has ls 5 [(0, .ref (a 0)), (1, .int x1)] := hl
  refine lv_iload_n hx hb dX2_sum_0 rfl (lv_at hl 1 rfl) ?_
  refine lv_iconst (v := (-1)) hx hb dX2_sum_1 (by decide) ?_
  refine lv_icmp_ne (tgt := 10) hx hb dX2_sum_2 (by decide) (fun c_2 => ?_) (fun c_2 => ?_)
  · skip
    refine lv_aload_n hx hb dX2_sum_10 rfl (lv_at hl 0 rfl) ?_
    refine va_get (D := D) (ci := 2) (v := .ref (a 1)) (C := RX2) (T := TX2) (N := 5) hx hb hts iwX2_sum hown hK hP 0 rfl rfl 0 (by decide) (hts (.fieldLink RX2 10 "LoomPanel" "values" "LLoomPanel$Values;") flX2_sum_10) (fun _ h9 => h9) rfl dX2_sum_11 ?_
    refine lv_iload_n hx hb dX2_sum_14 rfl (lv_at hl 1 rfl) ?_
    refine g_Ri (As := [.int x1]) (rest := []) ⟨hx, hb, hml, hown, hts⟩ (c_X1_isNumbers l D cI cJ a hd S x1 ) (cwV 1 hts gX2_sum_X1_isNumbers rfl rfl rfl eeX1_isNumbers ⟨Nat.le_of_ble_eq_true rfl, Nat.le_of_ble_eq_true rfl⟩) hK hN hP hI (va_recv hK hP (ci := 1) (q0 := 1) rfl rfl) hS rfl hl.1 rfl (Nat.le_of_ble_eq_true rfl) dX2_sum_15 ⟨Nat.zero_le _, Nat.zero_le _⟩ (fun H locs hP hS => ?_)
    refine lv_if_eq (tgt := 35) hx hb dX2_sum_18 (by decide) (fun c_18 => ?_) (fun c_18 => ?_)
    · skip
      refine lv_aload_n hx hb dX2_sum_35 rfl (lv_at hl 0 rfl) ?_
      refine va_get (D := D) (ci := 2) (v := .ref (a 1)) (C := RX2) (T := TX2) (N := 5) hx hb hts iwX2_sum hown hK hP 0 rfl rfl 0 (by decide) (hts (.fieldLink RX2 10 "LoomPanel" "values" "LLoomPanel$Values;") flX2_sum_10) (fun _ h9 => h9) rfl dX2_sum_36 ?_
      refine lv_iload_n hx hb dX2_sum_39 rfl (lv_at hl 1 rfl) ?_
      refine lv_iconst (v := 3) hx hb dX2_sum_40 (by decide) ?_
      refine g_Ri (As := [.int x1, .int 3]) (rest := []) ⟨hx, hb, hml, hown, hts⟩ (c_X1_isA l D cI cJ a hd S x1 3 ) (cwV 2 hts gX2_sum_X1_isA rfl rfl rfl eeX1_isA ⟨Nat.le_of_ble_eq_true rfl, Nat.le_of_ble_eq_true rfl⟩) hK hN hP hI (va_recv hK hP (ci := 1) (q0 := 1) rfl rfl) hS rfl hl.1 rfl (Nat.le_of_ble_eq_true rfl) dX2_sum_41 ⟨Nat.zero_le _, Nat.zero_le _⟩ (fun H locs hP hS => ?_)
      refine lv_if_ne (tgt := 52) hx hb dX2_sum_44 (by decide) (fun c_44 => ?_) (fun c_44 => ?_)
      · skip
        refine lv_aload_n hx hb dX2_sum_52 rfl (lv_at hl 0 rfl) ?_
        refine va_get (D := D) (ci := 2) (v := .ref (a 1)) (C := RX2) (T := TX2) (N := 5) hx hb hts iwX2_sum hown hK hP 0 rfl rfl 0 (by decide) (hts (.fieldLink RX2 10 "LoomPanel" "values" "LLoomPanel$Values;") flX2_sum_10) (fun _ h9 => h9) rfl dX2_sum_53 ?_
        refine lv_iload_n hx hb dX2_sum_56 rfl (lv_at hl 1 rfl) ?_
        refine g_Ri (As := [.int x1]) (rest := []) ⟨hx, hb, hml, hown, hts⟩ (c_X1_lengthOf l D cI cJ a hd S x1 ) (cwV 1 hts gX2_sum_X1_lengthOf rfl rfl rfl eeX1_lengthOf ⟨Nat.le_of_ble_eq_true rfl, Nat.le_of_ble_eq_true rfl⟩) hK hN hP hI (va_recv hK hP (ci := 1) (q0 := 1) rfl rfl) hS rfl hl.1 rfl (Nat.le_of_ble_eq_true rfl) dX2_sum_57 ⟨Nat.zero_le _, Nat.zero_le _⟩ (fun H locs hP hS => ?_)
        refine lv_istore_n (lv' := [(2, .int (f_X1_lengthOf S x1)), (0, .ref (a 0)), (1, .int x1)]) hx hb dX2_sum_60 rfl hl (by decide) rfl (fun ls hl => ?_)
        have hLe := (lengthOf_le (x := x1) hI).2
        refine lv_aload_n hx hb dX2_sum_61 rfl (lv_at hl 1 rfl) ?_
        refine va_get (D := D) (ci := 2) (v := .ref (a 1)) (C := RX2) (T := TX2) (N := 5) hx hb hts iwX2_sum hown hK hP 0 rfl rfl 0 (by decide) (hts (.fieldLink RX2 10 "LoomPanel" "values" "LLoomPanel$Values;") flX2_sum_10) (fun _ h9 => h9) rfl dX2_sum_62 ?_
        refine lv_iconst (v := 2) hx hb dX2_sum_65 (by decide) ?_
        refine lv_iload_n hx hb dX2_sum_66 rfl (lv_at hl 0 rfl) ?_
        refine g_Wi (As := [.int 2, .int (f_X1_lengthOf S x1)]) (rest := []) ⟨hx, hb, hml, hown, hts⟩ (c_X1_add l D cI cJ a hd S 2 (f_X1_lengthOf S x1) ) (cwV 2 hts gX2_sum_X1_add rfl rfl rfl eeX1_add ⟨Nat.le_of_ble_eq_true rfl, Nat.le_of_ble_eq_true rfl⟩) hK hN hP hI (va_recv hK hP (ci := 1) (q0 := 1) rfl rfl) hS rfl hl.1 rfl (Nat.le_of_ble_eq_true rfl) dX2_sum_67 ⟨Nat.zero_le _, Nat.zero_le _⟩ (fun H locs hI hP hS => ?_)
        refine lv_istore_n (lv' := [(3, .int ((f_X1_add S 2 (f_X1_lengthOf S x1)).1)), (2, .int (f_X1_lengthOf S x1)), (0, .ref (a 0)), (1, .int x1)]) hx hb dX2_sum_70 rfl hl (by decide) rfl (fun ls hl => ?_)
        refine lv_iconst (v := 0) hx hb dX2_sum_71 (by decide) ?_
        refine lv_istore (lv' := [(4, .int 0), (3, .int ((f_X1_add S 2 (f_X1_lengthOf S x1)).1)), (2, .int (f_X1_lengthOf S x1)), (0, .ref (a 0)), (1, .int x1)]) hx hb dX2_sum_72 hl (by decide) rfl (fun ls hl => ?_)
        exact w_X2_sum_c74 hd C 9 ((f_X1_add S 2 (f_X1_lengthOf S x1)).2) x1 (f_X1_lengthOf S x1) ((f_X1_add S 2 (f_X1_lengthOf S x1)).1) 0 hLe (Nat.zero_le _) rfl _ _ _ hP hI hS (lv_sub hl [3, 4, 2, 1, 0] rfl) (by simp only [f_X2_sum, if_neg c_2, if_pos c_18, if_neg c_44])
      · skip
        refine lv_iconst (v := 1) hx hb dX2_sum_47 (by decide) ?_
        refine g_Si (As := [.int 1]) (rest := []) ⟨hx, hb, hml, hown, hts⟩ (c_X2_fault l 1) (va_cwS 1 hts gX2_sum_X2_fault rfl rfl rfl esX2_fault ⟨Nat.le_of_ble_eq_true rfl, Nat.le_of_ble_eq_true rfl⟩) hP hS rfl hl.1 rfl (Nat.le_of_ble_eq_true rfl) dX2_sum_48 ⟨Nat.zero_le _, Nat.zero_le _⟩ (fun H locs hP hS => ?_)
        exact r_Wi hx hb hr hlocks hP hI hS (by simp only [f_X2_sum, if_neg c_2, if_pos c_18, if_pos c_44]) dX2_sum_51
    · skip
      refine lv_aload_n hx hb dX2_sum_21 rfl (lv_at hl 0 rfl) ?_
      refine va_get (D := D) (ci := 2) (v := .ref (a 1)) (C := RX2) (T := TX2) (N := 5) hx hb hts iwX2_sum hown hK hP 0 rfl rfl 0 (by decide) (hts (.fieldLink RX2 10 "LoomPanel" "values" "LLoomPanel$Values;") flX2_sum_10) (fun _ h9 => h9) rfl dX2_sum_22 ?_
      refine lv_iconst (v := 2) hx hb dX2_sum_25 (by decide) ?_
      refine lv_aload_n hx hb dX2_sum_26 rfl (lv_at hl 0 rfl) ?_
      refine lv_iload_n hx hb dX2_sum_27 rfl (lv_at hl 1 rfl) ?_
      refine g_Rl (As := [.int x1]) (rest := [.int 2, .ref (a 1)]) ⟨hx, hb, hml, hown, hts⟩ (c_X2_totalOf l D cI cJ a hd S x1 ) (cwV 1 hts gX2_sum_X2_totalOf rfl rfl rfl eeX2_totalOf ⟨Nat.le_of_ble_eq_true rfl, Nat.le_of_ble_eq_true rfl⟩) hK hN hP hI (va_recv hK hP (ci := 2) (q0 := 0) rfl rfl) hS rfl hl.1 rfl (Nat.le_of_ble_eq_true rfl) dX2_sum_28 ⟨Nat.zero_le _, Nat.zero_le _⟩ (fun H locs hP hS => ?_)
      refine g_Wi (As := [.int 2, .long (f_X2_totalOf S x1)]) (rest := []) ⟨hx, hb, hml, hown, hts⟩ (c_X1_addSingle l D cI cJ a hd S 2 (f_X2_totalOf S x1) ) (cwV 2 hts gX2_sum_X1_addSingle rfl rfl rfl eeX1_addSingle ⟨Nat.le_of_ble_eq_true rfl, Nat.le_of_ble_eq_true rfl⟩) hK hN hP hI (va_recv hK hP (ci := 1) (q0 := 1) rfl rfl) hS rfl hl.1 rfl (Nat.le_of_ble_eq_true rfl) dX2_sum_31 ⟨Nat.zero_le _, Nat.zero_le _⟩ (fun H locs hI hP hS => ?_)
      exact r_Wi hx hb hr hlocks hP hI hS (by simp only [f_X2_sum, if_neg c_2, if_neg c_18]) dX2_sum_34
  · skip
    refine lv_iconst (v := 2) hx hb dX2_sum_5 (by decide) ?_
    refine g_Si (As := [.int 2]) (rest := []) ⟨hx, hb, hml, hown, hts⟩ (c_X2_fault l 2) (va_cwS 1 hts gX2_sum_X2_fault rfl rfl rfl esX2_fault ⟨Nat.le_of_ble_eq_true rfl, Nat.le_of_ble_eq_true rfl⟩) hP hS rfl hl.1 rfl (Nat.le_of_ble_eq_true rfl) dX2_sum_6 ⟨Nat.zero_le _, Nat.zero_le _⟩ (fun H locs hP hS => ?_)
    exact r_Wi hx hb hr hlocks hP hI hS (by simp only [f_X2_sum, if_pos c_2]) dX2_sum_9
abbrev rmX2_tap : Room := { frames := 2, cells := 0, slots := 0, locals := 44 }
theorem eeX2_tap : yX2_tap.cls = RX2 ∧ yX2_tap.cls ≠ "java/lang/invoke/MethodHandle" ∧ yX2_tap.cls ≠ "java/lang/invoke/VarHandle" ∧ (parseMethodDescriptor yX2_tap.desc).map (fun d => d.parameters.length) = some 2 := by decide +kernel
theorem iwX2_tap : ∀ w ∈ u_ws RX2 TX2 5, w ∈ wsX2_tap := by decide +kernel
theorem flX2_tap_10 : Cond.fieldLink RX2 10 "LoomPanel" "values" "LLoomPanel$Values;" ∈ wsX2_tap := by decide +kernel
def f_X2_tap (S : KS) (x1 : Int32) (x2 : Int32) : Int32 := if x1 = (-1) then (f_X2_fault 2) else (if (f_X2_isBoardForm (f_X1_formOf S x1)) = 0 then (f_X2_fault 1) else (if (f_X1_hasPlace S x1 x2) = 0 then (f_X2_fault 3) else (if (f_X1_placed S x1 x2) = (-1) then (f_X2_fault 2) else (f_X1_placed S x1 x2))))
set_option maxHeartbeats 4000000 in
set_option maxRecDepth 100000 in
theorem c_X2_tap (l : Launch) (D : va_G) (cI cJ : ClassId) (a : Nat → Nat) (hd : ∀ i j, i < 11 → j < 11 → a i = a j → i = j) (S : KS) (x1 : Int32) (x2 : Int32) : GRi l yX2_tap wsX2_tap rmX2_tap [.ref (a 0), .int x1, .int x2] D (cw_tys cI cJ) (cw cI cJ a) KInv (kA a) S (f_X2_tap S x1 x2) := by
  refine GB_of (cc := cX2_tap) (maxL := 4) (ret := (some .int)) (by decide) rfl (Nat.le_of_ble_eq_true rfl) ?_
  intro p e s m below meth c C hP hI ls hl
  obtain ⟨hx, hb, hr, hlocks, hml, hown, hts, hK, hN⟩ := id C
  have hS : va_S (kA a) s.heap s.heap [] := va_S.rf
  have hl : lv_has ls 4 [(0, .ref (a 0)), (1, .int x1), (2, .int x2)] := hl
  refine lv_iload_n hx hb dX2_tap_0 rfl (lv_at hl 1 rfl) ?_
  refine lv_iconst (v := (-1)) hx hb dX2_tap_1 (by decide) ?_
  refine lv_icmp_ne (tgt := 10) hx hb dX2_tap_2 (by decide) (fun c_2 => ?_) (fun c_2 => ?_)
  · skip
    refine lv_aload_n hx hb dX2_tap_10 rfl (lv_at hl 0 rfl) ?_
    refine va_get (D := D) (ci := 2) (v := .ref (a 1)) (C := RX2) (T := TX2) (N := 5) hx hb hts iwX2_tap hown hK hP 0 rfl rfl 0 (by decide) (hts (.fieldLink RX2 10 "LoomPanel" "values" "LLoomPanel$Values;") flX2_tap_10) (fun _ h9 => h9) rfl dX2_tap_11 ?_
    refine lv_iload_n hx hb dX2_tap_14 rfl (lv_at hl 1 rfl) ?_
    refine g_Ri (As := [.int x1]) (rest := []) ⟨hx, hb, hml, hown, hts⟩ (c_X1_formOf l D cI cJ a hd S x1 ) (cwV 1 hts gX2_tap_X1_formOf rfl rfl rfl eeX1_formOf ⟨Nat.le_of_ble_eq_true rfl, Nat.le_of_ble_eq_true rfl⟩) hK hN hP hI (va_recv hK hP (ci := 1) (q0 := 1) rfl rfl) hS rfl hl.1 rfl (Nat.le_of_ble_eq_true rfl) dX2_tap_15 ⟨Nat.zero_le _, Nat.zero_le _⟩ (fun H locs hP hS => ?_)
    refine g_Si (As := [.int (f_X1_formOf S x1)]) (rest := []) ⟨hx, hb, hml, hown, hts⟩ (c_X2_isBoardForm l (f_X1_formOf S x1)) (va_cwS 1 hts gX2_tap_X2_isBoardForm rfl rfl rfl esX2_isBoardForm ⟨Nat.le_of_ble_eq_true rfl, Nat.le_of_ble_eq_true rfl⟩) hP hS rfl hl.1 rfl (Nat.le_of_ble_eq_true rfl) dX2_tap_18 ⟨Nat.zero_le _, Nat.zero_le _⟩ (fun H locs hP hS => ?_)
    refine lv_if_ne (tgt := 29) hx hb dX2_tap_21 (by decide) (fun c_21 => ?_) (fun c_21 => ?_)
    · skip
      refine lv_aload_n hx hb dX2_tap_29 rfl (lv_at hl 0 rfl) ?_
      refine va_get (D := D) (ci := 2) (v := .ref (a 1)) (C := RX2) (T := TX2) (N := 5) hx hb hts iwX2_tap hown hK hP 0 rfl rfl 0 (by decide) (hts (.fieldLink RX2 10 "LoomPanel" "values" "LLoomPanel$Values;") flX2_tap_10) (fun _ h9 => h9) rfl dX2_tap_30 ?_
      refine lv_iload_n hx hb dX2_tap_33 rfl (lv_at hl 1 rfl) ?_
      refine lv_iload_n hx hb dX2_tap_34 rfl (lv_at hl 2 rfl) ?_
      refine g_Ri (As := [.int x1, .int x2]) (rest := []) ⟨hx, hb, hml, hown, hts⟩ (c_X1_hasPlace l D cI cJ a hd S x1 x2 ) (cwV 2 hts gX2_tap_X1_hasPlace rfl rfl rfl eeX1_hasPlace ⟨Nat.le_of_ble_eq_true rfl, Nat.le_of_ble_eq_true rfl⟩) hK hN hP hI (va_recv hK hP (ci := 1) (q0 := 1) rfl rfl) hS rfl hl.1 rfl (Nat.le_of_ble_eq_true rfl) dX2_tap_35 ⟨Nat.zero_le _, Nat.zero_le _⟩ (fun H locs hP hS => ?_)
      refine lv_if_ne (tgt := 46) hx hb dX2_tap_38 (by decide) (fun c_38 => ?_) (fun c_38 => ?_)
      · skip
        refine lv_aload_n hx hb dX2_tap_46 rfl (lv_at hl 0 rfl) ?_
        refine va_get (D := D) (ci := 2) (v := .ref (a 1)) (C := RX2) (T := TX2) (N := 5) hx hb hts iwX2_tap hown hK hP 0 rfl rfl 0 (by decide) (hts (.fieldLink RX2 10 "LoomPanel" "values" "LLoomPanel$Values;") flX2_tap_10) (fun _ h9 => h9) rfl dX2_tap_47 ?_
        refine lv_iload_n hx hb dX2_tap_50 rfl (lv_at hl 1 rfl) ?_
        refine lv_iload_n hx hb dX2_tap_51 rfl (lv_at hl 2 rfl) ?_
        refine g_Ri (As := [.int x1, .int x2]) (rest := []) ⟨hx, hb, hml, hown, hts⟩ (c_X1_placed l D cI cJ a hd S x1 x2 ) (cwV 2 hts gX2_tap_X1_placed rfl rfl rfl eeX1_placed ⟨Nat.le_of_ble_eq_true rfl, Nat.le_of_ble_eq_true rfl⟩) hK hN hP hI (va_recv hK hP (ci := 1) (q0 := 1) rfl rfl) hS rfl hl.1 rfl (Nat.le_of_ble_eq_true rfl) dX2_tap_52 ⟨Nat.zero_le _, Nat.zero_le _⟩ (fun H locs hP hS => ?_)
        refine lv_istore_n (lv' := [(3, .int (f_X1_placed S x1 x2)), (0, .ref (a 0)), (1, .int x1), (2, .int x2)]) hx hb dX2_tap_55 rfl hl (by decide) rfl (fun ls hl => ?_)
        refine lv_iload_n hx hb dX2_tap_56 rfl (lv_at hl 0 rfl) ?_
        refine lv_iconst (v := (-1)) hx hb dX2_tap_57 (by decide) ?_
        refine lv_icmp_ne (tgt := 68) hx hb dX2_tap_58 (by decide) (fun c_58 => ?_) (fun c_58 => ?_)
        · skip
          refine lv_iload_n hx hb dX2_tap_68 rfl (lv_at hl 0 rfl) ?_
          exact r_Ri hx hb hr hlocks hP hI hS (by simp only [f_X2_tap, if_neg c_2, if_neg c_21, if_neg c_38, if_neg c_58]) dX2_tap_69
        · skip
          refine lv_iconst (v := 2) hx hb dX2_tap_61 (by decide) ?_
          refine g_Si (As := [.int 2]) (rest := []) ⟨hx, hb, hml, hown, hts⟩ (c_X2_fault l 2) (va_cwS 1 hts gX2_tap_X2_fault rfl rfl rfl esX2_fault ⟨Nat.le_of_ble_eq_true rfl, Nat.le_of_ble_eq_true rfl⟩) hP hS rfl hl.1 rfl (Nat.le_of_ble_eq_true rfl) dX2_tap_62 ⟨Nat.zero_le _, Nat.zero_le _⟩ (fun H locs hP hS => ?_)
          refine lv_goto (tgt := 69) hx hb dX2_tap_65 (by decide) ?_
          exact r_Ri hx hb hr hlocks hP hI hS (by simp only [f_X2_tap, if_neg c_2, if_neg c_21, if_neg c_38, if_pos c_58]) dX2_tap_69
      · skip
        refine lv_iconst (v := 3) hx hb dX2_tap_41 (by decide) ?_
        refine g_Si (As := [.int 3]) (rest := []) ⟨hx, hb, hml, hown, hts⟩ (c_X2_fault l 3) (va_cwS 1 hts gX2_tap_X2_fault rfl rfl rfl esX2_fault ⟨Nat.le_of_ble_eq_true rfl, Nat.le_of_ble_eq_true rfl⟩) hP hS rfl hl.1 rfl (Nat.le_of_ble_eq_true rfl) dX2_tap_42 ⟨Nat.zero_le _, Nat.zero_le _⟩ (fun H locs hP hS => ?_)
        exact r_Ri hx hb hr hlocks hP hI hS (by simp only [f_X2_tap, if_neg c_2, if_neg c_21, if_pos c_38]) dX2_tap_45
    · skip
      refine lv_iconst (v := 1) hx hb dX2_tap_24 (by decide) ?_
      refine g_Si (As := [.int 1]) (rest := []) ⟨hx, hb, hml, hown, hts⟩ (c_X2_fault l 1) (va_cwS 1 hts gX2_tap_X2_fault rfl rfl rfl esX2_fault ⟨Nat.le_of_ble_eq_true rfl, Nat.le_of_ble_eq_true rfl⟩) hP hS rfl hl.1 rfl (Nat.le_of_ble_eq_true rfl) dX2_tap_25 ⟨Nat.zero_le _, Nat.zero_le _⟩ (fun H locs hP hS => ?_)
      exact r_Ri hx hb hr hlocks hP hI hS (by simp only [f_X2_tap, if_neg c_2, if_pos c_21]) dX2_tap_28
  · skip
    refine lv_iconst (v := 2) hx hb dX2_tap_5 (by decide) ?_
    refine g_Si (As := [.int 2]) (rest := []) ⟨hx, hb, hml, hown, hts⟩ (c_X2_fault l 2) (va_cwS 1 hts gX2_tap_X2_fault rfl rfl rfl esX2_fault ⟨Nat.le_of_ble_eq_true rfl, Nat.le_of_ble_eq_true rfl⟩) hP hS rfl hl.1 rfl (Nat.le_of_ble_eq_true rfl) dX2_tap_6 ⟨Nat.zero_le _, Nat.zero_le _⟩ (fun H locs hP hS => ?_)
    exact r_Ri hx hb hr hlocks hP hI hS (by simp only [f_X2_tap, if_pos c_2]) dX2_tap_9
abbrev rmX2_widen : Room := { frames := 4, cells := 0, slots := 0, locals := 94 }
theorem eeX2_widen : yX2_widen.cls = RX2 ∧ yX2_widen.cls ≠ "java/lang/invoke/MethodHandle" ∧ yX2_widen.cls ≠ "java/lang/invoke/VarHandle" ∧ (parseMethodDescriptor yX2_widen.desc).map (fun d => d.parameters.length) = some 1 := by decide +kernel
theorem iwX2_widen : ∀ w ∈ u_ws RX2 TX2 5, w ∈ wsX2_widen := by decide +kernel
theorem flX2_widen_10 : Cond.fieldLink RX2 10 "LoomPanel" "values" "LLoomPanel$Values;" ∈ wsX2_widen := by decide +kernel
def f_X2_widen (S : KS) (x1 : Int32) : Int32 × KS := if x1 = (-1) then ((f_X2_fault 2, S)) else (if (f_X1_isA S x1 0) = 0 then (if (f_X1_isA S x1 1) = 0 then ((f_X2_fault 1, S)) else (((f_X1_addCopy S x1 2).1, (f_X1_addCopy S x1 2).2))) else (((f_X1_addCopy S x1 1).1, (f_X1_addCopy S x1 1).2)))
set_option maxHeartbeats 4000000 in
set_option maxRecDepth 100000 in
theorem c_X2_widen (l : Launch) (D : va_G) (cI cJ : ClassId) (a : Nat → Nat) (hd : ∀ i j, i < 11 → j < 11 → a i = a j → i = j) (S : KS) (x1 : Int32) : GWi l yX2_widen wsX2_widen rmX2_widen [.ref (a 0), .int x1] D (cw_tys cI cJ) (cw cI cJ a) KInv (kA a) S (f_X2_widen S x1) := by
  refine GB_of (cc := cX2_widen) (maxL := 2) (ret := (some .int)) (by decide) rfl (Nat.le_of_ble_eq_true rfl) ?_
  intro p e s m below meth c C hP hI ls hl
  obtain ⟨hx, hb, hr, hlocks, hml, hown, hts, hK, hN⟩ := id C
  have hS : va_S (kA a) s.heap s.heap [] := va_S.rf
  have hl : lv_has ls 2 [(0, .ref (a 0)), (1, .int x1)] := hl
  refine lv_iload_n hx hb dX2_widen_0 rfl (lv_at hl 1 rfl) ?_
  refine lv_iconst (v := (-1)) hx hb dX2_widen_1 (by decide) ?_
  refine lv_icmp_ne (tgt := 10) hx hb dX2_widen_2 (by decide) (fun c_2 => ?_) (fun c_2 => ?_)
  · skip
    refine lv_aload_n hx hb dX2_widen_10 rfl (lv_at hl 0 rfl) ?_
    refine va_get (D := D) (ci := 2) (v := .ref (a 1)) (C := RX2) (T := TX2) (N := 5) hx hb hts iwX2_widen hown hK hP 0 rfl rfl 0 (by decide) (hts (.fieldLink RX2 10 "LoomPanel" "values" "LLoomPanel$Values;") flX2_widen_10) (fun _ h9 => h9) rfl dX2_widen_11 ?_
    refine lv_iload_n hx hb dX2_widen_14 rfl (lv_at hl 1 rfl) ?_
    refine lv_iconst (v := 0) hx hb dX2_widen_15 (by decide) ?_
    refine g_Ri (As := [.int x1, .int 0]) (rest := []) ⟨hx, hb, hml, hown, hts⟩ (c_X1_isA l D cI cJ a hd S x1 0 ) (cwV 2 hts gX2_widen_X1_isA rfl rfl rfl eeX1_isA ⟨Nat.le_of_ble_eq_true rfl, Nat.le_of_ble_eq_true rfl⟩) hK hN hP hI (va_recv hK hP (ci := 1) (q0 := 1) rfl rfl) hS rfl hl.1 rfl (Nat.le_of_ble_eq_true rfl) dX2_widen_16 ⟨Nat.zero_le _, Nat.zero_le _⟩ (fun H locs hP hS => ?_)
    refine lv_if_eq (tgt := 32) hx hb dX2_widen_19 (by decide) (fun c_19 => ?_) (fun c_19 => ?_)
    · skip
      refine lv_aload_n hx hb dX2_widen_32 rfl (lv_at hl 0 rfl) ?_
      refine va_get (D := D) (ci := 2) (v := .ref (a 1)) (C := RX2) (T := TX2) (N := 5) hx hb hts iwX2_widen hown hK hP 0 rfl rfl 0 (by decide) (hts (.fieldLink RX2 10 "LoomPanel" "values" "LLoomPanel$Values;") flX2_widen_10) (fun _ h9 => h9) rfl dX2_widen_33 ?_
      refine lv_iload_n hx hb dX2_widen_36 rfl (lv_at hl 1 rfl) ?_
      refine lv_iconst (v := 1) hx hb dX2_widen_37 (by decide) ?_
      refine g_Ri (As := [.int x1, .int 1]) (rest := []) ⟨hx, hb, hml, hown, hts⟩ (c_X1_isA l D cI cJ a hd S x1 1 ) (cwV 2 hts gX2_widen_X1_isA rfl rfl rfl eeX1_isA ⟨Nat.le_of_ble_eq_true rfl, Nat.le_of_ble_eq_true rfl⟩) hK hN hP hI (va_recv hK hP (ci := 1) (q0 := 1) rfl rfl) hS rfl hl.1 rfl (Nat.le_of_ble_eq_true rfl) dX2_widen_38 ⟨Nat.zero_le _, Nat.zero_le _⟩ (fun H locs hP hS => ?_)
      refine lv_if_eq (tgt := 56) hx hb dX2_widen_41 (by decide) (fun c_41 => ?_) (fun c_41 => ?_)
      · skip
        refine lv_iconst (v := 1) hx hb dX2_widen_56 (by decide) ?_
        refine g_Si (As := [.int 1]) (rest := []) ⟨hx, hb, hml, hown, hts⟩ (c_X2_fault l 1) (va_cwS 1 hts gX2_widen_X2_fault rfl rfl rfl esX2_fault ⟨Nat.le_of_ble_eq_true rfl, Nat.le_of_ble_eq_true rfl⟩) hP hS rfl hl.1 rfl (Nat.le_of_ble_eq_true rfl) dX2_widen_57 ⟨Nat.zero_le _, Nat.zero_le _⟩ (fun H locs hP hS => ?_)
        exact r_Wi hx hb hr hlocks hP hI hS (by simp only [f_X2_widen, if_neg c_2, if_pos c_19, if_pos c_41]) dX2_widen_60
      · skip
        refine lv_aload_n hx hb dX2_widen_44 rfl (lv_at hl 0 rfl) ?_
        refine va_get (D := D) (ci := 2) (v := .ref (a 1)) (C := RX2) (T := TX2) (N := 5) hx hb hts iwX2_widen hown hK hP 0 rfl rfl 0 (by decide) (hts (.fieldLink RX2 10 "LoomPanel" "values" "LLoomPanel$Values;") flX2_widen_10) (fun _ h9 => h9) rfl dX2_widen_45 ?_
        refine lv_iload_n hx hb dX2_widen_48 rfl (lv_at hl 1 rfl) ?_
        refine lv_iconst (v := 2) hx hb dX2_widen_49 (by decide) ?_
        refine g_Wi (As := [.int x1, .int 2]) (rest := []) ⟨hx, hb, hml, hown, hts⟩ (c_X1_addCopy l D cI cJ a hd S x1 2 ) (cwV 2 hts gX2_widen_X1_addCopy rfl rfl rfl eeX1_addCopy ⟨Nat.le_of_ble_eq_true rfl, Nat.le_of_ble_eq_true rfl⟩) hK hN hP hI (va_recv hK hP (ci := 1) (q0 := 1) rfl rfl) hS rfl hl.1 rfl (Nat.le_of_ble_eq_true rfl) dX2_widen_50 ⟨Nat.zero_le _, Nat.zero_le _⟩ (fun H locs hI hP hS => ?_)
        refine lv_goto (tgt := 60) hx hb dX2_widen_53 (by decide) ?_
        exact r_Wi hx hb hr hlocks hP hI hS (by simp only [f_X2_widen, if_neg c_2, if_pos c_19, if_neg c_41]) dX2_widen_60
    · skip
      refine lv_aload_n hx hb dX2_widen_22 rfl (lv_at hl 0 rfl) ?_
      refine va_get (D := D) (ci := 2) (v := .ref (a 1)) (C := RX2) (T := TX2) (N := 5) hx hb hts iwX2_widen hown hK hP 0 rfl rfl 0 (by decide) (hts (.fieldLink RX2 10 "LoomPanel" "values" "LLoomPanel$Values;") flX2_widen_10) (fun _ h9 => h9) rfl dX2_widen_23 ?_
      refine lv_iload_n hx hb dX2_widen_26 rfl (lv_at hl 1 rfl) ?_
      refine lv_iconst (v := 1) hx hb dX2_widen_27 (by decide) ?_
      refine g_Wi (As := [.int x1, .int 1]) (rest := []) ⟨hx, hb, hml, hown, hts⟩ (c_X1_addCopy l D cI cJ a hd S x1 1 ) (cwV 2 hts gX2_widen_X1_addCopy rfl rfl rfl eeX1_addCopy ⟨Nat.le_of_ble_eq_true rfl, Nat.le_of_ble_eq_true rfl⟩) hK hN hP hI (va_recv hK hP (ci := 1) (q0 := 1) rfl rfl) hS rfl hl.1 rfl (Nat.le_of_ble_eq_true rfl) dX2_widen_28 ⟨Nat.zero_le _, Nat.zero_le _⟩ (fun H locs hI hP hS => ?_)
      exact r_Wi hx hb hr hlocks hP hI hS (by simp only [f_X2_widen, if_neg c_2, if_neg c_19]) dX2_widen_31
  · skip
    refine lv_iconst (v := 2) hx hb dX2_widen_5 (by decide) ?_
    refine g_Si (As := [.int 2]) (rest := []) ⟨hx, hb, hml, hown, hts⟩ (c_X2_fault l 2) (va_cwS 1 hts gX2_widen_X2_fault rfl rfl rfl esX2_fault ⟨Nat.le_of_ble_eq_true rfl, Nat.le_of_ble_eq_true rfl⟩) hP hS rfl hl.1 rfl (Nat.le_of_ble_eq_true rfl) dX2_widen_6 ⟨Nat.zero_le _, Nat.zero_le _⟩ (fun H locs hP hS => ?_)
    exact r_Wi hx hb hr hlocks hP hI hS (by simp only [f_X2_widen, if_pos c_2]) dX2_widen_9
abbrev rmX2_answerOf : Room := { frames := 5, cells := 0, slots := 0, locals := 115 }
theorem eeX2_answerOf : yX2_answerOf.cls = RX2 ∧ yX2_answerOf.cls ≠ "java/lang/invoke/MethodHandle" ∧ yX2_answerOf.cls ≠ "java/lang/invoke/VarHandle" ∧ (parseMethodDescriptor yX2_answerOf.desc).map (fun d => d.parameters.length) = some 4 := by decide +kernel
theorem iwX2_answerOf : ∀ w ∈ u_ws RX2 TX2 5, w ∈ wsX2_answerOf := by decide +kernel
theorem flX2_answerOf_10 : Cond.fieldLink RX2 10 "LoomPanel" "values" "LLoomPanel$Values;" ∈ wsX2_answerOf := by decide +kernel
def f_X2_answerOf (S : KS) (x1 : Int32) (x2 : Int32) (x3 : Int32) (x4 : Int32) : Int32 × KS := if ((f_X1_made S) + (f_X2_makes S x1 x2)) ≤ 60 then (if x1 = 0 then (((f_X2_sum S x2).1, (f_X2_sum S x2).2)) else (if x1 = 1 then (((f_X2_widen S x2).1, (f_X2_widen S x2).2)) else (if x1 = 2 then (((f_X2_narrow S x2).1, (f_X2_narrow S x2).2)) else (if x1 = 3 then ((f_X2_tap S x2 x4, S)) else (if x1 = 4 then (((f_X2_lay S x2 x3 x4).1, (f_X2_lay S x2 x3 x4).2)) else (if x1 = 5 then (((f_X2_levels S x2).1, (f_X2_levels S x2).2)) else (if x1 = 6 then (if x4 = 0 then (((f_X2_drive S x2 0).1, (f_X2_drive S x2 0).2)) else (((f_X2_drive S x2 1).1, (f_X2_drive S x2 1).2))) else (if x1 = 7 then (if x4 = 0 then (((f_X2_pair S x2 x3 0).1, (f_X2_pair S x2 x3 0).2)) else (((f_X2_pair S x2 x3 1).1, (f_X2_pair S x2 x3 1).2))) else (if x1 = 8 then (((f_X2_power S x2).1, (f_X2_power S x2).2)) else (if x1 = 9 then (((f_X2_join S x2 x3).1, (f_X2_join S x2 x3).2)) else (if x1 = 10 then (((f_X2_copy S x2).1, (f_X2_copy S x2).2)) else (if x1 = 11 then (((f_X2_makeCable S x4).1, (f_X2_makeCable S x4).2)) else ((f_X2_check S x2 x4, S)))))))))))))) else ((f_X2_fault 6, S))
set_option maxHeartbeats 4000000 in
set_option maxRecDepth 100000 in
theorem c_X2_answerOf (l : Launch) (D : va_G) (cI cJ : ClassId) (a : Nat → Nat) (hd : ∀ i j, i < 11 → j < 11 → a i = a j → i = j) (S : KS) (x1 : Int32) (x2 : Int32) (x3 : Int32) (x4 : Int32) : GWi l yX2_answerOf wsX2_answerOf rmX2_answerOf [.ref (a 0), .int x1, .int x2, .int x3, .int x4] D (cw_tys cI cJ) (cw cI cJ a) KInv (kA a) S (f_X2_answerOf S x1 x2 x3 x4) := by
  refine GB_of (cc := cX2_answerOf) (maxL := 5) (ret := (some .int)) (by decide) rfl (Nat.le_of_ble_eq_true rfl) ?_
  intro p e s m below meth c C hP hI ls hl
  obtain ⟨hx, hb, hr, hlocks, hml, hown, hts, hK, hN⟩ := id C
  have hS : va_S (kA a) s.heap s.heap [] := va_S.rf
  have hl : lv_has ls 5 [(0, .ref (a 0)), (1, .int x1), (2, .int x2), (3, .int x3), (4, .int x4)] := hl
  refine lv_aload_n hx hb dX2_answerOf_0 rfl (lv_at hl 0 rfl) ?_
  refine va_get (D := D) (ci := 2) (v := .ref (a 1)) (C := RX2) (T := TX2) (N := 5) hx hb hts iwX2_answerOf hown hK hP 0 rfl rfl 0 (by decide) (hts (.fieldLink RX2 10 "LoomPanel" "values" "LLoomPanel$Values;") flX2_answerOf_10) (fun _ h9 => h9) rfl dX2_answerOf_1 ?_
  refine g_Ri (As := []) (rest := []) ⟨hx, hb, hml, hown, hts⟩ (c_X1_made l D cI cJ a hd S  ) (cwV 0 hts gX2_answerOf_X1_made rfl rfl rfl eeX1_made ⟨Nat.le_of_ble_eq_true rfl, Nat.le_of_ble_eq_true rfl⟩) hK hN hP hI (va_recv hK hP (ci := 1) (q0 := 1) rfl rfl) hS rfl hl.1 rfl (Nat.le_of_ble_eq_true rfl) dX2_answerOf_4 ⟨Nat.zero_le _, Nat.zero_le _⟩ (fun H locs hP hS => ?_)
  refine lv_aload_n hx hb dX2_answerOf_7 rfl (lv_at hl 0 rfl) ?_
  refine lv_iload_n hx hb dX2_answerOf_8 rfl (lv_at hl 1 rfl) ?_
  refine lv_iload_n hx hb dX2_answerOf_9 rfl (lv_at hl 2 rfl) ?_
  refine g_Ri (As := [.int x1, .int x2]) (rest := [.int (f_X1_made S)]) ⟨hx, hb, hml, hown, hts⟩ (c_X2_makes l D cI cJ a hd S x1 x2 ) (cwV 2 hts gX2_answerOf_X2_makes rfl rfl rfl eeX2_makes ⟨Nat.le_of_ble_eq_true rfl, Nat.le_of_ble_eq_true rfl⟩) hK hN hP hI (va_recv hK hP (ci := 2) (q0 := 0) rfl rfl) hS rfl hl.1 rfl (Nat.le_of_ble_eq_true rfl) dX2_answerOf_10 ⟨Nat.zero_le _, Nat.zero_le _⟩ (fun H locs hP hS => ?_)
  refine lv_iadd hx hb dX2_answerOf_13 ?_
  refine lv_bipush (v := 60) hx hb dX2_answerOf_14 (by decide) ?_
  refine lv_icmp_le (tgt := 25) hx hb dX2_answerOf_16 (by decide) (fun c_16 => ?_) (fun c_16 => ?_)
  · skip
    refine lv_iload_n hx hb dX2_answerOf_25 rfl (lv_at hl 1 rfl) ?_
    by_cases c_26_0 : x1 = 0
    · refine lv_tableIn (tgt := 88) hx hb dX2_answerOf_26 (by rw [c_26_0]; decide) (by rw [c_26_0]; decide) (by rw [c_26_0]; rfl) (by decide) ?_
      refine lv_aload_n hx hb dX2_answerOf_88 rfl (lv_at hl 0 rfl) ?_
      refine lv_iload_n hx hb dX2_answerOf_89 rfl (lv_at hl 2 rfl) ?_
      refine g_Wi (As := [.int x2]) (rest := []) ⟨hx, hb, hml, hown, hts⟩ (c_X2_sum l D cI cJ a hd S x2 ) (cwV 1 hts gX2_answerOf_X2_sum rfl rfl rfl eeX2_sum ⟨Nat.le_of_ble_eq_true rfl, Nat.le_of_ble_eq_true rfl⟩) hK hN hP hI (va_recv hK hP (ci := 2) (q0 := 0) rfl rfl) hS rfl hl.1 rfl (Nat.le_of_ble_eq_true rfl) dX2_answerOf_90 ⟨Nat.zero_le _, Nat.zero_le _⟩ (fun H locs hI hP hS => ?_)
      exact r_Wi hx hb hr hlocks hP hI hS (by simp only [f_X2_answerOf, if_pos c_16, if_pos c_26_0]) dX2_answerOf_93
    by_cases c_26_1 : x1 = 1
    · refine lv_tableIn (tgt := 94) hx hb dX2_answerOf_26 (by rw [c_26_1]; decide) (by rw [c_26_1]; decide) (by rw [c_26_1]; rfl) (by decide) ?_
      refine lv_aload_n hx hb dX2_answerOf_94 rfl (lv_at hl 0 rfl) ?_
      refine lv_iload_n hx hb dX2_answerOf_95 rfl (lv_at hl 2 rfl) ?_
      refine g_Wi (As := [.int x2]) (rest := []) ⟨hx, hb, hml, hown, hts⟩ (c_X2_widen l D cI cJ a hd S x2 ) (cwV 1 hts gX2_answerOf_X2_widen rfl rfl rfl eeX2_widen ⟨Nat.le_of_ble_eq_true rfl, Nat.le_of_ble_eq_true rfl⟩) hK hN hP hI (va_recv hK hP (ci := 2) (q0 := 0) rfl rfl) hS rfl hl.1 rfl (Nat.le_of_ble_eq_true rfl) dX2_answerOf_96 ⟨Nat.zero_le _, Nat.zero_le _⟩ (fun H locs hI hP hS => ?_)
      exact r_Wi hx hb hr hlocks hP hI hS (by simp only [f_X2_answerOf, if_pos c_16, if_neg c_26_0, if_pos c_26_1]) dX2_answerOf_99
    by_cases c_26_2 : x1 = 2
    · refine lv_tableIn (tgt := 100) hx hb dX2_answerOf_26 (by rw [c_26_2]; decide) (by rw [c_26_2]; decide) (by rw [c_26_2]; rfl) (by decide) ?_
      refine lv_aload_n hx hb dX2_answerOf_100 rfl (lv_at hl 0 rfl) ?_
      refine lv_iload_n hx hb dX2_answerOf_101 rfl (lv_at hl 2 rfl) ?_
      refine g_Wi (As := [.int x2]) (rest := []) ⟨hx, hb, hml, hown, hts⟩ (c_X2_narrow l D cI cJ a hd S x2 ) (cwV 1 hts gX2_answerOf_X2_narrow rfl rfl rfl eeX2_narrow ⟨Nat.le_of_ble_eq_true rfl, Nat.le_of_ble_eq_true rfl⟩) hK hN hP hI (va_recv hK hP (ci := 2) (q0 := 0) rfl rfl) hS rfl hl.1 rfl (Nat.le_of_ble_eq_true rfl) dX2_answerOf_102 ⟨Nat.zero_le _, Nat.zero_le _⟩ (fun H locs hI hP hS => ?_)
      exact r_Wi hx hb hr hlocks hP hI hS (by simp only [f_X2_answerOf, if_pos c_16, if_neg c_26_0, if_neg c_26_1, if_pos c_26_2]) dX2_answerOf_105
    by_cases c_26_3 : x1 = 3
    · refine lv_tableIn (tgt := 106) hx hb dX2_answerOf_26 (by rw [c_26_3]; decide) (by rw [c_26_3]; decide) (by rw [c_26_3]; rfl) (by decide) ?_
      refine lv_aload_n hx hb dX2_answerOf_106 rfl (lv_at hl 0 rfl) ?_
      refine lv_iload_n hx hb dX2_answerOf_107 rfl (lv_at hl 2 rfl) ?_
      refine lv_iload hx hb dX2_answerOf_108 (lv_at hl 4 rfl) ?_
      refine g_Ri (As := [.int x2, .int x4]) (rest := []) ⟨hx, hb, hml, hown, hts⟩ (c_X2_tap l D cI cJ a hd S x2 x4 ) (cwV 2 hts gX2_answerOf_X2_tap rfl rfl rfl eeX2_tap ⟨Nat.le_of_ble_eq_true rfl, Nat.le_of_ble_eq_true rfl⟩) hK hN hP hI (va_recv hK hP (ci := 2) (q0 := 0) rfl rfl) hS rfl hl.1 rfl (Nat.le_of_ble_eq_true rfl) dX2_answerOf_110 ⟨Nat.zero_le _, Nat.zero_le _⟩ (fun H locs hP hS => ?_)
      exact r_Wi hx hb hr hlocks hP hI hS (by simp only [f_X2_answerOf, if_pos c_16, if_neg c_26_0, if_neg c_26_1, if_neg c_26_2, if_pos c_26_3]) dX2_answerOf_113
    by_cases c_26_4 : x1 = 4
    · refine lv_tableIn (tgt := 114) hx hb dX2_answerOf_26 (by rw [c_26_4]; decide) (by rw [c_26_4]; decide) (by rw [c_26_4]; rfl) (by decide) ?_
      refine lv_aload_n hx hb dX2_answerOf_114 rfl (lv_at hl 0 rfl) ?_
      refine lv_iload_n hx hb dX2_answerOf_115 rfl (lv_at hl 2 rfl) ?_
      refine lv_iload_n hx hb dX2_answerOf_116 rfl (lv_at hl 3 rfl) ?_
      refine lv_iload hx hb dX2_answerOf_117 (lv_at hl 4 rfl) ?_
      refine g_Wi (As := [.int x2, .int x3, .int x4]) (rest := []) ⟨hx, hb, hml, hown, hts⟩ (c_X2_lay l D cI cJ a hd S x2 x3 x4 ) (cwV 3 hts gX2_answerOf_X2_lay rfl rfl rfl eeX2_lay ⟨Nat.le_of_ble_eq_true rfl, Nat.le_of_ble_eq_true rfl⟩) hK hN hP hI (va_recv hK hP (ci := 2) (q0 := 0) rfl rfl) hS rfl hl.1 rfl (Nat.le_of_ble_eq_true rfl) dX2_answerOf_119 ⟨Nat.zero_le _, Nat.zero_le _⟩ (fun H locs hI hP hS => ?_)
      exact r_Wi hx hb hr hlocks hP hI hS (by simp only [f_X2_answerOf, if_pos c_16, if_neg c_26_0, if_neg c_26_1, if_neg c_26_2, if_neg c_26_3, if_pos c_26_4]) dX2_answerOf_122
    by_cases c_26_5 : x1 = 5
    · refine lv_tableIn (tgt := 123) hx hb dX2_answerOf_26 (by rw [c_26_5]; decide) (by rw [c_26_5]; decide) (by rw [c_26_5]; rfl) (by decide) ?_
      refine lv_aload_n hx hb dX2_answerOf_123 rfl (lv_at hl 0 rfl) ?_
      refine lv_iload_n hx hb dX2_answerOf_124 rfl (lv_at hl 2 rfl) ?_
      refine g_Wi (As := [.int x2]) (rest := []) ⟨hx, hb, hml, hown, hts⟩ (c_X2_levels l D cI cJ a hd S x2 ) (cwV 1 hts gX2_answerOf_X2_levels rfl rfl rfl eeX2_levels ⟨Nat.le_of_ble_eq_true rfl, Nat.le_of_ble_eq_true rfl⟩) hK hN hP hI (va_recv hK hP (ci := 2) (q0 := 0) rfl rfl) hS rfl hl.1 rfl (Nat.le_of_ble_eq_true rfl) dX2_answerOf_125 ⟨Nat.zero_le _, Nat.zero_le _⟩ (fun H locs hI hP hS => ?_)
      exact r_Wi hx hb hr hlocks hP hI hS (by simp only [f_X2_answerOf, if_pos c_16, if_neg c_26_0, if_neg c_26_1, if_neg c_26_2, if_neg c_26_3, if_neg c_26_4, if_pos c_26_5]) dX2_answerOf_128
    by_cases c_26_6 : x1 = 6
    · refine lv_tableIn (tgt := 129) hx hb dX2_answerOf_26 (by rw [c_26_6]; decide) (by rw [c_26_6]; decide) (by rw [c_26_6]; rfl) (by decide) ?_
      refine lv_aload_n hx hb dX2_answerOf_129 rfl (lv_at hl 0 rfl) ?_
      refine lv_iload_n hx hb dX2_answerOf_130 rfl (lv_at hl 2 rfl) ?_
      refine lv_iload hx hb dX2_answerOf_131 (lv_at hl 4 rfl) ?_
      refine lv_if_eq (tgt := 140) hx hb dX2_answerOf_133 (by decide) (fun c_133 => ?_) (fun c_133 => ?_)
      · skip
        refine lv_iconst (v := 0) hx hb dX2_answerOf_140 (by decide) ?_
        refine g_Wi (As := [.int x2, .int 0]) (rest := []) ⟨hx, hb, hml, hown, hts⟩ (c_X2_drive l D cI cJ a hd S x2 0 ) (cwV 2 hts gX2_answerOf_X2_drive rfl rfl rfl eeX2_drive ⟨Nat.le_of_ble_eq_true rfl, Nat.le_of_ble_eq_true rfl⟩) hK hN hP hI (va_recv hK hP (ci := 2) (q0 := 0) rfl rfl) hS rfl hl.1 rfl (Nat.le_of_ble_eq_true rfl) dX2_answerOf_141 ⟨Nat.zero_le _, Nat.zero_le _⟩ (fun H locs hI hP hS => ?_)
        exact r_Wi hx hb hr hlocks hP hI hS (by simp only [f_X2_answerOf, if_pos c_16, if_neg c_26_0, if_neg c_26_1, if_neg c_26_2, if_neg c_26_3, if_neg c_26_4, if_neg c_26_5, if_pos c_26_6, if_pos c_133]) dX2_answerOf_144
      · skip
        refine lv_iconst (v := 1) hx hb dX2_answerOf_136 (by decide) ?_
        refine lv_goto (tgt := 141) hx hb dX2_answerOf_137 (by decide) ?_
        refine g_Wi (As := [.int x2, .int 1]) (rest := []) ⟨hx, hb, hml, hown, hts⟩ (c_X2_drive l D cI cJ a hd S x2 1 ) (cwV 2 hts gX2_answerOf_X2_drive rfl rfl rfl eeX2_drive ⟨Nat.le_of_ble_eq_true rfl, Nat.le_of_ble_eq_true rfl⟩) hK hN hP hI (va_recv hK hP (ci := 2) (q0 := 0) rfl rfl) hS rfl hl.1 rfl (Nat.le_of_ble_eq_true rfl) dX2_answerOf_141 ⟨Nat.zero_le _, Nat.zero_le _⟩ (fun H locs hI hP hS => ?_)
        exact r_Wi hx hb hr hlocks hP hI hS (by simp only [f_X2_answerOf, if_pos c_16, if_neg c_26_0, if_neg c_26_1, if_neg c_26_2, if_neg c_26_3, if_neg c_26_4, if_neg c_26_5, if_pos c_26_6, if_neg c_133]) dX2_answerOf_144
    by_cases c_26_7 : x1 = 7
    · refine lv_tableIn (tgt := 145) hx hb dX2_answerOf_26 (by rw [c_26_7]; decide) (by rw [c_26_7]; decide) (by rw [c_26_7]; rfl) (by decide) ?_
      refine lv_aload_n hx hb dX2_answerOf_145 rfl (lv_at hl 0 rfl) ?_
      refine lv_iload_n hx hb dX2_answerOf_146 rfl (lv_at hl 2 rfl) ?_
      refine lv_iload_n hx hb dX2_answerOf_147 rfl (lv_at hl 3 rfl) ?_
      refine lv_iload hx hb dX2_answerOf_148 (lv_at hl 4 rfl) ?_
      refine lv_if_eq (tgt := 157) hx hb dX2_answerOf_150 (by decide) (fun c_150 => ?_) (fun c_150 => ?_)
      · skip
        refine lv_iconst (v := 0) hx hb dX2_answerOf_157 (by decide) ?_
        refine g_Wi (As := [.int x2, .int x3, .int 0]) (rest := []) ⟨hx, hb, hml, hown, hts⟩ (c_X2_pair l D cI cJ a hd S x2 x3 0 ) (cwV 3 hts gX2_answerOf_X2_pair rfl rfl rfl eeX2_pair ⟨Nat.le_of_ble_eq_true rfl, Nat.le_of_ble_eq_true rfl⟩) hK hN hP hI (va_recv hK hP (ci := 2) (q0 := 0) rfl rfl) hS rfl hl.1 rfl (Nat.le_of_ble_eq_true rfl) dX2_answerOf_158 ⟨Nat.zero_le _, Nat.zero_le _⟩ (fun H locs hI hP hS => ?_)
        exact r_Wi hx hb hr hlocks hP hI hS (by simp only [f_X2_answerOf, if_pos c_16, if_neg c_26_0, if_neg c_26_1, if_neg c_26_2, if_neg c_26_3, if_neg c_26_4, if_neg c_26_5, if_neg c_26_6, if_pos c_26_7, if_pos c_150]) dX2_answerOf_161
      · skip
        refine lv_iconst (v := 1) hx hb dX2_answerOf_153 (by decide) ?_
        refine lv_goto (tgt := 158) hx hb dX2_answerOf_154 (by decide) ?_
        refine g_Wi (As := [.int x2, .int x3, .int 1]) (rest := []) ⟨hx, hb, hml, hown, hts⟩ (c_X2_pair l D cI cJ a hd S x2 x3 1 ) (cwV 3 hts gX2_answerOf_X2_pair rfl rfl rfl eeX2_pair ⟨Nat.le_of_ble_eq_true rfl, Nat.le_of_ble_eq_true rfl⟩) hK hN hP hI (va_recv hK hP (ci := 2) (q0 := 0) rfl rfl) hS rfl hl.1 rfl (Nat.le_of_ble_eq_true rfl) dX2_answerOf_158 ⟨Nat.zero_le _, Nat.zero_le _⟩ (fun H locs hI hP hS => ?_)
        exact r_Wi hx hb hr hlocks hP hI hS (by simp only [f_X2_answerOf, if_pos c_16, if_neg c_26_0, if_neg c_26_1, if_neg c_26_2, if_neg c_26_3, if_neg c_26_4, if_neg c_26_5, if_neg c_26_6, if_pos c_26_7, if_neg c_150]) dX2_answerOf_161
    by_cases c_26_8 : x1 = 8
    · refine lv_tableIn (tgt := 162) hx hb dX2_answerOf_26 (by rw [c_26_8]; decide) (by rw [c_26_8]; decide) (by rw [c_26_8]; rfl) (by decide) ?_
      refine lv_aload_n hx hb dX2_answerOf_162 rfl (lv_at hl 0 rfl) ?_
      refine lv_iload_n hx hb dX2_answerOf_163 rfl (lv_at hl 2 rfl) ?_
      refine g_Wi (As := [.int x2]) (rest := []) ⟨hx, hb, hml, hown, hts⟩ (c_X2_power l D cI cJ a hd S x2 ) (cwV 1 hts gX2_answerOf_X2_power rfl rfl rfl eeX2_power ⟨Nat.le_of_ble_eq_true rfl, Nat.le_of_ble_eq_true rfl⟩) hK hN hP hI (va_recv hK hP (ci := 2) (q0 := 0) rfl rfl) hS rfl hl.1 rfl (Nat.le_of_ble_eq_true rfl) dX2_answerOf_164 ⟨Nat.zero_le _, Nat.zero_le _⟩ (fun H locs hI hP hS => ?_)
      exact r_Wi hx hb hr hlocks hP hI hS (by simp only [f_X2_answerOf, if_pos c_16, if_neg c_26_0, if_neg c_26_1, if_neg c_26_2, if_neg c_26_3, if_neg c_26_4, if_neg c_26_5, if_neg c_26_6, if_neg c_26_7, if_pos c_26_8]) dX2_answerOf_167
    by_cases c_26_9 : x1 = 9
    · refine lv_tableIn (tgt := 168) hx hb dX2_answerOf_26 (by rw [c_26_9]; decide) (by rw [c_26_9]; decide) (by rw [c_26_9]; rfl) (by decide) ?_
      refine lv_aload_n hx hb dX2_answerOf_168 rfl (lv_at hl 0 rfl) ?_
      refine lv_iload_n hx hb dX2_answerOf_169 rfl (lv_at hl 2 rfl) ?_
      refine lv_iload_n hx hb dX2_answerOf_170 rfl (lv_at hl 3 rfl) ?_
      refine g_Wi (As := [.int x2, .int x3]) (rest := []) ⟨hx, hb, hml, hown, hts⟩ (c_X2_join l D cI cJ a hd S x2 x3 ) (cwV 2 hts gX2_answerOf_X2_join rfl rfl rfl eeX2_join ⟨Nat.le_of_ble_eq_true rfl, Nat.le_of_ble_eq_true rfl⟩) hK hN hP hI (va_recv hK hP (ci := 2) (q0 := 0) rfl rfl) hS rfl hl.1 rfl (Nat.le_of_ble_eq_true rfl) dX2_answerOf_171 ⟨Nat.zero_le _, Nat.zero_le _⟩ (fun H locs hI hP hS => ?_)
      exact r_Wi hx hb hr hlocks hP hI hS (by simp only [f_X2_answerOf, if_pos c_16, if_neg c_26_0, if_neg c_26_1, if_neg c_26_2, if_neg c_26_3, if_neg c_26_4, if_neg c_26_5, if_neg c_26_6, if_neg c_26_7, if_neg c_26_8, if_pos c_26_9]) dX2_answerOf_174
    by_cases c_26_10 : x1 = 10
    · refine lv_tableIn (tgt := 175) hx hb dX2_answerOf_26 (by rw [c_26_10]; decide) (by rw [c_26_10]; decide) (by rw [c_26_10]; rfl) (by decide) ?_
      refine lv_aload_n hx hb dX2_answerOf_175 rfl (lv_at hl 0 rfl) ?_
      refine lv_iload_n hx hb dX2_answerOf_176 rfl (lv_at hl 2 rfl) ?_
      refine g_Wi (As := [.int x2]) (rest := []) ⟨hx, hb, hml, hown, hts⟩ (c_X2_copy l D cI cJ a hd S x2 ) (cwV 1 hts gX2_answerOf_X2_copy rfl rfl rfl eeX2_copy ⟨Nat.le_of_ble_eq_true rfl, Nat.le_of_ble_eq_true rfl⟩) hK hN hP hI (va_recv hK hP (ci := 2) (q0 := 0) rfl rfl) hS rfl hl.1 rfl (Nat.le_of_ble_eq_true rfl) dX2_answerOf_177 ⟨Nat.zero_le _, Nat.zero_le _⟩ (fun H locs hI hP hS => ?_)
      exact r_Wi hx hb hr hlocks hP hI hS (by simp only [f_X2_answerOf, if_pos c_16, if_neg c_26_0, if_neg c_26_1, if_neg c_26_2, if_neg c_26_3, if_neg c_26_4, if_neg c_26_5, if_neg c_26_6, if_neg c_26_7, if_neg c_26_8, if_neg c_26_9, if_pos c_26_10]) dX2_answerOf_180
    by_cases c_26_11 : x1 = 11
    · refine lv_tableIn (tgt := 181) hx hb dX2_answerOf_26 (by rw [c_26_11]; decide) (by rw [c_26_11]; decide) (by rw [c_26_11]; rfl) (by decide) ?_
      refine lv_aload_n hx hb dX2_answerOf_181 rfl (lv_at hl 0 rfl) ?_
      refine lv_iload hx hb dX2_answerOf_182 (lv_at hl 4 rfl) ?_
      refine g_Wi (As := [.int x4]) (rest := []) ⟨hx, hb, hml, hown, hts⟩ (c_X2_makeCable l D cI cJ a hd S x4 ) (cwV 1 hts gX2_answerOf_X2_makeCable rfl rfl rfl eeX2_makeCable ⟨Nat.le_of_ble_eq_true rfl, Nat.le_of_ble_eq_true rfl⟩) hK hN hP hI (va_recv hK hP (ci := 2) (q0 := 0) rfl rfl) hS rfl hl.1 rfl (Nat.le_of_ble_eq_true rfl) dX2_answerOf_184 ⟨Nat.zero_le _, Nat.zero_le _⟩ (fun H locs hI hP hS => ?_)
      exact r_Wi hx hb hr hlocks hP hI hS (by simp only [f_X2_answerOf, if_pos c_16, if_neg c_26_0, if_neg c_26_1, if_neg c_26_2, if_neg c_26_3, if_neg c_26_4, if_neg c_26_5, if_neg c_26_6, if_neg c_26_7, if_neg c_26_8, if_neg c_26_9, if_neg c_26_10, if_pos c_26_11]) dX2_answerOf_187
    refine lv_tableOut (tgt := 188) hx hb dX2_answerOf_26 (by have := lv_neT (a := 0) c_26_0 (by decide); have := lv_neT (a := 1) c_26_1 (by decide); have := lv_neT (a := 2) c_26_2 (by decide); have := lv_neT (a := 3) c_26_3 (by decide); have := lv_neT (a := 4) c_26_4 (by decide); have := lv_neT (a := 5) c_26_5 (by decide); have := lv_neT (a := 6) c_26_6 (by decide); have := lv_neT (a := 7) c_26_7 (by decide); have := lv_neT (a := 8) c_26_8 (by decide); have := lv_neT (a := 9) c_26_9 (by decide); have := lv_neT (a := 10) c_26_10 (by decide); have := lv_neT (a := 11) c_26_11 (by decide); omega) (by decide) ?_
    refine lv_aload_n hx hb dX2_answerOf_188 rfl (lv_at hl 0 rfl) ?_
    refine lv_iload_n hx hb dX2_answerOf_189 rfl (lv_at hl 2 rfl) ?_
    refine lv_iload hx hb dX2_answerOf_190 (lv_at hl 4 rfl) ?_
    refine g_Ri (As := [.int x2, .int x4]) (rest := []) ⟨hx, hb, hml, hown, hts⟩ (c_X2_check l D cI cJ a hd S x2 x4 ) (cwV 2 hts gX2_answerOf_X2_check rfl rfl rfl eeX2_check ⟨Nat.le_of_ble_eq_true rfl, Nat.le_of_ble_eq_true rfl⟩) hK hN hP hI (va_recv hK hP (ci := 2) (q0 := 0) rfl rfl) hS rfl hl.1 rfl (Nat.le_of_ble_eq_true rfl) dX2_answerOf_192 ⟨Nat.zero_le _, Nat.zero_le _⟩ (fun H locs hP hS => ?_)
    exact r_Wi hx hb hr hlocks hP hI hS (by simp only [f_X2_answerOf, if_pos c_16, if_neg c_26_0, if_neg c_26_1, if_neg c_26_2, if_neg c_26_3, if_neg c_26_4, if_neg c_26_5, if_neg c_26_6, if_neg c_26_7, if_neg c_26_8, if_neg c_26_9, if_neg c_26_10, if_neg c_26_11]) dX2_answerOf_195
  · skip
    refine lv_bipush (v := 6) hx hb dX2_answerOf_19 (by decide) ?_
    refine g_Si (As := [.int 6]) (rest := []) ⟨hx, hb, hml, hown, hts⟩ (c_X2_fault l 6) (va_cwS 1 hts gX2_answerOf_X2_fault rfl rfl rfl esX2_fault ⟨Nat.le_of_ble_eq_true rfl, Nat.le_of_ble_eq_true rfl⟩) hP hS rfl hl.1 rfl (Nat.le_of_ble_eq_true rfl) dX2_answerOf_21 ⟨Nat.zero_le _, Nat.zero_le _⟩ (fun H locs hP hS => ?_)
    exact r_Wi hx hb hr hlocks hP hI hS (by simp only [f_X2_answerOf, if_neg c_16]) dX2_answerOf_24
abbrev rmX2_isAct : Room := { frames := 0, cells := 0, slots := 0, locals := 0 }
theorem esX2_isAct : yX2_isAct.cls ≠ "java/lang/invoke/MethodHandle" ∧ yX2_isAct.cls ≠ "java/lang/invoke/VarHandle" ∧ (parseMethodDescriptor yX2_isAct.desc).map (fun d => d.parameters.length) = some 1 := by decide +kernel
def f_X2_isAct (x0 : Int32) : Int32 := if x0 < 0 then (0) else (if 12 < x0 then (0) else (1))
set_option maxHeartbeats 4000000 in
set_option maxRecDepth 100000 in
theorem c_X2_isAct (l : Launch) (x0 : Int32) : GSi l yX2_isAct wsX2_isAct rmX2_isAct [.int x0] (f_X2_isAct x0) := by
  refine GS_of (cc := cX2_isAct) (maxL := 1) (ret := (some .boolean)) (by decide) rfl (Nat.le_of_ble_eq_true rfl) ?_
  intro p e s m below meth c C ls hl
  obtain ⟨hx, hb, hr, hlocks, hml, hown, hts⟩ := id C
  have hl : lv_has ls 1 [(0, .int x0)] := hl
  refine lv_iload_n hx hb dX2_isAct_0 rfl (lv_at hl 0 rfl) ?_
  refine lv_if_lt (tgt := 14) hx hb dX2_isAct_1 (by decide) (fun c_1 => ?_) (fun c_1 => ?_)
  · skip
    refine lv_iconst (v := 0) hx hb dX2_isAct_14 (by decide) ?_
    exact r_Sz hx hb hr hlocks rfl (by simp only [f_X2_isAct, if_pos c_1]) dX2_isAct_15
  · skip
    refine lv_iload_n hx hb dX2_isAct_4 rfl (lv_at hl 0 rfl) ?_
    refine lv_bipush (v := 12) hx hb dX2_isAct_5 (by decide) ?_
    refine lv_icmp_gt (tgt := 14) hx hb dX2_isAct_7 (by decide) (fun c_7 => ?_) (fun c_7 => ?_)
    · skip
      refine lv_iconst (v := 0) hx hb dX2_isAct_14 (by decide) ?_
      exact r_Sz hx hb hr hlocks rfl (by simp only [f_X2_isAct, if_neg c_1, if_pos c_7]) dX2_isAct_15
    · skip
      refine lv_iconst (v := 1) hx hb dX2_isAct_10 (by decide) ?_
      refine lv_goto (tgt := 15) hx hb dX2_isAct_11 (by decide) ?_
      exact r_Sz hx hb hr hlocks rfl (by simp only [f_X2_isAct, if_neg c_1, if_neg c_7]) dX2_isAct_15
abbrev rmX2_isValueOrNone : Room := { frames := 1, cells := 0, slots := 0, locals := 21 }
theorem eeX2_isValueOrNone : yX2_isValueOrNone.cls = RX2 ∧ yX2_isValueOrNone.cls ≠ "java/lang/invoke/MethodHandle" ∧ yX2_isValueOrNone.cls ≠ "java/lang/invoke/VarHandle" ∧ (parseMethodDescriptor yX2_isValueOrNone.desc).map (fun d => d.parameters.length) = some 1 := by decide +kernel
theorem iwX2_isValueOrNone : ∀ w ∈ u_ws RX2 TX2 5, w ∈ wsX2_isValueOrNone := by decide +kernel
theorem flX2_isValueOrNone_10 : Cond.fieldLink RX2 10 "LoomPanel" "values" "LLoomPanel$Values;" ∈ wsX2_isValueOrNone := by decide +kernel
def f_X2_isValueOrNone (S : KS) (x1 : Int32) : Int32 := if x1 = (-1) then (1) else (if (f_X1_has S x1) = 0 then (0) else (1))
set_option maxHeartbeats 4000000 in
set_option maxRecDepth 100000 in
theorem c_X2_isValueOrNone (l : Launch) (D : va_G) (cI cJ : ClassId) (a : Nat → Nat) (hd : ∀ i j, i < 11 → j < 11 → a i = a j → i = j) (S : KS) (x1 : Int32) : GRi l yX2_isValueOrNone wsX2_isValueOrNone rmX2_isValueOrNone [.ref (a 0), .int x1] D (cw_tys cI cJ) (cw cI cJ a) KInv (kA a) S (f_X2_isValueOrNone S x1) := by
  refine GB_of (cc := cX2_isValueOrNone) (maxL := 2) (ret := (some .boolean)) (by decide) rfl (Nat.le_of_ble_eq_true rfl) ?_
  intro p e s m below meth c C hP hI ls hl
  obtain ⟨hx, hb, hr, hlocks, hml, hown, hts, hK, hN⟩ := id C
  have hS : va_S (kA a) s.heap s.heap [] := va_S.rf
  have hl : lv_has ls 2 [(0, .ref (a 0)), (1, .int x1)] := hl
  refine lv_iload_n hx hb dX2_isValueOrNone_0 rfl (lv_at hl 1 rfl) ?_
  refine lv_iconst (v := (-1)) hx hb dX2_isValueOrNone_1 (by decide) ?_
  refine lv_icmp_eq (tgt := 16) hx hb dX2_isValueOrNone_2 (by decide) (fun c_2 => ?_) (fun c_2 => ?_)
  · skip
    refine lv_iconst (v := 1) hx hb dX2_isValueOrNone_16 (by decide) ?_
    refine lv_goto (tgt := 21) hx hb dX2_isValueOrNone_17 (by decide) ?_
    exact r_Rz hx hb hr hlocks hP hI hS rfl (by simp only [f_X2_isValueOrNone, if_pos c_2]) dX2_isValueOrNone_21
  · skip
    refine lv_aload_n hx hb dX2_isValueOrNone_5 rfl (lv_at hl 0 rfl) ?_
    refine va_get (D := D) (ci := 2) (v := .ref (a 1)) (C := RX2) (T := TX2) (N := 5) hx hb hts iwX2_isValueOrNone hown hK hP 0 rfl rfl 0 (by decide) (hts (.fieldLink RX2 10 "LoomPanel" "values" "LLoomPanel$Values;") flX2_isValueOrNone_10) (fun _ h9 => h9) rfl dX2_isValueOrNone_6 ?_
    refine lv_iload_n hx hb dX2_isValueOrNone_9 rfl (lv_at hl 1 rfl) ?_
    refine g_Ri (As := [.int x1]) (rest := []) ⟨hx, hb, hml, hown, hts⟩ (c_X1_has l D cI cJ a hd S x1 ) (cwV 1 hts gX2_isValueOrNone_X1_has rfl rfl rfl eeX1_has ⟨Nat.le_of_ble_eq_true rfl, Nat.le_of_ble_eq_true rfl⟩) hK hN hP hI (va_recv hK hP (ci := 1) (q0 := 1) rfl rfl) hS rfl hl.1 rfl (Nat.le_of_ble_eq_true rfl) dX2_isValueOrNone_10 ⟨Nat.zero_le _, Nat.zero_le _⟩ (fun H locs hP hS => ?_)
    refine lv_if_eq (tgt := 20) hx hb dX2_isValueOrNone_13 (by decide) (fun c_13 => ?_) (fun c_13 => ?_)
    · skip
      refine lv_iconst (v := 0) hx hb dX2_isValueOrNone_20 (by decide) ?_
      exact r_Rz hx hb hr hlocks hP hI hS rfl (by simp only [f_X2_isValueOrNone, if_neg c_2, if_pos c_13]) dX2_isValueOrNone_21
    · skip
      refine lv_iconst (v := 1) hx hb dX2_isValueOrNone_16 (by decide) ?_
      refine lv_goto (tgt := 21) hx hb dX2_isValueOrNone_17 (by decide) ?_
      exact r_Rz hx hb hr hlocks hP hI hS rfl (by simp only [f_X2_isValueOrNone, if_neg c_2, if_neg c_13]) dX2_isValueOrNone_21
abbrev rmX2_isFault : Room := { frames := 0, cells := 0, slots := 0, locals := 0 }
theorem esX2_isFault : yX2_isFault.cls ≠ "java/lang/invoke/MethodHandle" ∧ yX2_isFault.cls ≠ "java/lang/invoke/VarHandle" ∧ (parseMethodDescriptor yX2_isFault.desc).map (fun d => d.parameters.length) = some 1 := by decide +kernel
def f_X2_isFault (x0 : Int32) : Int32 := if (-10) ≤ x0 then (0) else (1)
set_option maxHeartbeats 4000000 in
set_option maxRecDepth 100000 in
theorem c_X2_isFault (l : Launch) (x0 : Int32) : GSi l yX2_isFault wsX2_isFault rmX2_isFault [.int x0] (f_X2_isFault x0) := by
  refine GS_of (cc := cX2_isFault) (maxL := 1) (ret := (some .boolean)) (by decide) rfl (Nat.le_of_ble_eq_true rfl) ?_
  intro p e s m below meth c C ls hl
  obtain ⟨hx, hb, hr, hlocks, hml, hown, hts⟩ := id C
  have hl : lv_has ls 1 [(0, .int x0)] := hl
  refine lv_iload_n hx hb dX2_isFault_0 rfl (lv_at hl 0 rfl) ?_
  refine lv_bipush (v := (-10)) hx hb dX2_isFault_1 (by decide) ?_
  refine lv_icmp_ge (tgt := 10) hx hb dX2_isFault_3 (by decide) (fun c_3 => ?_) (fun c_3 => ?_)
  · skip
    refine lv_iconst (v := 0) hx hb dX2_isFault_10 (by decide) ?_
    exact r_Sz hx hb hr hlocks rfl (by simp only [f_X2_isFault, if_pos c_3]) dX2_isFault_11
  · skip
    refine lv_iconst (v := 1) hx hb dX2_isFault_6 (by decide) ?_
    refine lv_goto (tgt := 11) hx hb dX2_isFault_7 (by decide) ?_
    exact r_Sz hx hb hr hlocks rfl (by simp only [f_X2_isFault, if_neg c_3]) dX2_isFault_11
abbrev rmX2_noted : Room := { frames := 1, cells := 0, slots := 0, locals := 20 }
theorem eeX2_noted : yX2_noted.cls = RX2 ∧ yX2_noted.cls ≠ "java/lang/invoke/MethodHandle" ∧ yX2_noted.cls ≠ "java/lang/invoke/VarHandle" ∧ (parseMethodDescriptor yX2_noted.desc).map (fun d => d.parameters.length) = some 1 := by decide +kernel
theorem iwX2_noted : ∀ w ∈ u_ws RX2 TX2 5, w ∈ wsX2_noted := by decide +kernel
theorem flX2_noted_27 : Cond.fieldLink RX2 27 "LoomPanel" "faultsSoFar" "I" ∈ wsX2_noted := by decide +kernel
theorem flX2_noted_30 : Cond.fieldLink RX2 30 "LoomPanel" "latestFault" "I" ∈ wsX2_noted := by decide +kernel
def f_X2_noted (S : KS) (x1 : Int32) : Int32 × KS := if (f_X2_isFault x1) = 0 then ((x1, S)) else ((x1, (S.set_faults (S.faults + 1)).set_latest ((-10) - x1)))
set_option maxHeartbeats 4000000 in
set_option maxRecDepth 100000 in
theorem c_X2_noted (l : Launch) (D : va_G) (cI cJ : ClassId) (a : Nat → Nat) (hd : ∀ i j, i < 11 → j < 11 → a i = a j → i = j) (S : KS) (x1 : Int32) : GWi l yX2_noted wsX2_noted rmX2_noted [.ref (a 0), .int x1] D (cw_tys cI cJ) (cw cI cJ a) KInv (kA a) S (f_X2_noted S x1) := by
  refine GB_of (cc := cX2_noted) (maxL := 2) (ret := (some .int)) (by decide) rfl (Nat.le_of_ble_eq_true rfl) ?_
  intro p e s m below meth c C hP hI ls hl
  obtain ⟨hx, hb, hr, hlocks, hml, hown, hts, hK, hN⟩ := id C
  have hS : va_S (kA a) s.heap s.heap [] := va_S.rf
  have hl : lv_has ls 2 [(0, .ref (a 0)), (1, .int x1)] := hl
  refine lv_iload_n hx hb dX2_noted_0 rfl (lv_at hl 1 rfl) ?_
  refine g_Si (As := [.int x1]) (rest := []) ⟨hx, hb, hml, hown, hts⟩ (c_X2_isFault l x1) (va_cwS 1 hts gX2_noted_X2_isFault rfl rfl rfl esX2_isFault ⟨Nat.le_of_ble_eq_true rfl, Nat.le_of_ble_eq_true rfl⟩) hP hS rfl hl.1 rfl (Nat.le_of_ble_eq_true rfl) dX2_noted_1 ⟨Nat.zero_le _, Nat.zero_le _⟩ (fun H locs hP hS => ?_)
  refine lv_if_eq (tgt := 25) hx hb dX2_noted_4 (by decide) (fun c_4 => ?_) (fun c_4 => ?_)
  · skip
    refine lv_iload_n hx hb dX2_noted_25 rfl (lv_at hl 1 rfl) ?_
    exact r_Wi hx hb hr hlocks hP hI hS (by simp only [f_X2_noted, if_pos c_4]) dX2_noted_26
  · skip
    refine lv_aload_n hx hb dX2_noted_7 rfl (lv_at hl 0 rfl) ?_
    refine lv_dup hx hb dX2_noted_8 rfl ?_
    refine va_get (D := D) (ci := 2) (v := .int S.faults) (C := RX2) (T := TX2) (N := 5) hx hb hts iwX2_noted hown hK hP 0 rfl rfl 3 (by decide) (hts (.fieldLink RX2 27 "LoomPanel" "faultsSoFar" "I") flX2_noted_27) (fun _ h9 => h9) rfl dX2_noted_9 ?_
    refine lv_iconst (v := 1) hx hb dX2_noted_12 (by decide) ?_
    refine lv_iadd hx hb dX2_noted_13 ?_
    refine va_put (D := D) (ci := 2) (v := .int (S.faults + 1)) (ty := .int) (C := RX2) (T := TX2) (N := 5) hx hb hts iwX2_noted tyX2 tyX2_ok nmX2 hown hK hP (cw_D hd) hS 0 rfl rfl 3 (by decide) (hts (.fieldLink RX2 27 "LoomPanel" "faultsSoFar" "I") flX2_noted_27) (fun _ h9 => h9) rfl (by decide +kernel) rfl rfl (Nat.le_of_ble_eq_true rfl) dX2_noted_14 (fun H locs hP _ hS => ?_)
    have hP : va_P D vwCl (cw cI cJ a (S.set_faults (S.faults + 1))) H := by rw [← cw_set_faults]; exact hP
    have hI : KInv (S.set_faults (S.faults + 1)) := KInv_set_faults hI
    refine lv_aload_n hx hb dX2_noted_17 rfl (lv_at hl 0 rfl) ?_
    refine lv_bipush (v := (-10)) hx hb dX2_noted_18 (by decide) ?_
    refine lv_iload_n hx hb dX2_noted_20 rfl (lv_at hl 1 rfl) ?_
    refine lv_isub hx hb dX2_noted_21 ?_
    refine va_put (D := D) (ci := 2) (v := .int ((-10) - x1)) (ty := .int) (C := RX2) (T := TX2) (N := 5) hx hb hts iwX2_noted tyX2 tyX2_ok nmX2 hown hK hP (cw_D hd) hS 0 rfl rfl 4 (by decide) (hts (.fieldLink RX2 30 "LoomPanel" "latestFault" "I") flX2_noted_30) (fun _ h9 => h9) rfl (by decide +kernel) rfl rfl (Nat.le_of_ble_eq_true rfl) dX2_noted_22 (fun H locs hP _ hS => ?_)
    have hP : va_P D vwCl (cw cI cJ a ((S.set_faults (S.faults + 1)).set_latest ((-10) - x1))) H := by rw [← cw_set_latest]; exact hP
    have hI : KInv ((S.set_faults (S.faults + 1)).set_latest ((-10) - x1)) := KInv_set_latest hI
    refine lv_iload_n hx hb dX2_noted_25 rfl (lv_at hl 1 rfl) ?_
    exact r_Wi hx hb hr hlocks hP hI hS (by simp only [f_X2_noted, if_neg c_4]) dX2_noted_26
abbrev rmX2_act : Room := { frames := 6, cells := 0, slots := 0, locals := 139 }
theorem eeX2_act : yX2_act.cls = RX2 ∧ yX2_act.cls ≠ "java/lang/invoke/MethodHandle" ∧ yX2_act.cls ≠ "java/lang/invoke/VarHandle" ∧ (parseMethodDescriptor yX2_act.desc).map (fun d => d.parameters.length) = some 4 := by decide +kernel
def f_X2_act (S : KS) (x1 : Int32) (x2 : Int32) (x3 : Int32) (x4 : Int32) : Int32 × KS := if (f_X2_isAct x1) = 0 then (((-3), S)) else (if (f_X2_isValueOrNone S x2) = 0 then (((-3), S)) else (if (f_X2_isValueOrNone S x3) = 0 then (((-3), S)) else (((f_X2_noted ((f_X2_answerOf S x1 x2 x3 x4).2) ((f_X2_answerOf S x1 x2 x3 x4).1)).1, (f_X2_noted ((f_X2_answerOf S x1 x2 x3 x4).2) ((f_X2_answerOf S x1 x2 x3 x4).1)).2))))
set_option maxHeartbeats 4000000 in
set_option maxRecDepth 100000 in
theorem c_X2_act (l : Launch) (D : va_G) (cI cJ : ClassId) (a : Nat → Nat) (hd : ∀ i j, i < 11 → j < 11 → a i = a j → i = j) (S : KS) (x1 : Int32) (x2 : Int32) (x3 : Int32) (x4 : Int32) : GWi l yX2_act wsX2_act rmX2_act [.ref (a 0), .int x1, .int x2, .int x3, .int x4] D (cw_tys cI cJ) (cw cI cJ a) KInv (kA a) S (f_X2_act S x1 x2 x3 x4) := by
  refine GB_of (cc := cX2_act) (maxL := 5) (ret := (some .int)) (by decide) rfl (Nat.le_of_ble_eq_true rfl) ?_
  intro p e s m below meth c C hP hI ls hl
  obtain ⟨hx, hb, hr, hlocks, hml, hown, hts, hK, hN⟩ := id C
  have hS : va_S (kA a) s.heap s.heap [] := va_S.rf
  have hl : lv_has ls 5 [(0, .ref (a 0)), (1, .int x1), (2, .int x2), (3, .int x3), (4, .int x4)] := hl
  refine lv_iload_n hx hb dX2_act_0 rfl (lv_at hl 1 rfl) ?_
  refine g_Si (As := [.int x1]) (rest := []) ⟨hx, hb, hml, hown, hts⟩ (c_X2_isAct l x1) (va_cwS 1 hts gX2_act_X2_isAct rfl rfl rfl esX2_isAct ⟨Nat.le_of_ble_eq_true rfl, Nat.le_of_ble_eq_true rfl⟩) hP hS rfl hl.1 rfl (Nat.le_of_ble_eq_true rfl) dX2_act_1 ⟨Nat.zero_le _, Nat.zero_le _⟩ (fun H locs hP hS => ?_)
  refine lv_if_eq (tgt := 23) hx hb dX2_act_4 (by decide) (fun c_4 => ?_) (fun c_4 => ?_)
  · skip
    refine lv_bipush (v := (-3)) hx hb dX2_act_23 (by decide) ?_
    exact r_Wi hx hb hr hlocks hP hI hS (by simp only [f_X2_act, if_pos c_4]) dX2_act_25
  · skip
    refine lv_aload_n hx hb dX2_act_7 rfl (lv_at hl 0 rfl) ?_
    refine lv_iload_n hx hb dX2_act_8 rfl (lv_at hl 2 rfl) ?_
    refine g_Ri (As := [.int x2]) (rest := []) ⟨hx, hb, hml, hown, hts⟩ (c_X2_isValueOrNone l D cI cJ a hd S x2 ) (cwV 1 hts gX2_act_X2_isValueOrNone rfl rfl rfl eeX2_isValueOrNone ⟨Nat.le_of_ble_eq_true rfl, Nat.le_of_ble_eq_true rfl⟩) hK hN hP hI (va_recv hK hP (ci := 2) (q0 := 0) rfl rfl) hS rfl hl.1 rfl (Nat.le_of_ble_eq_true rfl) dX2_act_9 ⟨Nat.zero_le _, Nat.zero_le _⟩ (fun H locs hP hS => ?_)
    refine lv_if_eq (tgt := 23) hx hb dX2_act_12 (by decide) (fun c_12 => ?_) (fun c_12 => ?_)
    · skip
      refine lv_bipush (v := (-3)) hx hb dX2_act_23 (by decide) ?_
      exact r_Wi hx hb hr hlocks hP hI hS (by simp only [f_X2_act, if_neg c_4, if_pos c_12]) dX2_act_25
    · skip
      refine lv_aload_n hx hb dX2_act_15 rfl (lv_at hl 0 rfl) ?_
      refine lv_iload_n hx hb dX2_act_16 rfl (lv_at hl 3 rfl) ?_
      refine g_Ri (As := [.int x3]) (rest := []) ⟨hx, hb, hml, hown, hts⟩ (c_X2_isValueOrNone l D cI cJ a hd S x3 ) (cwV 1 hts gX2_act_X2_isValueOrNone rfl rfl rfl eeX2_isValueOrNone ⟨Nat.le_of_ble_eq_true rfl, Nat.le_of_ble_eq_true rfl⟩) hK hN hP hI (va_recv hK hP (ci := 2) (q0 := 0) rfl rfl) hS rfl hl.1 rfl (Nat.le_of_ble_eq_true rfl) dX2_act_17 ⟨Nat.zero_le _, Nat.zero_le _⟩ (fun H locs hP hS => ?_)
      refine lv_if_ne (tgt := 26) hx hb dX2_act_20 (by decide) (fun c_20 => ?_) (fun c_20 => ?_)
      · skip
        refine lv_aload_n hx hb dX2_act_26 rfl (lv_at hl 0 rfl) ?_
        refine lv_aload_n hx hb dX2_act_27 rfl (lv_at hl 0 rfl) ?_
        refine lv_iload_n hx hb dX2_act_28 rfl (lv_at hl 1 rfl) ?_
        refine lv_iload_n hx hb dX2_act_29 rfl (lv_at hl 2 rfl) ?_
        refine lv_iload_n hx hb dX2_act_30 rfl (lv_at hl 3 rfl) ?_
        refine lv_iload hx hb dX2_act_31 (lv_at hl 4 rfl) ?_
        refine g_Wi (As := [.int x1, .int x2, .int x3, .int x4]) (rest := [.ref (a 0)]) ⟨hx, hb, hml, hown, hts⟩ (c_X2_answerOf l D cI cJ a hd S x1 x2 x3 x4 ) (cwV 4 hts gX2_act_X2_answerOf rfl rfl rfl eeX2_answerOf ⟨Nat.le_of_ble_eq_true rfl, Nat.le_of_ble_eq_true rfl⟩) hK hN hP hI (va_recv hK hP (ci := 2) (q0 := 0) rfl rfl) hS rfl hl.1 rfl (Nat.le_of_ble_eq_true rfl) dX2_act_33 ⟨Nat.zero_le _, Nat.zero_le _⟩ (fun H locs hI hP hS => ?_)
        refine g_Wi (As := [.int ((f_X2_answerOf S x1 x2 x3 x4).1)]) (rest := []) ⟨hx, hb, hml, hown, hts⟩ (c_X2_noted l D cI cJ a hd ((f_X2_answerOf S x1 x2 x3 x4).2) ((f_X2_answerOf S x1 x2 x3 x4).1) ) (cwV 1 hts gX2_act_X2_noted rfl rfl rfl eeX2_noted ⟨Nat.le_of_ble_eq_true rfl, Nat.le_of_ble_eq_true rfl⟩) hK hN hP hI (va_recv hK hP (ci := 2) (q0 := 0) rfl rfl) hS rfl hl.1 rfl (Nat.le_of_ble_eq_true rfl) dX2_act_36 ⟨Nat.zero_le _, Nat.zero_le _⟩ (fun H locs hI hP hS => ?_)
        exact r_Wi hx hb hr hlocks hP hI hS (by simp only [f_X2_act, if_neg c_4, if_neg c_12, if_neg c_20]) dX2_act_39
      · skip
        refine lv_bipush (v := (-3)) hx hb dX2_act_23 (by decide) ?_
        exact r_Wi hx hb hr hlocks hP hI hS (by simp only [f_X2_act, if_neg c_4, if_neg c_12, if_pos c_20]) dX2_act_25
abbrev rmX2_step : Room := { frames := 2, cells := 0, slots := 0, locals := 46 }
theorem eeX2_step : yX2_step.cls = RX2 ∧ yX2_step.cls ≠ "java/lang/invoke/MethodHandle" ∧ yX2_step.cls ≠ "java/lang/invoke/VarHandle" ∧ (parseMethodDescriptor yX2_step.desc).map (fun d => d.parameters.length) = some 4 := by decide +kernel
theorem iwX2_step : ∀ w ∈ u_ws RX2 TX2 5, w ∈ wsX2_step := by decide +kernel
theorem flX2_step_19 : Cond.fieldLink RX2 19 "LoomPanel" "patches" "LLoomPanel$Patches;" ∈ wsX2_step := by decide +kernel
def f_X2_step (S : KS) (x1 : Int32) (x2 : Int32) (x3 : Int32) (x4 : Int32) : Int32 × KS := if x3 = (-2) then (if (f_X0_has S x1) = 0 then (((-3), S)) else (if (f_X2_isAct x2) = 0 then (((-3), S)) else (((f_X0_append S x1 x2 x3 x4).1, (f_X0_append S x1 x2 x3 x4).2)))) else (if (f_X2_isValueOrNone S x3) = 0 then (if (f_X0_has S x1) = 0 then (((-3), S)) else (if (f_X2_isAct x2) = 0 then (((-3), S)) else (((-3), S)))) else (if (f_X0_has S x1) = 0 then (((-3), S)) else (if (f_X2_isAct x2) = 0 then (((-3), S)) else (((f_X0_append S x1 x2 x3 x4).1, (f_X0_append S x1 x2 x3 x4).2)))))
set_option maxHeartbeats 4000000 in
set_option maxRecDepth 100000 in
theorem c_X2_step (l : Launch) (D : va_G) (cI cJ : ClassId) (a : Nat → Nat) (hd : ∀ i j, i < 11 → j < 11 → a i = a j → i = j) (S : KS) (x1 : Int32) (x2 : Int32) (x3 : Int32) (x4 : Int32) : GWi l yX2_step wsX2_step rmX2_step [.ref (a 0), .int x1, .int x2, .int x3, .int x4] D (cw_tys cI cJ) (cw cI cJ a) KInv (kA a) S (f_X2_step S x1 x2 x3 x4) := by
  refine GB_of (cc := cX2_step) (maxL := 6) (ret := (some .int)) (by decide) rfl (Nat.le_of_ble_eq_true rfl) ?_
  intro p e s m below meth c C hP hI ls hl
  obtain ⟨hx, hb, hr, hlocks, hml, hown, hts, hK, hN⟩ := id C
  have hS : va_S (kA a) s.heap s.heap [] := va_S.rf
  have hl : lv_has ls 6 [(0, .ref (a 0)), (1, .int x1), (2, .int x2), (3, .int x3), (4, .int x4)] := hl
  refine lv_iload_n hx hb dX2_step_0 rfl (lv_at hl 3 rfl) ?_
  refine lv_bipush (v := (-2)) hx hb dX2_step_1 (by decide) ?_
  refine lv_icmp_eq (tgt := 14) hx hb dX2_step_3 (by decide) (fun c_3 => ?_) (fun c_3 => ?_)
  · skip
    refine lv_iconst (v := 1) hx hb dX2_step_14 (by decide) ?_
    refine lv_goto (tgt := 19) hx hb dX2_step_15 (by decide) ?_
    refine lv_istore (lv' := [(5, .int 1), (0, .ref (a 0)), (1, .int x1), (2, .int x2), (3, .int x3), (4, .int x4)]) hx hb dX2_step_19 hl (by decide) rfl (fun ls hl => ?_)
    refine lv_aload_n hx hb dX2_step_21 rfl (lv_at hl 1 rfl) ?_
    refine va_get (D := D) (ci := 2) (v := .ref (a 2)) (C := RX2) (T := TX2) (N := 5) hx hb hts iwX2_step hown hK hP 0 rfl rfl 1 (by decide) (hts (.fieldLink RX2 19 "LoomPanel" "patches" "LLoomPanel$Patches;") flX2_step_19) (fun _ h9 => h9) rfl dX2_step_22 ?_
    refine lv_iload_n hx hb dX2_step_25 rfl (lv_at hl 2 rfl) ?_
    refine g_Ri (As := [.int x1]) (rest := []) ⟨hx, hb, hml, hown, hts⟩ (c_X0_has l D cI cJ a hd S x1 ) (cwV 1 hts gX2_step_X0_has rfl rfl rfl eeX0_has ⟨Nat.le_of_ble_eq_true rfl, Nat.le_of_ble_eq_true rfl⟩) hK hN hP hI (va_recv hK hP (ci := 0) (q0 := 2) rfl rfl) hS rfl hl.1 rfl (Nat.le_of_ble_eq_true rfl) dX2_step_26 ⟨Nat.zero_le _, Nat.zero_le _⟩ (fun H locs hP hS => ?_)
    refine lv_if_eq (tgt := 44) hx hb dX2_step_29 (by decide) (fun c_29 => ?_) (fun c_29 => ?_)
    · skip
      refine lv_bipush (v := (-3)) hx hb dX2_step_44 (by decide) ?_
      exact r_Wi hx hb hr hlocks hP hI hS (by simp only [f_X2_step, if_pos c_3, if_pos c_29]) dX2_step_46
    · skip
      refine lv_iload_n hx hb dX2_step_32 rfl (lv_at hl 3 rfl) ?_
      refine g_Si (As := [.int x2]) (rest := []) ⟨hx, hb, hml, hown, hts⟩ (c_X2_isAct l x2) (va_cwS 1 hts gX2_step_X2_isAct rfl rfl rfl esX2_isAct ⟨Nat.le_of_ble_eq_true rfl, Nat.le_of_ble_eq_true rfl⟩) hP hS rfl hl.1 rfl (Nat.le_of_ble_eq_true rfl) dX2_step_33 ⟨Nat.zero_le _, Nat.zero_le _⟩ (fun H locs hP hS => ?_)
      refine lv_if_eq (tgt := 44) hx hb dX2_step_36 (by decide) (fun c_36 => ?_) (fun c_36 => ?_)
      · skip
        refine lv_bipush (v := (-3)) hx hb dX2_step_44 (by decide) ?_
        exact r_Wi hx hb hr hlocks hP hI hS (by simp only [f_X2_step, if_pos c_3, if_neg c_29, if_pos c_36]) dX2_step_46
      · skip
        refine lv_iload hx hb dX2_step_39 (lv_at hl 0 rfl) ?_
        refine lv_if_ne (tgt := 47) hx hb dX2_step_41 (by decide) (fun c_41 => ?_) (fun c_41 => ?_)
        · skip
          refine lv_aload_n hx hb dX2_step_47 rfl (lv_at hl 1 rfl) ?_
          refine va_get (D := D) (ci := 2) (v := .ref (a 2)) (C := RX2) (T := TX2) (N := 5) hx hb hts iwX2_step hown hK hP 0 rfl rfl 1 (by decide) (hts (.fieldLink RX2 19 "LoomPanel" "patches" "LLoomPanel$Patches;") flX2_step_19) (fun _ h9 => h9) rfl dX2_step_48 ?_
          refine lv_iload_n hx hb dX2_step_51 rfl (lv_at hl 2 rfl) ?_
          refine lv_iload_n hx hb dX2_step_52 rfl (lv_at hl 3 rfl) ?_
          refine lv_iload_n hx hb dX2_step_53 rfl (lv_at hl 4 rfl) ?_
          refine lv_iload hx hb dX2_step_54 (lv_at hl 5 rfl) ?_
          refine g_Wi (As := [.int x1, .int x2, .int x3, .int x4]) (rest := []) ⟨hx, hb, hml, hown, hts⟩ (c_X0_append l D cI cJ a hd S x1 x2 x3 x4 ) (cwV 4 hts gX2_step_X0_append rfl rfl rfl eeX0_append ⟨Nat.le_of_ble_eq_true rfl, Nat.le_of_ble_eq_true rfl⟩) hK hN hP hI (va_recv hK hP (ci := 0) (q0 := 2) rfl rfl) hS rfl hl.1 rfl (Nat.le_of_ble_eq_true rfl) dX2_step_56 ⟨Nat.zero_le _, Nat.zero_le _⟩ (fun H locs hI hP hS => ?_)
          exact r_Wi hx hb hr hlocks hP hI hS (by simp only [f_X2_step, if_pos c_3, if_neg c_29, if_neg c_36]) dX2_step_59
        · exact absurd c_41 (by decide)
  · skip
    refine lv_aload_n hx hb dX2_step_6 rfl (lv_at hl 0 rfl) ?_
    refine lv_iload_n hx hb dX2_step_7 rfl (lv_at hl 3 rfl) ?_
    refine g_Ri (As := [.int x3]) (rest := []) ⟨hx, hb, hml, hown, hts⟩ (c_X2_isValueOrNone l D cI cJ a hd S x3 ) (cwV 1 hts gX2_step_X2_isValueOrNone rfl rfl rfl eeX2_isValueOrNone ⟨Nat.le_of_ble_eq_true rfl, Nat.le_of_ble_eq_true rfl⟩) hK hN hP hI (va_recv hK hP (ci := 2) (q0 := 0) rfl rfl) hS rfl hl.1 rfl (Nat.le_of_ble_eq_true rfl) dX2_step_8 ⟨Nat.zero_le _, Nat.zero_le _⟩ (fun H locs hP hS => ?_)
    refine lv_if_eq (tgt := 18) hx hb dX2_step_11 (by decide) (fun c_11 => ?_) (fun c_11 => ?_)
    · skip
      refine lv_iconst (v := 0) hx hb dX2_step_18 (by decide) ?_
      refine lv_istore (lv' := [(5, .int 0), (0, .ref (a 0)), (1, .int x1), (2, .int x2), (3, .int x3), (4, .int x4)]) hx hb dX2_step_19 hl (by decide) rfl (fun ls hl => ?_)
      refine lv_aload_n hx hb dX2_step_21 rfl (lv_at hl 1 rfl) ?_
      refine va_get (D := D) (ci := 2) (v := .ref (a 2)) (C := RX2) (T := TX2) (N := 5) hx hb hts iwX2_step hown hK hP 0 rfl rfl 1 (by decide) (hts (.fieldLink RX2 19 "LoomPanel" "patches" "LLoomPanel$Patches;") flX2_step_19) (fun _ h9 => h9) rfl dX2_step_22 ?_
      refine lv_iload_n hx hb dX2_step_25 rfl (lv_at hl 2 rfl) ?_
      refine g_Ri (As := [.int x1]) (rest := []) ⟨hx, hb, hml, hown, hts⟩ (c_X0_has l D cI cJ a hd S x1 ) (cwV 1 hts gX2_step_X0_has rfl rfl rfl eeX0_has ⟨Nat.le_of_ble_eq_true rfl, Nat.le_of_ble_eq_true rfl⟩) hK hN hP hI (va_recv hK hP (ci := 0) (q0 := 2) rfl rfl) hS rfl hl.1 rfl (Nat.le_of_ble_eq_true rfl) dX2_step_26 ⟨Nat.zero_le _, Nat.zero_le _⟩ (fun H locs hP hS => ?_)
      refine lv_if_eq (tgt := 44) hx hb dX2_step_29 (by decide) (fun c_29 => ?_) (fun c_29 => ?_)
      · skip
        refine lv_bipush (v := (-3)) hx hb dX2_step_44 (by decide) ?_
        exact r_Wi hx hb hr hlocks hP hI hS (by simp only [f_X2_step, if_neg c_3, if_pos c_11, if_pos c_29]) dX2_step_46
      · skip
        refine lv_iload_n hx hb dX2_step_32 rfl (lv_at hl 3 rfl) ?_
        refine g_Si (As := [.int x2]) (rest := []) ⟨hx, hb, hml, hown, hts⟩ (c_X2_isAct l x2) (va_cwS 1 hts gX2_step_X2_isAct rfl rfl rfl esX2_isAct ⟨Nat.le_of_ble_eq_true rfl, Nat.le_of_ble_eq_true rfl⟩) hP hS rfl hl.1 rfl (Nat.le_of_ble_eq_true rfl) dX2_step_33 ⟨Nat.zero_le _, Nat.zero_le _⟩ (fun H locs hP hS => ?_)
        refine lv_if_eq (tgt := 44) hx hb dX2_step_36 (by decide) (fun c_36 => ?_) (fun c_36 => ?_)
        · skip
          refine lv_bipush (v := (-3)) hx hb dX2_step_44 (by decide) ?_
          exact r_Wi hx hb hr hlocks hP hI hS (by simp only [f_X2_step, if_neg c_3, if_pos c_11, if_neg c_29, if_pos c_36]) dX2_step_46
        · skip
          refine lv_iload hx hb dX2_step_39 (lv_at hl 0 rfl) ?_
          refine lv_if_ne (tgt := 47) hx hb dX2_step_41 (by decide) (fun c_41 => ?_) (fun c_41 => ?_)
          · exact absurd c_41 (by decide)
          · skip
            refine lv_bipush (v := (-3)) hx hb dX2_step_44 (by decide) ?_
            exact r_Wi hx hb hr hlocks hP hI hS (by simp only [f_X2_step, if_neg c_3, if_pos c_11, if_neg c_29, if_neg c_36]) dX2_step_46
    · skip
      refine lv_iconst (v := 1) hx hb dX2_step_14 (by decide) ?_
      refine lv_goto (tgt := 19) hx hb dX2_step_15 (by decide) ?_
      refine lv_istore (lv' := [(5, .int 1), (0, .ref (a 0)), (1, .int x1), (2, .int x2), (3, .int x3), (4, .int x4)]) hx hb dX2_step_19 hl (by decide) rfl (fun ls hl => ?_)
      refine lv_aload_n hx hb dX2_step_21 rfl (lv_at hl 1 rfl) ?_
      refine va_get (D := D) (ci := 2) (v := .ref (a 2)) (C := RX2) (T := TX2) (N := 5) hx hb hts iwX2_step hown hK hP 0 rfl rfl 1 (by decide) (hts (.fieldLink RX2 19 "LoomPanel" "patches" "LLoomPanel$Patches;") flX2_step_19) (fun _ h9 => h9) rfl dX2_step_22 ?_
      refine lv_iload_n hx hb dX2_step_25 rfl (lv_at hl 2 rfl) ?_
      refine g_Ri (As := [.int x1]) (rest := []) ⟨hx, hb, hml, hown, hts⟩ (c_X0_has l D cI cJ a hd S x1 ) (cwV 1 hts gX2_step_X0_has rfl rfl rfl eeX0_has ⟨Nat.le_of_ble_eq_true rfl, Nat.le_of_ble_eq_true rfl⟩) hK hN hP hI (va_recv hK hP (ci := 0) (q0 := 2) rfl rfl) hS rfl hl.1 rfl (Nat.le_of_ble_eq_true rfl) dX2_step_26 ⟨Nat.zero_le _, Nat.zero_le _⟩ (fun H locs hP hS => ?_)
      refine lv_if_eq (tgt := 44) hx hb dX2_step_29 (by decide) (fun c_29 => ?_) (fun c_29 => ?_)
      · skip
        refine lv_bipush (v := (-3)) hx hb dX2_step_44 (by decide) ?_
        exact r_Wi hx hb hr hlocks hP hI hS (by simp only [f_X2_step, if_neg c_3, if_neg c_11, if_pos c_29]) dX2_step_46
      · skip
        refine lv_iload_n hx hb dX2_step_32 rfl (lv_at hl 3 rfl) ?_
        refine g_Si (As := [.int x2]) (rest := []) ⟨hx, hb, hml, hown, hts⟩ (c_X2_isAct l x2) (va_cwS 1 hts gX2_step_X2_isAct rfl rfl rfl esX2_isAct ⟨Nat.le_of_ble_eq_true rfl, Nat.le_of_ble_eq_true rfl⟩) hP hS rfl hl.1 rfl (Nat.le_of_ble_eq_true rfl) dX2_step_33 ⟨Nat.zero_le _, Nat.zero_le _⟩ (fun H locs hP hS => ?_)
        refine lv_if_eq (tgt := 44) hx hb dX2_step_36 (by decide) (fun c_36 => ?_) (fun c_36 => ?_)
        · skip
          refine lv_bipush (v := (-3)) hx hb dX2_step_44 (by decide) ?_
          exact r_Wi hx hb hr hlocks hP hI hS (by simp only [f_X2_step, if_neg c_3, if_neg c_11, if_neg c_29, if_pos c_36]) dX2_step_46
        · skip
          refine lv_iload hx hb dX2_step_39 (lv_at hl 0 rfl) ?_
          refine lv_if_ne (tgt := 47) hx hb dX2_step_41 (by decide) (fun c_41 => ?_) (fun c_41 => ?_)
          · skip
            refine lv_aload_n hx hb dX2_step_47 rfl (lv_at hl 1 rfl) ?_
            refine va_get (D := D) (ci := 2) (v := .ref (a 2)) (C := RX2) (T := TX2) (N := 5) hx hb hts iwX2_step hown hK hP 0 rfl rfl 1 (by decide) (hts (.fieldLink RX2 19 "LoomPanel" "patches" "LLoomPanel$Patches;") flX2_step_19) (fun _ h9 => h9) rfl dX2_step_48 ?_
            refine lv_iload_n hx hb dX2_step_51 rfl (lv_at hl 2 rfl) ?_
            refine lv_iload_n hx hb dX2_step_52 rfl (lv_at hl 3 rfl) ?_
            refine lv_iload_n hx hb dX2_step_53 rfl (lv_at hl 4 rfl) ?_
            refine lv_iload hx hb dX2_step_54 (lv_at hl 5 rfl) ?_
            refine g_Wi (As := [.int x1, .int x2, .int x3, .int x4]) (rest := []) ⟨hx, hb, hml, hown, hts⟩ (c_X0_append l D cI cJ a hd S x1 x2 x3 x4 ) (cwV 4 hts gX2_step_X0_append rfl rfl rfl eeX0_append ⟨Nat.le_of_ble_eq_true rfl, Nat.le_of_ble_eq_true rfl⟩) hK hN hP hI (va_recv hK hP (ci := 0) (q0 := 2) rfl rfl) hS rfl hl.1 rfl (Nat.le_of_ble_eq_true rfl) dX2_step_56 ⟨Nat.zero_le _, Nat.zero_le _⟩ (fun H locs hI hP hS => ?_)
            exact r_Wi hx hb hr hlocks hP hI hS (by simp only [f_X2_step, if_neg c_3, if_neg c_11, if_neg c_29, if_neg c_36]) dX2_step_59
          · exact absurd c_41 (by decide)
theorem plengthOf_le {S : KS} {x : Int32} (hI : KInv S) : 0 ≤ (f_X0_lengthOf S x).toInt ∧ (f_X0_lengthOf S x).toInt ≤ 12 := by
  unfold f_X0_lengthOf
  by_cases h : f_X0_has S x = 0
  · rw [if_pos h]; decide
  · rw [if_neg h]; exact hI.2.2 _
abbrev rmX2_play : Room := { frames := 6, cells := 0, slots := 0, locals := 139 }
theorem eeX2_play : yX2_play.cls = RX2 ∧ yX2_play.cls ≠ "java/lang/invoke/MethodHandle" ∧ yX2_play.cls ≠ "java/lang/invoke/VarHandle" ∧ (parseMethodDescriptor yX2_play.desc).map (fun d => d.parameters.length) = some 2 := by decide +kernel
theorem iwX2_play : ∀ w ∈ u_ws RX2 TX2 5, w ∈ wsX2_play := by decide +kernel
theorem flX2_play_19 : Cond.fieldLink RX2 19 "LoomPanel" "patches" "LLoomPanel$Patches;" ∈ wsX2_play := by decide +kernel
theorem flX2_play_23 : Cond.fieldLink RX2 23 "LoomPanel" "stoppedAt" "I" ∈ wsX2_play := by decide +kernel
def f_X2_play_c42 : Nat → KS → Int32 → Int32 → Int32 → Int32 → Nat → Int32 × KS
  | 0, S, _, _, _, _, _ => (0, S)
  | n + 1, S, x1, x2, x3, x4, j => if x4 ≤ (nI j) then ((x3, S)) else (if (f_X0_yOf S x1 (nI j)) = (-2) then (if (f_X2_isFault ((f_X2_noted ((f_X2_answerOf S (f_X0_actOf S x1 (nI j)) x3 x2 (f_X0_nOf S x1 (nI j))).2) ((f_X2_answerOf S (f_X0_actOf S x1 (nI j)) x3 x2 (f_X0_nOf S x1 (nI j))).1)).1)) = 0 then (f_X2_play_c42 n ((f_X2_noted ((f_X2_answerOf S (f_X0_actOf S x1 (nI j)) x3 x2 (f_X0_nOf S x1 (nI j))).2) ((f_X2_answerOf S (f_X0_actOf S x1 (nI j)) x3 x2 (f_X0_nOf S x1 (nI j))).1)).2) x1 x2 ((f_X2_noted ((f_X2_answerOf S (f_X0_actOf S x1 (nI j)) x3 x2 (f_X0_nOf S x1 (nI j))).2) ((f_X2_answerOf S (f_X0_actOf S x1 (nI j)) x3 x2 (f_X0_nOf S x1 (nI j))).1)).1) x4 (j + 1)) else (((f_X2_noted ((f_X2_answerOf S (f_X0_actOf S x1 (nI j)) x3 x2 (f_X0_nOf S x1 (nI j))).2) ((f_X2_answerOf S (f_X0_actOf S x1 (nI j)) x3 x2 (f_X0_nOf S x1 (nI j))).1)).1, ((f_X2_noted ((f_X2_answerOf S (f_X0_actOf S x1 (nI j)) x3 x2 (f_X0_nOf S x1 (nI j))).2) ((f_X2_answerOf S (f_X0_actOf S x1 (nI j)) x3 x2 (f_X0_nOf S x1 (nI j))).1)).2).set_stop (nI j)))) else (if (f_X2_isFault ((f_X2_noted ((f_X2_answerOf S (f_X0_actOf S x1 (nI j)) x3 (f_X0_yOf S x1 (nI j)) (f_X0_nOf S x1 (nI j))).2) ((f_X2_answerOf S (f_X0_actOf S x1 (nI j)) x3 (f_X0_yOf S x1 (nI j)) (f_X0_nOf S x1 (nI j))).1)).1)) = 0 then (f_X2_play_c42 n ((f_X2_noted ((f_X2_answerOf S (f_X0_actOf S x1 (nI j)) x3 (f_X0_yOf S x1 (nI j)) (f_X0_nOf S x1 (nI j))).2) ((f_X2_answerOf S (f_X0_actOf S x1 (nI j)) x3 (f_X0_yOf S x1 (nI j)) (f_X0_nOf S x1 (nI j))).1)).2) x1 x2 ((f_X2_noted ((f_X2_answerOf S (f_X0_actOf S x1 (nI j)) x3 (f_X0_yOf S x1 (nI j)) (f_X0_nOf S x1 (nI j))).2) ((f_X2_answerOf S (f_X0_actOf S x1 (nI j)) x3 (f_X0_yOf S x1 (nI j)) (f_X0_nOf S x1 (nI j))).1)).1) x4 (j + 1)) else (((f_X2_noted ((f_X2_answerOf S (f_X0_actOf S x1 (nI j)) x3 (f_X0_yOf S x1 (nI j)) (f_X0_nOf S x1 (nI j))).2) ((f_X2_answerOf S (f_X0_actOf S x1 (nI j)) x3 (f_X0_yOf S x1 (nI j)) (f_X0_nOf S x1 (nI j))).1)).1, ((f_X2_noted ((f_X2_answerOf S (f_X0_actOf S x1 (nI j)) x3 (f_X0_yOf S x1 (nI j)) (f_X0_nOf S x1 (nI j))).2) ((f_X2_answerOf S (f_X0_actOf S x1 (nI j)) x3 (f_X0_yOf S x1 (nI j)) (f_X0_nOf S x1 (nI j))).1)).2).set_stop (nI j)))))
set_option maxHeartbeats 4000000 in
set_option maxRecDepth 100000 in
theorem w_X2_play_c42 {l : Launch} {D : va_G} {cI cJ : ClassId} {a : Nat → Nat} (hd : ∀ i j, i < 11 → j < 11 → a i = a j → i = j) {p : Program} {e : Env} {s : State} {m : MethodId} {args : Array Value} {below : List Frame} {meth : Method} {c : Code} (C : GC p s m meth c cX2_play (some .int) 8 RX2 wsX2_play args D (cw_tys cI cJ)) {v : Int32 × KS} : ∀ (n : Nat) (S : KS) (x1 : Int32) (x2 : Int32) (x3 : Int32) (x4 : Int32) (j : Nat) (hb8 : x4.toInt ≤ 12) (hj : j ≤ 12) (hn : j + n = 13) (H : Heap) (locs : List Loc) (ls : Array Slot), va_P D vwCl (cw cI cJ a S) H → KInv S → va_S (kA a) s.heap H locs → lv_has ls 8 [(0, .ref (a 0)), (1, .int x1), (2, .int x2), (3, .int x3), (4, .int x4), (5, .int (nI j))] → v = f_X2_play_c42 n S x1 x2 x3 x4 j → W p l e rmX2_play s m args below meth c H locs 0 0 (MQ below (va_Qi (fun r u => v = (r, u)) (GE D (cw cI cJ a) KInv) (kA a)) args s 0 0 (kA a)) (F0 m 42 ls []) := by
  obtain ⟨hx, hb, hr, hlocks, hml, hown, hts, hK, hN⟩ := id C
  intro n
  induction n with
  | zero =>
    intro S x1 x2 x3 x4 j hb8 hj hn H locs ls hP hI hS hl hq
    exact absurd hn (by omega)
  | succ n ih =>
    intro S x1 x2 x3 x4 j hb8 hj hn H locs ls hP hI hS hl hq
    refine lv_iload hx hb dX2_play_42 (lv_at hl 5 rfl) ?_
    refine lv_iload hx hb dX2_play_44 (lv_at hl 4 rfl) ?_
    refine lv_icmp_ge (tgt := 129) hx hb dX2_play_46 (by decide) (fun c_46 => ?_) (fun c_46 => ?_)
    · skip
      refine lv_iload_n hx hb dX2_play_129 rfl (lv_at hl 3 rfl) ?_
      exact r_Wi hx hb hr hlocks hP hI hS (hq.trans (by simp only [f_X2_play_c42, if_pos c_46])) dX2_play_130
    · skip
      refine lv_aload_n hx hb dX2_play_49 rfl (lv_at hl 0 rfl) ?_
      refine va_get (D := D) (ci := 2) (v := .ref (a 2)) (C := RX2) (T := TX2) (N := 5) hx hb hts iwX2_play hown hK hP 0 rfl rfl 1 (by decide) (hts (.fieldLink RX2 19 "LoomPanel" "patches" "LLoomPanel$Patches;") flX2_play_19) (fun _ h9 => h9) rfl dX2_play_50 ?_
      refine lv_iload_n hx hb dX2_play_53 rfl (lv_at hl 1 rfl) ?_
      refine lv_iload hx hb dX2_play_54 (lv_at hl 5 rfl) ?_
      refine g_Ri (As := [.int x1, .int (nI j)]) (rest := []) ⟨hx, hb, hml, hown, hts⟩ (c_X0_actOf l D cI cJ a hd S x1 (nI j) ) (cwV 2 hts gX2_play_X0_actOf rfl rfl rfl eeX0_actOf ⟨Nat.le_of_ble_eq_true rfl, Nat.le_of_ble_eq_true rfl⟩) hK hN hP hI (va_recv hK hP (ci := 0) (q0 := 2) rfl rfl) hS rfl hl.1 rfl (Nat.le_of_ble_eq_true rfl) dX2_play_56 ⟨Nat.zero_le _, Nat.zero_le _⟩ (fun H locs hP hS => ?_)
      refine lv_istore (lv' := [(6, .int (f_X0_actOf S x1 (nI j))), (0, .ref (a 0)), (1, .int x1), (2, .int x2), (3, .int x3), (4, .int x4), (5, .int (nI j))]) hx hb dX2_play_59 hl (by decide) rfl (fun ls hl => ?_)
      refine lv_aload_n hx hb dX2_play_61 rfl (lv_at hl 1 rfl) ?_
      refine va_get (D := D) (ci := 2) (v := .ref (a 2)) (C := RX2) (T := TX2) (N := 5) hx hb hts iwX2_play hown hK hP 0 rfl rfl 1 (by decide) (hts (.fieldLink RX2 19 "LoomPanel" "patches" "LLoomPanel$Patches;") flX2_play_19) (fun _ h9 => h9) rfl dX2_play_62 ?_
      refine lv_iload_n hx hb dX2_play_65 rfl (lv_at hl 2 rfl) ?_
      refine lv_iload hx hb dX2_play_66 (lv_at hl 6 rfl) ?_
      refine g_Ri (As := [.int x1, .int (nI j)]) (rest := []) ⟨hx, hb, hml, hown, hts⟩ (c_X0_yOf l D cI cJ a hd S x1 (nI j) ) (cwV 2 hts gX2_play_X0_yOf rfl rfl rfl eeX0_yOf ⟨Nat.le_of_ble_eq_true rfl, Nat.le_of_ble_eq_true rfl⟩) hK hN hP hI (va_recv hK hP (ci := 0) (q0 := 2) rfl rfl) hS rfl hl.1 rfl (Nat.le_of_ble_eq_true rfl) dX2_play_68 ⟨Nat.zero_le _, Nat.zero_le _⟩ (fun H locs hP hS => ?_)
      refine lv_istore (lv' := [(7, .int (f_X0_yOf S x1 (nI j))), (6, .int (f_X0_actOf S x1 (nI j))), (0, .ref (a 0)), (1, .int x1), (2, .int x2), (3, .int x3), (4, .int x4), (5, .int (nI j))]) hx hb dX2_play_71 hl (by decide) rfl (fun ls hl => ?_)
      refine lv_aload_n hx hb dX2_play_73 rfl (lv_at hl 2 rfl) ?_
      refine lv_aload_n hx hb dX2_play_74 rfl (lv_at hl 2 rfl) ?_
      refine lv_iload hx hb dX2_play_75 (lv_at hl 1 rfl) ?_
      refine lv_iload_n hx hb dX2_play_77 rfl (lv_at hl 5 rfl) ?_
      refine lv_iload hx hb dX2_play_78 (lv_at hl 0 rfl) ?_
      refine lv_bipush (v := (-2)) hx hb dX2_play_80 (by decide) ?_
      refine lv_icmp_ne (tgt := 89) hx hb dX2_play_82 (by decide) (fun c_82 => ?_) (fun c_82 => ?_)
      · skip
        refine lv_iload hx hb dX2_play_89 (lv_at hl 0 rfl) ?_
        refine lv_aload_n hx hb dX2_play_91 rfl (lv_at hl 2 rfl) ?_
        refine va_get (D := D) (ci := 2) (v := .ref (a 2)) (C := RX2) (T := TX2) (N := 5) hx hb hts iwX2_play hown hK hP 0 rfl rfl 1 (by decide) (hts (.fieldLink RX2 19 "LoomPanel" "patches" "LLoomPanel$Patches;") flX2_play_19) (fun _ h9 => h9) rfl dX2_play_92 ?_
        refine lv_iload_n hx hb dX2_play_95 rfl (lv_at hl 3 rfl) ?_
        refine lv_iload hx hb dX2_play_96 (lv_at hl 7 rfl) ?_
        refine g_Ri (As := [.int x1, .int (nI j)]) (rest := [.int (f_X0_yOf S x1 (nI j)), .int x3, .int (f_X0_actOf S x1 (nI j)), .ref (a 0), .ref (a 0)]) ⟨hx, hb, hml, hown, hts⟩ (c_X0_nOf l D cI cJ a hd S x1 (nI j) ) (cwV 2 hts gX2_play_X0_nOf rfl rfl rfl eeX0_nOf ⟨Nat.le_of_ble_eq_true rfl, Nat.le_of_ble_eq_true rfl⟩) hK hN hP hI (va_recv hK hP (ci := 0) (q0 := 2) rfl rfl) hS rfl hl.1 rfl (Nat.le_of_ble_eq_true rfl) dX2_play_98 ⟨Nat.zero_le _, Nat.zero_le _⟩ (fun H locs hP hS => ?_)
        refine g_Wi (As := [.int (f_X0_actOf S x1 (nI j)), .int x3, .int (f_X0_yOf S x1 (nI j)), .int (f_X0_nOf S x1 (nI j))]) (rest := [.ref (a 0)]) ⟨hx, hb, hml, hown, hts⟩ (c_X2_answerOf l D cI cJ a hd S (f_X0_actOf S x1 (nI j)) x3 (f_X0_yOf S x1 (nI j)) (f_X0_nOf S x1 (nI j)) ) (cwV 4 hts gX2_play_X2_answerOf rfl rfl rfl eeX2_answerOf ⟨Nat.le_of_ble_eq_true rfl, Nat.le_of_ble_eq_true rfl⟩) hK hN hP hI (va_recv hK hP (ci := 2) (q0 := 0) rfl rfl) hS rfl hl.1 rfl (Nat.le_of_ble_eq_true rfl) dX2_play_101 ⟨Nat.zero_le _, Nat.zero_le _⟩ (fun H locs hI hP hS => ?_)
        refine g_Wi (As := [.int ((f_X2_answerOf S (f_X0_actOf S x1 (nI j)) x3 (f_X0_yOf S x1 (nI j)) (f_X0_nOf S x1 (nI j))).1)]) (rest := []) ⟨hx, hb, hml, hown, hts⟩ (c_X2_noted l D cI cJ a hd ((f_X2_answerOf S (f_X0_actOf S x1 (nI j)) x3 (f_X0_yOf S x1 (nI j)) (f_X0_nOf S x1 (nI j))).2) ((f_X2_answerOf S (f_X0_actOf S x1 (nI j)) x3 (f_X0_yOf S x1 (nI j)) (f_X0_nOf S x1 (nI j))).1) ) (cwV 1 hts gX2_play_X2_noted rfl rfl rfl eeX2_noted ⟨Nat.le_of_ble_eq_true rfl, Nat.le_of_ble_eq_true rfl⟩) hK hN hP hI (va_recv hK hP (ci := 2) (q0 := 0) rfl rfl) hS rfl hl.1 rfl (Nat.le_of_ble_eq_true rfl) dX2_play_104 ⟨Nat.zero_le _, Nat.zero_le _⟩ (fun H locs hI hP hS => ?_)
        refine lv_istore_n (lv' := [(3, .int ((f_X2_noted ((f_X2_answerOf S (f_X0_actOf S x1 (nI j)) x3 (f_X0_yOf S x1 (nI j)) (f_X0_nOf S x1 (nI j))).2) ((f_X2_answerOf S (f_X0_actOf S x1 (nI j)) x3 (f_X0_yOf S x1 (nI j)) (f_X0_nOf S x1 (nI j))).1)).1)), (7, .int (f_X0_yOf S x1 (nI j))), (6, .int (f_X0_actOf S x1 (nI j))), (0, .ref (a 0)), (1, .int x1), (2, .int x2), (4, .int x4), (5, .int (nI j))]) hx hb dX2_play_107 rfl hl (by decide) rfl (fun ls hl => ?_)
        refine lv_iload_n hx hb dX2_play_108 rfl (lv_at hl 0 rfl) ?_
        refine g_Si (As := [.int ((f_X2_noted ((f_X2_answerOf S (f_X0_actOf S x1 (nI j)) x3 (f_X0_yOf S x1 (nI j)) (f_X0_nOf S x1 (nI j))).2) ((f_X2_answerOf S (f_X0_actOf S x1 (nI j)) x3 (f_X0_yOf S x1 (nI j)) (f_X0_nOf S x1 (nI j))).1)).1)]) (rest := []) ⟨hx, hb, hml, hown, hts⟩ (c_X2_isFault l ((f_X2_noted ((f_X2_answerOf S (f_X0_actOf S x1 (nI j)) x3 (f_X0_yOf S x1 (nI j)) (f_X0_nOf S x1 (nI j))).2) ((f_X2_answerOf S (f_X0_actOf S x1 (nI j)) x3 (f_X0_yOf S x1 (nI j)) (f_X0_nOf S x1 (nI j))).1)).1)) (va_cwS 1 hts gX2_play_X2_isFault rfl rfl rfl esX2_isFault ⟨Nat.le_of_ble_eq_true rfl, Nat.le_of_ble_eq_true rfl⟩) hP hS rfl hl.1 rfl (Nat.le_of_ble_eq_true rfl) dX2_play_109 ⟨Nat.zero_le _, Nat.zero_le _⟩ (fun H locs hP hS => ?_)
        refine lv_if_eq (tgt := 123) hx hb dX2_play_112 (by decide) (fun c_112 => ?_) (fun c_112 => ?_)
        · skip
          refine lv_iinc (v := nI (j + 1)) (lv' := [(5, .int (nI (j + 1))), (3, .int ((f_X2_noted ((f_X2_answerOf S (f_X0_actOf S x1 (nI j)) x3 (f_X0_yOf S x1 (nI j)) (f_X0_nOf S x1 (nI j))).2) ((f_X2_answerOf S (f_X0_actOf S x1 (nI j)) x3 (f_X0_yOf S x1 (nI j)) (f_X0_nOf S x1 (nI j))).1)).1)), (7, .int (f_X0_yOf S x1 (nI j))), (6, .int (f_X0_actOf S x1 (nI j))), (0, .ref (a 0)), (1, .int x1), (2, .int x2), (4, .int x4)]) hx hb dX2_play_123 hl (k := 7) rfl (nI_1 _) (by decide) rfl (fun ls hl => ?_)
          refine lv_goto (tgt := 42) hx hb dX2_play_126 (by decide) ?_
          exact ih ((f_X2_noted ((f_X2_answerOf S (f_X0_actOf S x1 (nI j)) x3 (f_X0_yOf S x1 (nI j)) (f_X0_nOf S x1 (nI j))).2) ((f_X2_answerOf S (f_X0_actOf S x1 (nI j)) x3 (f_X0_yOf S x1 (nI j)) (f_X0_nOf S x1 (nI j))).1)).2) x1 x2 ((f_X2_noted ((f_X2_answerOf S (f_X0_actOf S x1 (nI j)) x3 (f_X0_yOf S x1 (nI j)) (f_X0_nOf S x1 (nI j))).2) ((f_X2_answerOf S (f_X0_actOf S x1 (nI j)) x3 (f_X0_yOf S x1 (nI j)) (f_X0_nOf S x1 (nI j))).1)).1) x4 (j + 1) hb8 (jl12 c_46 hb8 hj) (by omega) _ _ _ hP hI hS (lv_sub hl [4, 5, 6, 1, 7, 0] rfl) (hq.trans (by simp only [f_X2_play_c42, if_neg c_46, if_neg c_82, if_pos c_112]))
        · skip
          refine lv_aload_n hx hb dX2_play_115 rfl (lv_at hl 3 rfl) ?_
          refine lv_iload hx hb dX2_play_116 (lv_at hl 7 rfl) ?_
          refine va_put (D := D) (ci := 2) (v := .int (nI j)) (ty := .int) (C := RX2) (T := TX2) (N := 5) hx hb hts iwX2_play tyX2 tyX2_ok nmX2 hown hK hP (cw_D hd) hS 0 rfl rfl 2 (by decide) (hts (.fieldLink RX2 23 "LoomPanel" "stoppedAt" "I") flX2_play_23) (fun _ h9 => h9) rfl (by decide +kernel) rfl rfl (Nat.le_of_ble_eq_true rfl) dX2_play_118 (fun H locs hP _ hS => ?_)
          have hP : va_P D vwCl (cw cI cJ a (((f_X2_noted ((f_X2_answerOf S (f_X0_actOf S x1 (nI j)) x3 (f_X0_yOf S x1 (nI j)) (f_X0_nOf S x1 (nI j))).2) ((f_X2_answerOf S (f_X0_actOf S x1 (nI j)) x3 (f_X0_yOf S x1 (nI j)) (f_X0_nOf S x1 (nI j))).1)).2).set_stop (nI j))) H := by rw [← cw_set_stop]; exact hP
          have hI : KInv (((f_X2_noted ((f_X2_answerOf S (f_X0_actOf S x1 (nI j)) x3 (f_X0_yOf S x1 (nI j)) (f_X0_nOf S x1 (nI j))).2) ((f_X2_answerOf S (f_X0_actOf S x1 (nI j)) x3 (f_X0_yOf S x1 (nI j)) (f_X0_nOf S x1 (nI j))).1)).2).set_stop (nI j)) := KInv_set_stop hI
          refine lv_iload_n hx hb dX2_play_121 rfl (lv_at hl 0 rfl) ?_
          exact r_Wi hx hb hr hlocks hP hI hS (hq.trans (by simp only [f_X2_play_c42, if_neg c_46, if_neg c_82, if_neg c_112])) dX2_play_122
      · skip
        refine lv_iload_n hx hb dX2_play_85 rfl (lv_at hl 4 rfl) ?_
        refine lv_goto (tgt := 91) hx hb dX2_play_86 (by decide) ?_
        refine lv_aload_n hx hb dX2_play_91 rfl (lv_at hl 2 rfl) ?_
        refine va_get (D := D) (ci := 2) (v := .ref (a 2)) (C := RX2) (T := TX2) (N := 5) hx hb hts iwX2_play hown hK hP 0 rfl rfl 1 (by decide) (hts (.fieldLink RX2 19 "LoomPanel" "patches" "LLoomPanel$Patches;") flX2_play_19) (fun _ h9 => h9) rfl dX2_play_92 ?_
        refine lv_iload_n hx hb dX2_play_95 rfl (lv_at hl 3 rfl) ?_
        refine lv_iload hx hb dX2_play_96 (lv_at hl 7 rfl) ?_
        refine g_Ri (As := [.int x1, .int (nI j)]) (rest := [.int x2, .int x3, .int (f_X0_actOf S x1 (nI j)), .ref (a 0), .ref (a 0)]) ⟨hx, hb, hml, hown, hts⟩ (c_X0_nOf l D cI cJ a hd S x1 (nI j) ) (cwV 2 hts gX2_play_X0_nOf rfl rfl rfl eeX0_nOf ⟨Nat.le_of_ble_eq_true rfl, Nat.le_of_ble_eq_true rfl⟩) hK hN hP hI (va_recv hK hP (ci := 0) (q0 := 2) rfl rfl) hS rfl hl.1 rfl (Nat.le_of_ble_eq_true rfl) dX2_play_98 ⟨Nat.zero_le _, Nat.zero_le _⟩ (fun H locs hP hS => ?_)
        refine g_Wi (As := [.int (f_X0_actOf S x1 (nI j)), .int x3, .int x2, .int (f_X0_nOf S x1 (nI j))]) (rest := [.ref (a 0)]) ⟨hx, hb, hml, hown, hts⟩ (c_X2_answerOf l D cI cJ a hd S (f_X0_actOf S x1 (nI j)) x3 x2 (f_X0_nOf S x1 (nI j)) ) (cwV 4 hts gX2_play_X2_answerOf rfl rfl rfl eeX2_answerOf ⟨Nat.le_of_ble_eq_true rfl, Nat.le_of_ble_eq_true rfl⟩) hK hN hP hI (va_recv hK hP (ci := 2) (q0 := 0) rfl rfl) hS rfl hl.1 rfl (Nat.le_of_ble_eq_true rfl) dX2_play_101 ⟨Nat.zero_le _, Nat.zero_le _⟩ (fun H locs hI hP hS => ?_)
        refine g_Wi (As := [.int ((f_X2_answerOf S (f_X0_actOf S x1 (nI j)) x3 x2 (f_X0_nOf S x1 (nI j))).1)]) (rest := []) ⟨hx, hb, hml, hown, hts⟩ (c_X2_noted l D cI cJ a hd ((f_X2_answerOf S (f_X0_actOf S x1 (nI j)) x3 x2 (f_X0_nOf S x1 (nI j))).2) ((f_X2_answerOf S (f_X0_actOf S x1 (nI j)) x3 x2 (f_X0_nOf S x1 (nI j))).1) ) (cwV 1 hts gX2_play_X2_noted rfl rfl rfl eeX2_noted ⟨Nat.le_of_ble_eq_true rfl, Nat.le_of_ble_eq_true rfl⟩) hK hN hP hI (va_recv hK hP (ci := 2) (q0 := 0) rfl rfl) hS rfl hl.1 rfl (Nat.le_of_ble_eq_true rfl) dX2_play_104 ⟨Nat.zero_le _, Nat.zero_le _⟩ (fun H locs hI hP hS => ?_)
        refine lv_istore_n (lv' := [(3, .int ((f_X2_noted ((f_X2_answerOf S (f_X0_actOf S x1 (nI j)) x3 x2 (f_X0_nOf S x1 (nI j))).2) ((f_X2_answerOf S (f_X0_actOf S x1 (nI j)) x3 x2 (f_X0_nOf S x1 (nI j))).1)).1)), (7, .int (f_X0_yOf S x1 (nI j))), (6, .int (f_X0_actOf S x1 (nI j))), (0, .ref (a 0)), (1, .int x1), (2, .int x2), (4, .int x4), (5, .int (nI j))]) hx hb dX2_play_107 rfl hl (by decide) rfl (fun ls hl => ?_)
        refine lv_iload_n hx hb dX2_play_108 rfl (lv_at hl 0 rfl) ?_
        refine g_Si (As := [.int ((f_X2_noted ((f_X2_answerOf S (f_X0_actOf S x1 (nI j)) x3 x2 (f_X0_nOf S x1 (nI j))).2) ((f_X2_answerOf S (f_X0_actOf S x1 (nI j)) x3 x2 (f_X0_nOf S x1 (nI j))).1)).1)]) (rest := []) ⟨hx, hb, hml, hown, hts⟩ (c_X2_isFault l ((f_X2_noted ((f_X2_answerOf S (f_X0_actOf S x1 (nI j)) x3 x2 (f_X0_nOf S x1 (nI j))).2) ((f_X2_answerOf S (f_X0_actOf S x1 (nI j)) x3 x2 (f_X0_nOf S x1 (nI j))).1)).1)) (va_cwS 1 hts gX2_play_X2_isFault rfl rfl rfl esX2_isFault ⟨Nat.le_of_ble_eq_true rfl, Nat.le_of_ble_eq_true rfl⟩) hP hS rfl hl.1 rfl (Nat.le_of_ble_eq_true rfl) dX2_play_109 ⟨Nat.zero_le _, Nat.zero_le _⟩ (fun H locs hP hS => ?_)
        refine lv_if_eq (tgt := 123) hx hb dX2_play_112 (by decide) (fun c_112 => ?_) (fun c_112 => ?_)
        · skip
          refine lv_iinc (v := nI (j + 1)) (lv' := [(5, .int (nI (j + 1))), (3, .int ((f_X2_noted ((f_X2_answerOf S (f_X0_actOf S x1 (nI j)) x3 x2 (f_X0_nOf S x1 (nI j))).2) ((f_X2_answerOf S (f_X0_actOf S x1 (nI j)) x3 x2 (f_X0_nOf S x1 (nI j))).1)).1)), (7, .int (f_X0_yOf S x1 (nI j))), (6, .int (f_X0_actOf S x1 (nI j))), (0, .ref (a 0)), (1, .int x1), (2, .int x2), (4, .int x4)]) hx hb dX2_play_123 hl (k := 7) rfl (nI_1 _) (by decide) rfl (fun ls hl => ?_)
          refine lv_goto (tgt := 42) hx hb dX2_play_126 (by decide) ?_
          exact ih ((f_X2_noted ((f_X2_answerOf S (f_X0_actOf S x1 (nI j)) x3 x2 (f_X0_nOf S x1 (nI j))).2) ((f_X2_answerOf S (f_X0_actOf S x1 (nI j)) x3 x2 (f_X0_nOf S x1 (nI j))).1)).2) x1 x2 ((f_X2_noted ((f_X2_answerOf S (f_X0_actOf S x1 (nI j)) x3 x2 (f_X0_nOf S x1 (nI j))).2) ((f_X2_answerOf S (f_X0_actOf S x1 (nI j)) x3 x2 (f_X0_nOf S x1 (nI j))).1)).1) x4 (j + 1) hb8 (jl12 c_46 hb8 hj) (by omega) _ _ _ hP hI hS (lv_sub hl [4, 5, 6, 1, 7, 0] rfl) (hq.trans (by simp only [f_X2_play_c42, if_neg c_46, if_pos c_82, if_pos c_112]))
        · skip
          refine lv_aload_n hx hb dX2_play_115 rfl (lv_at hl 3 rfl) ?_
          refine lv_iload hx hb dX2_play_116 (lv_at hl 7 rfl) ?_
          refine va_put (D := D) (ci := 2) (v := .int (nI j)) (ty := .int) (C := RX2) (T := TX2) (N := 5) hx hb hts iwX2_play tyX2 tyX2_ok nmX2 hown hK hP (cw_D hd) hS 0 rfl rfl 2 (by decide) (hts (.fieldLink RX2 23 "LoomPanel" "stoppedAt" "I") flX2_play_23) (fun _ h9 => h9) rfl (by decide +kernel) rfl rfl (Nat.le_of_ble_eq_true rfl) dX2_play_118 (fun H locs hP _ hS => ?_)
          have hP : va_P D vwCl (cw cI cJ a (((f_X2_noted ((f_X2_answerOf S (f_X0_actOf S x1 (nI j)) x3 x2 (f_X0_nOf S x1 (nI j))).2) ((f_X2_answerOf S (f_X0_actOf S x1 (nI j)) x3 x2 (f_X0_nOf S x1 (nI j))).1)).2).set_stop (nI j))) H := by rw [← cw_set_stop]; exact hP
          have hI : KInv (((f_X2_noted ((f_X2_answerOf S (f_X0_actOf S x1 (nI j)) x3 x2 (f_X0_nOf S x1 (nI j))).2) ((f_X2_answerOf S (f_X0_actOf S x1 (nI j)) x3 x2 (f_X0_nOf S x1 (nI j))).1)).2).set_stop (nI j)) := KInv_set_stop hI
          refine lv_iload_n hx hb dX2_play_121 rfl (lv_at hl 0 rfl) ?_
          exact r_Wi hx hb hr hlocks hP hI hS (hq.trans (by simp only [f_X2_play_c42, if_neg c_46, if_pos c_82, if_neg c_112])) dX2_play_122
def f_X2_play (S : KS) (x1 : Int32) (x2 : Int32) : Int32 × KS := if (f_X0_has S x1) = 0 then (((-3), S)) else (if (f_X2_isValueOrNone S x2) = 0 then (((-3), S)) else (f_X2_play_c42 13 (S.set_stop (-1)) x1 x2 x2 (f_X0_lengthOf (S.set_stop (-1)) x1) 0))
set_option maxHeartbeats 4000000 in
set_option maxRecDepth 100000 in
theorem c_X2_play (l : Launch) (D : va_G) (cI cJ : ClassId) (a : Nat → Nat) (hd : ∀ i j, i < 11 → j < 11 → a i = a j → i = j) (S : KS) (x1 : Int32) (x2 : Int32) : GWi l yX2_play wsX2_play rmX2_play [.ref (a 0), .int x1, .int x2] D (cw_tys cI cJ) (cw cI cJ a) KInv (kA a) S (f_X2_play S x1 x2) := by
  refine GB_of (cc := cX2_play) (maxL := 8) (ret := (some .int)) (by decide) rfl (Nat.le_of_ble_eq_true rfl) ?_
  intro p e s m below meth c C hP hI ls hl
  obtain ⟨hx, hb, hr, hlocks, hml, hown, hts, hK, hN⟩ := id C
  have hS : va_S (kA a) s.heap s.heap [] := va_S.rf
  have hl : lv_has ls 8 [(0, .ref (a 0)), (1, .int x1), (2, .int x2)] := hl
  refine lv_aload_n hx hb dX2_play_0 rfl (lv_at hl 0 rfl) ?_
  refine va_get (D := D) (ci := 2) (v := .ref (a 2)) (C := RX2) (T := TX2) (N := 5) hx hb hts iwX2_play hown hK hP 0 rfl rfl 1 (by decide) (hts (.fieldLink RX2 19 "LoomPanel" "patches" "LLoomPanel$Patches;") flX2_play_19) (fun _ h9 => h9) rfl dX2_play_1 ?_
  refine lv_iload_n hx hb dX2_play_4 rfl (lv_at hl 1 rfl) ?_
  refine g_Ri (As := [.int x1]) (rest := []) ⟨hx, hb, hml, hown, hts⟩ (c_X0_has l D cI cJ a hd S x1 ) (cwV 1 hts gX2_play_X0_has rfl rfl rfl eeX0_has ⟨Nat.le_of_ble_eq_true rfl, Nat.le_of_ble_eq_true rfl⟩) hK hN hP hI (va_recv hK hP (ci := 0) (q0 := 2) rfl rfl) hS rfl hl.1 rfl (Nat.le_of_ble_eq_true rfl) dX2_play_5 ⟨Nat.zero_le _, Nat.zero_le _⟩ (fun H locs hP hS => ?_)
  refine lv_if_eq (tgt := 19) hx hb dX2_play_8 (by decide) (fun c_8 => ?_) (fun c_8 => ?_)
  · skip
    refine lv_bipush (v := (-3)) hx hb dX2_play_19 (by decide) ?_
    exact r_Wi hx hb hr hlocks hP hI hS (by simp only [f_X2_play, if_pos c_8]) dX2_play_21
  · skip
    refine lv_aload_n hx hb dX2_play_11 rfl (lv_at hl 0 rfl) ?_
    refine lv_iload_n hx hb dX2_play_12 rfl (lv_at hl 2 rfl) ?_
    refine g_Ri (As := [.int x2]) (rest := []) ⟨hx, hb, hml, hown, hts⟩ (c_X2_isValueOrNone l D cI cJ a hd S x2 ) (cwV 1 hts gX2_play_X2_isValueOrNone rfl rfl rfl eeX2_isValueOrNone ⟨Nat.le_of_ble_eq_true rfl, Nat.le_of_ble_eq_true rfl⟩) hK hN hP hI (va_recv hK hP (ci := 2) (q0 := 0) rfl rfl) hS rfl hl.1 rfl (Nat.le_of_ble_eq_true rfl) dX2_play_13 ⟨Nat.zero_le _, Nat.zero_le _⟩ (fun H locs hP hS => ?_)
    refine lv_if_ne (tgt := 22) hx hb dX2_play_16 (by decide) (fun c_16 => ?_) (fun c_16 => ?_)
    · skip
      refine lv_aload_n hx hb dX2_play_22 rfl (lv_at hl 0 rfl) ?_
      refine lv_iconst (v := (-1)) hx hb dX2_play_23 (by decide) ?_
      refine va_put (D := D) (ci := 2) (v := .int (-1)) (ty := .int) (C := RX2) (T := TX2) (N := 5) hx hb hts iwX2_play tyX2 tyX2_ok nmX2 hown hK hP (cw_D hd) hS 0 rfl rfl 2 (by decide) (hts (.fieldLink RX2 23 "LoomPanel" "stoppedAt" "I") flX2_play_23) (fun _ h9 => h9) rfl (by decide +kernel) rfl rfl (Nat.le_of_ble_eq_true rfl) dX2_play_24 (fun H locs hP _ hS => ?_)
      have hP : va_P D vwCl (cw cI cJ a (S.set_stop (-1))) H := by rw [← cw_set_stop]; exact hP
      have hI : KInv (S.set_stop (-1)) := KInv_set_stop hI
      refine lv_iload_n hx hb dX2_play_27 rfl (lv_at hl 2 rfl) ?_
      refine lv_istore_n (lv' := [(3, .int x2), (0, .ref (a 0)), (1, .int x1), (2, .int x2)]) hx hb dX2_play_28 rfl hl (by decide) rfl (fun ls hl => ?_)
      refine lv_aload_n hx hb dX2_play_29 rfl (lv_at hl 1 rfl) ?_
      refine va_get (D := D) (ci := 2) (v := .ref (a 2)) (C := RX2) (T := TX2) (N := 5) hx hb hts iwX2_play hown hK hP 0 rfl rfl 1 (by decide) (hts (.fieldLink RX2 19 "LoomPanel" "patches" "LLoomPanel$Patches;") flX2_play_19) (fun _ h9 => h9) rfl dX2_play_30 ?_
      refine lv_iload_n hx hb dX2_play_33 rfl (lv_at hl 2 rfl) ?_
      refine g_Ri (As := [.int x1]) (rest := []) ⟨hx, hb, hml, hown, hts⟩ (c_X0_lengthOf l D cI cJ a hd (S.set_stop (-1)) x1 ) (cwV 1 hts gX2_play_X0_lengthOf rfl rfl rfl eeX0_lengthOf ⟨Nat.le_of_ble_eq_true rfl, Nat.le_of_ble_eq_true rfl⟩) hK hN hP hI (va_recv hK hP (ci := 0) (q0 := 2) rfl rfl) hS rfl hl.1 rfl (Nat.le_of_ble_eq_true rfl) dX2_play_34 ⟨Nat.zero_le _, Nat.zero_le _⟩ (fun H locs hP hS => ?_)
      refine lv_istore (lv' := [(4, .int (f_X0_lengthOf (S.set_stop (-1)) x1)), (3, .int x2), (0, .ref (a 0)), (1, .int x1), (2, .int x2)]) hx hb dX2_play_37 hl (by decide) rfl (fun ls hl => ?_)
      refine lv_iconst (v := 0) hx hb dX2_play_39 (by decide) ?_
      refine lv_istore (lv' := [(5, .int 0), (4, .int (f_X0_lengthOf (S.set_stop (-1)) x1)), (3, .int x2), (0, .ref (a 0)), (1, .int x1), (2, .int x2)]) hx hb dX2_play_40 hl (by decide) rfl (fun ls hl => ?_)
      exact w_X2_play_c42 hd C 13 (S.set_stop (-1)) x1 x2 x2 (f_X0_lengthOf (S.set_stop (-1)) x1) 0 ((plengthOf_le hI).2) (Nat.zero_le _) rfl _ _ _ hP hI hS (lv_sub hl [3, 4, 5, 2, 1, 0] rfl) (by simp only [f_X2_play, if_neg c_8, if_neg c_16])
    · skip
      refine lv_bipush (v := (-3)) hx hb dX2_play_19 (by decide) ?_
      exact r_Wi hx hb hr hlocks hP hI hS (by simp only [f_X2_play, if_neg c_8, if_pos c_16]) dX2_play_21
abbrev rmX2_stopped : Room := { frames := 0, cells := 0, slots := 0, locals := 0 }
theorem eeX2_stopped : yX2_stopped.cls = RX2 ∧ yX2_stopped.cls ≠ "java/lang/invoke/MethodHandle" ∧ yX2_stopped.cls ≠ "java/lang/invoke/VarHandle" ∧ (parseMethodDescriptor yX2_stopped.desc).map (fun d => d.parameters.length) = some 0 := by decide +kernel
theorem iwX2_stopped : ∀ w ∈ u_ws RX2 TX2 5, w ∈ wsX2_stopped := by decide +kernel
theorem flX2_stopped_23 : Cond.fieldLink RX2 23 "LoomPanel" "stoppedAt" "I" ∈ wsX2_stopped := by decide +kernel
def f_X2_stopped (S : KS)  : Int32 := S.stop
set_option maxHeartbeats 4000000 in
set_option maxRecDepth 100000 in
theorem c_X2_stopped (l : Launch) (D : va_G) (cI cJ : ClassId) (a : Nat → Nat) (hd : ∀ i j, i < 11 → j < 11 → a i = a j → i = j) (S : KS)  : GRi l yX2_stopped wsX2_stopped rmX2_stopped [.ref (a 0)] D (cw_tys cI cJ) (cw cI cJ a) KInv (kA a) S (f_X2_stopped S ) := by
  refine GB_of (cc := cX2_stopped) (maxL := 1) (ret := (some .int)) (by decide) rfl (Nat.le_of_ble_eq_true rfl) ?_
  intro p e s m below meth c C hP hI ls hl
  obtain ⟨hx, hb, hr, hlocks, hml, hown, hts, hK, hN⟩ := id C
  have hS : va_S (kA a) s.heap s.heap [] := va_S.rf
  have hl : lv_has ls 1 [(0, .ref (a 0))] := hl
  refine lv_aload_n hx hb dX2_stopped_0 rfl (lv_at hl 0 rfl) ?_
  refine va_get (D := D) (ci := 2) (v := .int S.stop) (C := RX2) (T := TX2) (N := 5) hx hb hts iwX2_stopped hown hK hP 0 rfl rfl 2 (by decide) (hts (.fieldLink RX2 23 "LoomPanel" "stoppedAt" "I") flX2_stopped_23) (fun _ h9 => h9) rfl dX2_stopped_1 ?_
  exact r_Ri hx hb hr hlocks hP hI hS (by simp only [f_X2_stopped]) dX2_stopped_4
abbrev rmX2_empty : Room := { frames := 3, cells := 0, slots := 0, locals := 64 }
theorem eeX2_empty : yX2_empty.cls = RX2 ∧ yX2_empty.cls ≠ "java/lang/invoke/MethodHandle" ∧ yX2_empty.cls ≠ "java/lang/invoke/VarHandle" ∧ (parseMethodDescriptor yX2_empty.desc).map (fun d => d.parameters.length) = some 1 := by decide +kernel
theorem iwX2_empty : ∀ w ∈ u_ws RX2 TX2 5, w ∈ wsX2_empty := by decide +kernel
theorem flX2_empty_19 : Cond.fieldLink RX2 19 "LoomPanel" "patches" "LLoomPanel$Patches;" ∈ wsX2_empty := by decide +kernel
def f_X2_empty (S : KS) (x1 : Int32) : Int32 × KS := if (f_X0_has S x1) = 0 then (((-3), S)) else (((f_X0_drop S x1).1, (f_X0_drop S x1).2))
set_option maxHeartbeats 4000000 in
set_option maxRecDepth 100000 in
theorem c_X2_empty (l : Launch) (D : va_G) (cI cJ : ClassId) (a : Nat → Nat) (hd : ∀ i j, i < 11 → j < 11 → a i = a j → i = j) (S : KS) (x1 : Int32) : GWi l yX2_empty wsX2_empty rmX2_empty [.ref (a 0), .int x1] D (cw_tys cI cJ) (cw cI cJ a) KInv (kA a) S (f_X2_empty S x1) := by
  refine GB_of (cc := cX2_empty) (maxL := 2) (ret := (some .int)) (by decide) rfl (Nat.le_of_ble_eq_true rfl) ?_
  intro p e s m below meth c C hP hI ls hl
  obtain ⟨hx, hb, hr, hlocks, hml, hown, hts, hK, hN⟩ := id C
  have hS : va_S (kA a) s.heap s.heap [] := va_S.rf
  have hl : lv_has ls 2 [(0, .ref (a 0)), (1, .int x1)] := hl
  refine lv_aload_n hx hb dX2_empty_0 rfl (lv_at hl 0 rfl) ?_
  refine va_get (D := D) (ci := 2) (v := .ref (a 2)) (C := RX2) (T := TX2) (N := 5) hx hb hts iwX2_empty hown hK hP 0 rfl rfl 1 (by decide) (hts (.fieldLink RX2 19 "LoomPanel" "patches" "LLoomPanel$Patches;") flX2_empty_19) (fun _ h9 => h9) rfl dX2_empty_1 ?_
  refine lv_iload_n hx hb dX2_empty_4 rfl (lv_at hl 1 rfl) ?_
  refine g_Ri (As := [.int x1]) (rest := []) ⟨hx, hb, hml, hown, hts⟩ (c_X0_has l D cI cJ a hd S x1 ) (cwV 1 hts gX2_empty_X0_has rfl rfl rfl eeX0_has ⟨Nat.le_of_ble_eq_true rfl, Nat.le_of_ble_eq_true rfl⟩) hK hN hP hI (va_recv hK hP (ci := 0) (q0 := 2) rfl rfl) hS rfl hl.1 rfl (Nat.le_of_ble_eq_true rfl) dX2_empty_5 ⟨Nat.zero_le _, Nat.zero_le _⟩ (fun H locs hP hS => ?_)
  refine lv_if_eq (tgt := 22) hx hb dX2_empty_8 (by decide) (fun c_8 => ?_) (fun c_8 => ?_)
  · skip
    refine lv_bipush (v := (-3)) hx hb dX2_empty_22 (by decide) ?_
    exact r_Wi hx hb hr hlocks hP hI hS (by simp only [f_X2_empty, if_pos c_8]) dX2_empty_24
  · skip
    refine lv_aload_n hx hb dX2_empty_11 rfl (lv_at hl 0 rfl) ?_
    refine va_get (D := D) (ci := 2) (v := .ref (a 2)) (C := RX2) (T := TX2) (N := 5) hx hb hts iwX2_empty hown hK hP 0 rfl rfl 1 (by decide) (hts (.fieldLink RX2 19 "LoomPanel" "patches" "LLoomPanel$Patches;") flX2_empty_19) (fun _ h9 => h9) rfl dX2_empty_12 ?_
    refine lv_iload_n hx hb dX2_empty_15 rfl (lv_at hl 1 rfl) ?_
    refine g_Wi (As := [.int x1]) (rest := []) ⟨hx, hb, hml, hown, hts⟩ (c_X0_drop l D cI cJ a hd S x1 ) (cwV 1 hts gX2_empty_X0_drop rfl rfl rfl eeX0_drop ⟨Nat.le_of_ble_eq_true rfl, Nat.le_of_ble_eq_true rfl⟩) hK hN hP hI (va_recv hK hP (ci := 0) (q0 := 2) rfl rfl) hS rfl hl.1 rfl (Nat.le_of_ble_eq_true rfl) dX2_empty_16 ⟨Nat.zero_le _, Nat.zero_le _⟩ (fun H locs hI hP hS => ?_)
    refine lv_goto (tgt := 24) hx hb dX2_empty_19 (by decide) ?_
    exact r_Wi hx hb hr hlocks hP hI hS (by simp only [f_X2_empty, if_neg c_8]) dX2_empty_24
abbrev rmX2_is : Room := { frames := 2, cells := 0, slots := 0, locals := 43 }
theorem eeX2_is : yX2_is.cls = RX2 ∧ yX2_is.cls ≠ "java/lang/invoke/MethodHandle" ∧ yX2_is.cls ≠ "java/lang/invoke/VarHandle" ∧ (parseMethodDescriptor yX2_is.desc).map (fun d => d.parameters.length) = some 2 := by decide +kernel
theorem iwX2_is : ∀ w ∈ u_ws RX2 TX2 5, w ∈ wsX2_is := by decide +kernel
theorem flX2_is_10 : Cond.fieldLink RX2 10 "LoomPanel" "values" "LLoomPanel$Values;" ∈ wsX2_is := by decide +kernel
def f_X2_is (S : KS) (x1 : Int32) (x2 : Int32) : Int32 := if (f_X1_has S x1) = 0 then ((-3)) else (if (f_X2_isView x2) = 0 then ((-3)) else (if (f_X1_isA S x1 x2) = 0 then (0) else (1)))
set_option maxHeartbeats 4000000 in
set_option maxRecDepth 100000 in
theorem c_X2_is (l : Launch) (D : va_G) (cI cJ : ClassId) (a : Nat → Nat) (hd : ∀ i j, i < 11 → j < 11 → a i = a j → i = j) (S : KS) (x1 : Int32) (x2 : Int32) : GRi l yX2_is wsX2_is rmX2_is [.ref (a 0), .int x1, .int x2] D (cw_tys cI cJ) (cw cI cJ a) KInv (kA a) S (f_X2_is S x1 x2) := by
  refine GB_of (cc := cX2_is) (maxL := 3) (ret := (some .int)) (by decide) rfl (Nat.le_of_ble_eq_true rfl) ?_
  intro p e s m below meth c C hP hI ls hl
  obtain ⟨hx, hb, hr, hlocks, hml, hown, hts, hK, hN⟩ := id C
  have hS : va_S (kA a) s.heap s.heap [] := va_S.rf
  have hl : lv_has ls 3 [(0, .ref (a 0)), (1, .int x1), (2, .int x2)] := hl
  refine lv_aload_n hx hb dX2_is_0 rfl (lv_at hl 0 rfl) ?_
  refine va_get (D := D) (ci := 2) (v := .ref (a 1)) (C := RX2) (T := TX2) (N := 5) hx hb hts iwX2_is hown hK hP 0 rfl rfl 0 (by decide) (hts (.fieldLink RX2 10 "LoomPanel" "values" "LLoomPanel$Values;") flX2_is_10) (fun _ h9 => h9) rfl dX2_is_1 ?_
  refine lv_iload_n hx hb dX2_is_4 rfl (lv_at hl 1 rfl) ?_
  refine g_Ri (As := [.int x1]) (rest := []) ⟨hx, hb, hml, hown, hts⟩ (c_X1_has l D cI cJ a hd S x1 ) (cwV 1 hts gX2_is_X1_has rfl rfl rfl eeX1_has ⟨Nat.le_of_ble_eq_true rfl, Nat.le_of_ble_eq_true rfl⟩) hK hN hP hI (va_recv hK hP (ci := 1) (q0 := 1) rfl rfl) hS rfl hl.1 rfl (Nat.le_of_ble_eq_true rfl) dX2_is_5 ⟨Nat.zero_le _, Nat.zero_le _⟩ (fun H locs hP hS => ?_)
  refine lv_if_eq (tgt := 18) hx hb dX2_is_8 (by decide) (fun c_8 => ?_) (fun c_8 => ?_)
  · skip
    refine lv_bipush (v := (-3)) hx hb dX2_is_18 (by decide) ?_
    exact r_Ri hx hb hr hlocks hP hI hS (by simp only [f_X2_is, if_pos c_8]) dX2_is_20
  · skip
    refine lv_iload_n hx hb dX2_is_11 rfl (lv_at hl 2 rfl) ?_
    refine g_Si (As := [.int x2]) (rest := []) ⟨hx, hb, hml, hown, hts⟩ (c_X2_isView l x2) (va_cwS 1 hts gX2_is_X2_isView rfl rfl rfl esX2_isView ⟨Nat.le_of_ble_eq_true rfl, Nat.le_of_ble_eq_true rfl⟩) hP hS rfl hl.1 rfl (Nat.le_of_ble_eq_true rfl) dX2_is_12 ⟨Nat.zero_le _, Nat.zero_le _⟩ (fun H locs hP hS => ?_)
    refine lv_if_ne (tgt := 21) hx hb dX2_is_15 (by decide) (fun c_15 => ?_) (fun c_15 => ?_)
    · skip
      refine lv_aload_n hx hb dX2_is_21 rfl (lv_at hl 0 rfl) ?_
      refine va_get (D := D) (ci := 2) (v := .ref (a 1)) (C := RX2) (T := TX2) (N := 5) hx hb hts iwX2_is hown hK hP 0 rfl rfl 0 (by decide) (hts (.fieldLink RX2 10 "LoomPanel" "values" "LLoomPanel$Values;") flX2_is_10) (fun _ h9 => h9) rfl dX2_is_22 ?_
      refine lv_iload_n hx hb dX2_is_25 rfl (lv_at hl 1 rfl) ?_
      refine lv_iload_n hx hb dX2_is_26 rfl (lv_at hl 2 rfl) ?_
      refine g_Ri (As := [.int x1, .int x2]) (rest := []) ⟨hx, hb, hml, hown, hts⟩ (c_X1_isA l D cI cJ a hd S x1 x2 ) (cwV 2 hts gX2_is_X1_isA rfl rfl rfl eeX1_isA ⟨Nat.le_of_ble_eq_true rfl, Nat.le_of_ble_eq_true rfl⟩) hK hN hP hI (va_recv hK hP (ci := 1) (q0 := 1) rfl rfl) hS rfl hl.1 rfl (Nat.le_of_ble_eq_true rfl) dX2_is_27 ⟨Nat.zero_le _, Nat.zero_le _⟩ (fun H locs hP hS => ?_)
      refine lv_if_eq (tgt := 37) hx hb dX2_is_30 (by decide) (fun c_30 => ?_) (fun c_30 => ?_)
      · skip
        refine lv_iconst (v := 0) hx hb dX2_is_37 (by decide) ?_
        exact r_Ri hx hb hr hlocks hP hI hS (by simp only [f_X2_is, if_neg c_8, if_neg c_15, if_pos c_30]) dX2_is_38
      · skip
        refine lv_iconst (v := 1) hx hb dX2_is_33 (by decide) ?_
        refine lv_goto (tgt := 38) hx hb dX2_is_34 (by decide) ?_
        exact r_Ri hx hb hr hlocks hP hI hS (by simp only [f_X2_is, if_neg c_8, if_neg c_15, if_neg c_30]) dX2_is_38
    · skip
      refine lv_bipush (v := (-3)) hx hb dX2_is_18 (by decide) ?_
      exact r_Ri hx hb hr hlocks hP hI hS (by simp only [f_X2_is, if_neg c_8, if_pos c_15]) dX2_is_20
abbrev rmX2_views : Room := { frames := 2, cells := 0, slots := 0, locals := 42 }
theorem eeX2_views : yX2_views.cls = RX2 ∧ yX2_views.cls ≠ "java/lang/invoke/MethodHandle" ∧ yX2_views.cls ≠ "java/lang/invoke/VarHandle" ∧ (parseMethodDescriptor yX2_views.desc).map (fun d => d.parameters.length) = some 1 := by decide +kernel
theorem iwX2_views : ∀ w ∈ u_ws RX2 TX2 5, w ∈ wsX2_views := by decide +kernel
theorem flX2_views_10 : Cond.fieldLink RX2 10 "LoomPanel" "values" "LLoomPanel$Values;" ∈ wsX2_views := by decide +kernel
def f_X2_views (S : KS) (x1 : Int32) : Int32 := if (f_X1_has S x1) = 0 then ((-3)) else (f_X2_viewsOfForm (f_X1_formOf S x1))
set_option maxHeartbeats 4000000 in
set_option maxRecDepth 100000 in
theorem c_X2_views (l : Launch) (D : va_G) (cI cJ : ClassId) (a : Nat → Nat) (hd : ∀ i j, i < 11 → j < 11 → a i = a j → i = j) (S : KS) (x1 : Int32) : GRi l yX2_views wsX2_views rmX2_views [.ref (a 0), .int x1] D (cw_tys cI cJ) (cw cI cJ a) KInv (kA a) S (f_X2_views S x1) := by
  refine GB_of (cc := cX2_views) (maxL := 2) (ret := (some .int)) (by decide) rfl (Nat.le_of_ble_eq_true rfl) ?_
  intro p e s m below meth c C hP hI ls hl
  obtain ⟨hx, hb, hr, hlocks, hml, hown, hts, hK, hN⟩ := id C
  have hS : va_S (kA a) s.heap s.heap [] := va_S.rf
  have hl : lv_has ls 2 [(0, .ref (a 0)), (1, .int x1)] := hl
  refine lv_aload_n hx hb dX2_views_0 rfl (lv_at hl 0 rfl) ?_
  refine va_get (D := D) (ci := 2) (v := .ref (a 1)) (C := RX2) (T := TX2) (N := 5) hx hb hts iwX2_views hown hK hP 0 rfl rfl 0 (by decide) (hts (.fieldLink RX2 10 "LoomPanel" "values" "LLoomPanel$Values;") flX2_views_10) (fun _ h9 => h9) rfl dX2_views_1 ?_
  refine lv_iload_n hx hb dX2_views_4 rfl (lv_at hl 1 rfl) ?_
  refine g_Ri (As := [.int x1]) (rest := []) ⟨hx, hb, hml, hown, hts⟩ (c_X1_has l D cI cJ a hd S x1 ) (cwV 1 hts gX2_views_X1_has rfl rfl rfl eeX1_has ⟨Nat.le_of_ble_eq_true rfl, Nat.le_of_ble_eq_true rfl⟩) hK hN hP hI (va_recv hK hP (ci := 1) (q0 := 1) rfl rfl) hS rfl hl.1 rfl (Nat.le_of_ble_eq_true rfl) dX2_views_5 ⟨Nat.zero_le _, Nat.zero_le _⟩ (fun H locs hP hS => ?_)
  refine lv_if_eq (tgt := 25) hx hb dX2_views_8 (by decide) (fun c_8 => ?_) (fun c_8 => ?_)
  · skip
    refine lv_bipush (v := (-3)) hx hb dX2_views_25 (by decide) ?_
    exact r_Ri hx hb hr hlocks hP hI hS (by simp only [f_X2_views, if_pos c_8]) dX2_views_27
  · skip
    refine lv_aload_n hx hb dX2_views_11 rfl (lv_at hl 0 rfl) ?_
    refine va_get (D := D) (ci := 2) (v := .ref (a 1)) (C := RX2) (T := TX2) (N := 5) hx hb hts iwX2_views hown hK hP 0 rfl rfl 0 (by decide) (hts (.fieldLink RX2 10 "LoomPanel" "values" "LLoomPanel$Values;") flX2_views_10) (fun _ h9 => h9) rfl dX2_views_12 ?_
    refine lv_iload_n hx hb dX2_views_15 rfl (lv_at hl 1 rfl) ?_
    refine g_Ri (As := [.int x1]) (rest := []) ⟨hx, hb, hml, hown, hts⟩ (c_X1_formOf l D cI cJ a hd S x1 ) (cwV 1 hts gX2_views_X1_formOf rfl rfl rfl eeX1_formOf ⟨Nat.le_of_ble_eq_true rfl, Nat.le_of_ble_eq_true rfl⟩) hK hN hP hI (va_recv hK hP (ci := 1) (q0 := 1) rfl rfl) hS rfl hl.1 rfl (Nat.le_of_ble_eq_true rfl) dX2_views_16 ⟨Nat.zero_le _, Nat.zero_le _⟩ (fun H locs hP hS => ?_)
    refine g_Si (As := [.int (f_X1_formOf S x1)]) (rest := []) ⟨hx, hb, hml, hown, hts⟩ (c_X2_viewsOfForm l (f_X1_formOf S x1)) (va_cwS 1 hts gX2_views_X2_viewsOfForm rfl rfl rfl esX2_viewsOfForm ⟨Nat.le_of_ble_eq_true rfl, Nat.le_of_ble_eq_true rfl⟩) hP hS rfl hl.1 rfl (Nat.le_of_ble_eq_true rfl) dX2_views_19 ⟨Nat.zero_le _, Nat.zero_le _⟩ (fun H locs hP hS => ?_)
    refine lv_goto (tgt := 27) hx hb dX2_views_22 (by decide) ?_
    exact r_Ri hx hb hr hlocks hP hI hS (by simp only [f_X2_views, if_neg c_8]) dX2_views_27
abbrev rmX2_size : Room := { frames := 2, cells := 0, slots := 0, locals := 42 }
theorem eeX2_size : yX2_size.cls = RX2 ∧ yX2_size.cls ≠ "java/lang/invoke/MethodHandle" ∧ yX2_size.cls ≠ "java/lang/invoke/VarHandle" ∧ (parseMethodDescriptor yX2_size.desc).map (fun d => d.parameters.length) = some 1 := by decide +kernel
theorem iwX2_size : ∀ w ∈ u_ws RX2 TX2 5, w ∈ wsX2_size := by decide +kernel
theorem flX2_size_10 : Cond.fieldLink RX2 10 "LoomPanel" "values" "LLoomPanel$Values;" ∈ wsX2_size := by decide +kernel
def f_X2_size (S : KS) (x1 : Int32) : Int32 := if (f_X1_has S x1) = 0 then ((-3)) else (f_X1_lengthOf S x1)
set_option maxHeartbeats 4000000 in
set_option maxRecDepth 100000 in
theorem c_X2_size (l : Launch) (D : va_G) (cI cJ : ClassId) (a : Nat → Nat) (hd : ∀ i j, i < 11 → j < 11 → a i = a j → i = j) (S : KS) (x1 : Int32) : GRi l yX2_size wsX2_size rmX2_size [.ref (a 0), .int x1] D (cw_tys cI cJ) (cw cI cJ a) KInv (kA a) S (f_X2_size S x1) := by
  refine GB_of (cc := cX2_size) (maxL := 2) (ret := (some .int)) (by decide) rfl (Nat.le_of_ble_eq_true rfl) ?_
  intro p e s m below meth c C hP hI ls hl
  obtain ⟨hx, hb, hr, hlocks, hml, hown, hts, hK, hN⟩ := id C
  have hS : va_S (kA a) s.heap s.heap [] := va_S.rf
  have hl : lv_has ls 2 [(0, .ref (a 0)), (1, .int x1)] := hl
  refine lv_aload_n hx hb dX2_size_0 rfl (lv_at hl 0 rfl) ?_
  refine va_get (D := D) (ci := 2) (v := .ref (a 1)) (C := RX2) (T := TX2) (N := 5) hx hb hts iwX2_size hown hK hP 0 rfl rfl 0 (by decide) (hts (.fieldLink RX2 10 "LoomPanel" "values" "LLoomPanel$Values;") flX2_size_10) (fun _ h9 => h9) rfl dX2_size_1 ?_
  refine lv_iload_n hx hb dX2_size_4 rfl (lv_at hl 1 rfl) ?_
  refine g_Ri (As := [.int x1]) (rest := []) ⟨hx, hb, hml, hown, hts⟩ (c_X1_has l D cI cJ a hd S x1 ) (cwV 1 hts gX2_size_X1_has rfl rfl rfl eeX1_has ⟨Nat.le_of_ble_eq_true rfl, Nat.le_of_ble_eq_true rfl⟩) hK hN hP hI (va_recv hK hP (ci := 1) (q0 := 1) rfl rfl) hS rfl hl.1 rfl (Nat.le_of_ble_eq_true rfl) dX2_size_5 ⟨Nat.zero_le _, Nat.zero_le _⟩ (fun H locs hP hS => ?_)
  refine lv_if_eq (tgt := 22) hx hb dX2_size_8 (by decide) (fun c_8 => ?_) (fun c_8 => ?_)
  · skip
    refine lv_bipush (v := (-3)) hx hb dX2_size_22 (by decide) ?_
    exact r_Ri hx hb hr hlocks hP hI hS (by simp only [f_X2_size, if_pos c_8]) dX2_size_24
  · skip
    refine lv_aload_n hx hb dX2_size_11 rfl (lv_at hl 0 rfl) ?_
    refine va_get (D := D) (ci := 2) (v := .ref (a 1)) (C := RX2) (T := TX2) (N := 5) hx hb hts iwX2_size hown hK hP 0 rfl rfl 0 (by decide) (hts (.fieldLink RX2 10 "LoomPanel" "values" "LLoomPanel$Values;") flX2_size_10) (fun _ h9 => h9) rfl dX2_size_12 ?_
    refine lv_iload_n hx hb dX2_size_15 rfl (lv_at hl 1 rfl) ?_
    refine g_Ri (As := [.int x1]) (rest := []) ⟨hx, hb, hml, hown, hts⟩ (c_X1_lengthOf l D cI cJ a hd S x1 ) (cwV 1 hts gX2_size_X1_lengthOf rfl rfl rfl eeX1_lengthOf ⟨Nat.le_of_ble_eq_true rfl, Nat.le_of_ble_eq_true rfl⟩) hK hN hP hI (va_recv hK hP (ci := 1) (q0 := 1) rfl rfl) hS rfl hl.1 rfl (Nat.le_of_ble_eq_true rfl) dX2_size_16 ⟨Nat.zero_le _, Nat.zero_le _⟩ (fun H locs hP hS => ?_)
    refine lv_goto (tgt := 24) hx hb dX2_size_19 (by decide) ?_
    exact r_Ri hx hb hr hlocks hP hI hS (by simp only [f_X2_size, if_neg c_8]) dX2_size_24
abbrev rmX2_count : Room := { frames := 1, cells := 0, slots := 0, locals := 20 }
theorem eeX2_count : yX2_count.cls = RX2 ∧ yX2_count.cls ≠ "java/lang/invoke/MethodHandle" ∧ yX2_count.cls ≠ "java/lang/invoke/VarHandle" ∧ (parseMethodDescriptor yX2_count.desc).map (fun d => d.parameters.length) = some 1 := by decide +kernel
theorem iwX2_count : ∀ w ∈ u_ws RX2 TX2 5, w ∈ wsX2_count := by decide +kernel
theorem flX2_count_10 : Cond.fieldLink RX2 10 "LoomPanel" "values" "LLoomPanel$Values;" ∈ wsX2_count := by decide +kernel
theorem flX2_count_27 : Cond.fieldLink RX2 27 "LoomPanel" "faultsSoFar" "I" ∈ wsX2_count := by decide +kernel
theorem flX2_count_30 : Cond.fieldLink RX2 30 "LoomPanel" "latestFault" "I" ∈ wsX2_count := by decide +kernel
def f_X2_count (S : KS) (x1 : Int32) : Int32 := if x1 = 0 then (f_X1_made S ) else (if x1 = 1 then (S.faults) else (if x1 = 2 then (S.latest) else ((-3))))
set_option maxHeartbeats 4000000 in
set_option maxRecDepth 100000 in
theorem c_X2_count (l : Launch) (D : va_G) (cI cJ : ClassId) (a : Nat → Nat) (hd : ∀ i j, i < 11 → j < 11 → a i = a j → i = j) (S : KS) (x1 : Int32) : GRi l yX2_count wsX2_count rmX2_count [.ref (a 0), .int x1] D (cw_tys cI cJ) (cw cI cJ a) KInv (kA a) S (f_X2_count S x1) := by
  refine GB_of (cc := cX2_count) (maxL := 2) (ret := (some .int)) (by decide) rfl (Nat.le_of_ble_eq_true rfl) ?_
  intro p e s m below meth c C hP hI ls hl
  obtain ⟨hx, hb, hr, hlocks, hml, hown, hts, hK, hN⟩ := id C
  have hS : va_S (kA a) s.heap s.heap [] := va_S.rf
  have hl : lv_has ls 2 [(0, .ref (a 0)), (1, .int x1)] := hl
  refine lv_iload_n hx hb dX2_count_0 rfl (lv_at hl 1 rfl) ?_
  by_cases c_1_0 : x1 = 0
  · refine lv_tableIn (tgt := 28) hx hb dX2_count_1 (by rw [c_1_0]; decide) (by rw [c_1_0]; decide) (by rw [c_1_0]; rfl) (by decide) ?_
    refine lv_aload_n hx hb dX2_count_28 rfl (lv_at hl 0 rfl) ?_
    refine va_get (D := D) (ci := 2) (v := .ref (a 1)) (C := RX2) (T := TX2) (N := 5) hx hb hts iwX2_count hown hK hP 0 rfl rfl 0 (by decide) (hts (.fieldLink RX2 10 "LoomPanel" "values" "LLoomPanel$Values;") flX2_count_10) (fun _ h9 => h9) rfl dX2_count_29 ?_
    refine g_Ri (As := []) (rest := []) ⟨hx, hb, hml, hown, hts⟩ (c_X1_made l D cI cJ a hd S  ) (cwV 0 hts gX2_count_X1_made rfl rfl rfl eeX1_made ⟨Nat.le_of_ble_eq_true rfl, Nat.le_of_ble_eq_true rfl⟩) hK hN hP hI (va_recv hK hP (ci := 1) (q0 := 1) rfl rfl) hS rfl hl.1 rfl (Nat.le_of_ble_eq_true rfl) dX2_count_32 ⟨Nat.zero_le _, Nat.zero_le _⟩ (fun H locs hP hS => ?_)
    exact r_Ri hx hb hr hlocks hP hI hS (by simp only [f_X2_count, if_pos c_1_0]) dX2_count_35
  by_cases c_1_1 : x1 = 1
  · refine lv_tableIn (tgt := 36) hx hb dX2_count_1 (by rw [c_1_1]; decide) (by rw [c_1_1]; decide) (by rw [c_1_1]; rfl) (by decide) ?_
    refine lv_aload_n hx hb dX2_count_36 rfl (lv_at hl 0 rfl) ?_
    refine va_get (D := D) (ci := 2) (v := .int S.faults) (C := RX2) (T := TX2) (N := 5) hx hb hts iwX2_count hown hK hP 0 rfl rfl 3 (by decide) (hts (.fieldLink RX2 27 "LoomPanel" "faultsSoFar" "I") flX2_count_27) (fun _ h9 => h9) rfl dX2_count_37 ?_
    exact r_Ri hx hb hr hlocks hP hI hS (by simp only [f_X2_count, if_neg c_1_0, if_pos c_1_1]) dX2_count_40
  by_cases c_1_2 : x1 = 2
  · refine lv_tableIn (tgt := 41) hx hb dX2_count_1 (by rw [c_1_2]; decide) (by rw [c_1_2]; decide) (by rw [c_1_2]; rfl) (by decide) ?_
    refine lv_aload_n hx hb dX2_count_41 rfl (lv_at hl 0 rfl) ?_
    refine va_get (D := D) (ci := 2) (v := .int S.latest) (C := RX2) (T := TX2) (N := 5) hx hb hts iwX2_count hown hK hP 0 rfl rfl 4 (by decide) (hts (.fieldLink RX2 30 "LoomPanel" "latestFault" "I") flX2_count_30) (fun _ h9 => h9) rfl dX2_count_42 ?_
    exact r_Ri hx hb hr hlocks hP hI hS (by simp only [f_X2_count, if_neg c_1_0, if_neg c_1_1, if_pos c_1_2]) dX2_count_45
  refine lv_tableOut (tgt := 46) hx hb dX2_count_1 (by have := lv_neT (a := 0) c_1_0 (by decide); have := lv_neT (a := 1) c_1_1 (by decide); have := lv_neT (a := 2) c_1_2 (by decide); omega) (by decide) ?_
  refine lv_bipush (v := (-3)) hx hb dX2_count_46 (by decide) ?_
  exact r_Ri hx hb hr hlocks hP hI hS (by simp only [f_X2_count, if_neg c_1_0, if_neg c_1_1, if_neg c_1_2]) dX2_count_48
abbrev rmX2_clear : Room := { frames := 1, cells := 0, slots := 0, locals := 21 }
theorem eeX2_clear : yX2_clear.cls = RX2 ∧ yX2_clear.cls ≠ "java/lang/invoke/MethodHandle" ∧ yX2_clear.cls ≠ "java/lang/invoke/VarHandle" ∧ (parseMethodDescriptor yX2_clear.desc).map (fun d => d.parameters.length) = some 0 := by decide +kernel
theorem iwX2_clear : ∀ w ∈ u_ws RX2 TX2 5, w ∈ wsX2_clear := by decide +kernel
theorem flX2_clear_10 : Cond.fieldLink RX2 10 "LoomPanel" "values" "LLoomPanel$Values;" ∈ wsX2_clear := by decide +kernel
theorem flX2_clear_19 : Cond.fieldLink RX2 19 "LoomPanel" "patches" "LLoomPanel$Patches;" ∈ wsX2_clear := by decide +kernel
def f_X2_clear (S : KS)  : Int32 × KS := ((f_X1_forgetAll (f_X0_dropAll S) ).1, (f_X1_forgetAll (f_X0_dropAll S) ).2)
set_option maxHeartbeats 4000000 in
set_option maxRecDepth 100000 in
theorem c_X2_clear (l : Launch) (D : va_G) (cI cJ : ClassId) (a : Nat → Nat) (hd : ∀ i j, i < 11 → j < 11 → a i = a j → i = j) (S : KS)  : GWi l yX2_clear wsX2_clear rmX2_clear [.ref (a 0)] D (cw_tys cI cJ) (cw cI cJ a) KInv (kA a) S (f_X2_clear S ) := by
  refine GB_of (cc := cX2_clear) (maxL := 1) (ret := (some .int)) (by decide) rfl (Nat.le_of_ble_eq_true rfl) ?_
  intro p e s m below meth c C hP hI ls hl
  obtain ⟨hx, hb, hr, hlocks, hml, hown, hts, hK, hN⟩ := id C
  have hS : va_S (kA a) s.heap s.heap [] := va_S.rf
  have hl : lv_has ls 1 [(0, .ref (a 0))] := hl
  refine lv_aload_n hx hb dX2_clear_0 rfl (lv_at hl 0 rfl) ?_
  refine va_get (D := D) (ci := 2) (v := .ref (a 2)) (C := RX2) (T := TX2) (N := 5) hx hb hts iwX2_clear hown hK hP 0 rfl rfl 1 (by decide) (hts (.fieldLink RX2 19 "LoomPanel" "patches" "LLoomPanel$Patches;") flX2_clear_19) (fun _ h9 => h9) rfl dX2_clear_1 ?_
  refine g_Wv (As := []) (rest := []) ⟨hx, hb, hml, hown, hts⟩ (c_X0_dropAll l D cI cJ a hd S  ) (cwV 0 hts gX2_clear_X0_dropAll rfl rfl rfl eeX0_dropAll ⟨Nat.le_of_ble_eq_true rfl, Nat.le_of_ble_eq_true rfl⟩) hK hN hP hI (va_recv hK hP (ci := 0) (q0 := 2) rfl rfl) hS rfl hl.1 rfl (Nat.le_of_ble_eq_true rfl) dX2_clear_4 ⟨Nat.zero_le _, Nat.zero_le _⟩ (fun H locs hI hP hS => ?_)
  refine lv_aload_n hx hb dX2_clear_7 rfl (lv_at hl 0 rfl) ?_
  refine va_get (D := D) (ci := 2) (v := .ref (a 1)) (C := RX2) (T := TX2) (N := 5) hx hb hts iwX2_clear hown hK hP 0 rfl rfl 0 (by decide) (hts (.fieldLink RX2 10 "LoomPanel" "values" "LLoomPanel$Values;") flX2_clear_10) (fun _ h9 => h9) rfl dX2_clear_8 ?_
  refine g_Wi (As := []) (rest := []) ⟨hx, hb, hml, hown, hts⟩ (c_X1_forgetAll l D cI cJ a hd (f_X0_dropAll S)  ) (cwV 0 hts gX2_clear_X1_forgetAll rfl rfl rfl eeX1_forgetAll ⟨Nat.le_of_ble_eq_true rfl, Nat.le_of_ble_eq_true rfl⟩) hK hN hP hI (va_recv hK hP (ci := 1) (q0 := 1) rfl rfl) hS rfl hl.1 rfl (Nat.le_of_ble_eq_true rfl) dX2_clear_11 ⟨Nat.zero_le _, Nat.zero_le _⟩ (fun H locs hI hP hS => ?_)
  exact r_Wi hx hb hr hlocks hP hI hS (by simp only [f_X2_clear]) dX2_clear_14
