abbrev rmX3_sumOf : Room := { frames := 0, cells := 0, slots := 0, locals := 0 }
theorem eeX3_sumOf : yX3_sumOf.cls = RX3 ∧ yX3_sumOf.cls ≠ "java/lang/invoke/MethodHandle" ∧ yX3_sumOf.cls ≠ "java/lang/invoke/VarHandle" ∧ (parseMethodDescriptor yX3_sumOf.desc).map (fun d => d.parameters.length) = some 1 := by decide +kernel
theorem iwX3_sumOf : ∀ w ∈ u_ws RX3 TX3 13, w ∈ wsX3_sumOf := by decide +kernel
theorem flX3_sumOf_13 : Cond.fieldLink RX3 13 "LoomPanelModel" "sizes" "[I" ∈ wsX3_sumOf := by decide +kernel
theorem flX3_sumOf_19 : Cond.fieldLink RX3 19 "LoomPanelModel" "numbers" "[J" ∈ wsX3_sumOf := by decide +kernel
def f_X3_sumOf_c5 : Nat → MS → Int32 → Int64 → Nat → Int64
  | 0, S, _, _, _ => 0
  | n + 1, S, x1, x2, j => if (S.sizes x1.toNatClampNeg) ≤ (nI j) then (x2) else (f_X3_sumOf_c5 n S x1 (x2 + (S.nums ((8 * x1) + (nI j)).toNatClampNeg)) (j + 1))
set_option maxHeartbeats 4000000 in
set_option maxRecDepth 100000 in
theorem w_X3_sumOf_c5 {l : Launch} {D : va_G} {cI cJ : ClassId} {a : Nat → Nat} (hd : ∀ i j, i < 10 → j < 10 → a i = a j → i = j) {p : Program} {e : Env} {s : State} {m : MethodId} {args : Array Value} {below : List Frame} {meth : Method} {c : Code} (C : GC p s m meth c cX3_sumOf (some .long) 5 RX3 wsX3_sumOf args D (mw_tys cI cJ)) {v : Int64} : ∀ (n : Nat) (S : MS) (x1 : Int32) (x2 : Int64) (j : Nat) (hvx : vp_in x1 60) (hj : j ≤ 8) (hn : j + n = 9) (H : Heap) (locs : List Loc) (ls : Array Slot), va_P D vwCl (mw cI cJ a S) H → MInv S → va_S (mA a) s.heap H locs → lv_has ls 5 [(0, .ref (a 0)), (1, .int x1), (2, .long x2), (4, .int (nI j))] → v = f_X3_sumOf_c5 n S x1 x2 j → W p l e rmX3_sumOf s m args below meth c H locs 0 0 (MQ below (va_Ql (fun r u => r = v ∧ u = S) (GE D (mw cI cJ a) MInv) (mA a)) args s 0 0 (mA a)) (F0 m 5 ls []) := by
  obtain ⟨hx, hb, hr, hlocks, hml, hown, hts, hK, hN⟩ := id C
  intro n
  induction n with
  | zero =>
    intro S x1 x2 j hvx hj hn H locs ls hP hI hS hl hq
    exact absurd hn (by omega)
  | succ n ih =>
    intro S x1 x2 j hvx hj hn H locs ls hP hI hS hl hq
    refine lv_iload hx hb dX3_sumOf_5 (lv_at hl 3 rfl) ?_
    refine lv_aload_n hx hb dX3_sumOf_7 rfl (lv_at hl 0 rfl) ?_
    refine va_get (D := D) (ci := 3) (v := .ref (a 2)) (C := RX3) (T := TX3) (N := 13) hx hb hts iwX3_sumOf hown hK hP 0 rfl rfl 2 (by decide) (hts (.fieldLink RX3 13 "LoomPanelModel" "sizes" "[I") flX3_sumOf_13) (fun _ h9 => h9) rfl dX3_sumOf_8 ?_
    refine lv_iload_n hx hb dX3_sumOf_11 rfl (lv_at hl 1 rfl) ?_
    refine va_iald hx hb hK hP 2 0 (f := S.sizes) rfl rfl hvx dX3_sumOf_12 ?_
    refine lv_icmp_ge (tgt := 37) hx hb dX3_sumOf_13 (by decide) (fun c_13 => ?_) (fun c_13 => ?_)
    · skip
      refine lv_lload_n hx hb dX3_sumOf_37 rfl (lv_at hl 2 rfl) ?_
      exact r_Rl hx hb hr hlocks hP hI hS (hq.trans (by simp only [f_X3_sumOf_c5, if_pos c_13])) dX3_sumOf_38
    · skip
      refine lv_lload_n hx hb dX3_sumOf_16 rfl (lv_at hl 2 rfl) ?_
      refine lv_aload_n hx hb dX3_sumOf_17 rfl (lv_at hl 0 rfl) ?_
      refine va_get (D := D) (ci := 3) (v := .ref (a 4)) (C := RX3) (T := TX3) (N := 13) hx hb hts iwX3_sumOf hown hK hP 0 rfl rfl 4 (by decide) (hts (.fieldLink RX3 19 "LoomPanelModel" "numbers" "[J") flX3_sumOf_19) (fun _ h9 => h9) rfl dX3_sumOf_18 ?_
      refine lv_bipush (v := 8) hx hb dX3_sumOf_21 (by decide) ?_
      refine lv_iload_n hx hb dX3_sumOf_23 rfl (lv_at hl 1 rfl) ?_
      refine lv_imul hx hb dX3_sumOf_24 ?_
      refine lv_iload hx hb dX3_sumOf_25 (lv_at hl 3 rfl) ?_
      refine lv_iadd hx hb dX3_sumOf_27 ?_
      refine va_lald hx hb hK hP 4 1 (f := S.nums) rfl rfl (ix8' hvx (jin (jl8 c_13 (hI.2.1 _).2 hj) (by decide))) dX3_sumOf_28 ?_
      refine lv_ladd hx hb dX3_sumOf_29 ?_
      refine lv_lstore_n (lv' := [(2, .long (x2 + (S.nums ((8 * x1) + (nI j)).toNatClampNeg))), (0, .ref (a 0)), (1, .int x1), (4, .int (nI j))]) hx hb dX3_sumOf_30 rfl hl (by decide) rfl (fun ls hl => ?_)
      refine lv_iinc (v := nI (j + 1)) (lv' := [(4, .int (nI (j + 1))), (2, .long (x2 + (S.nums ((8 * x1) + (nI j)).toNatClampNeg))), (0, .ref (a 0)), (1, .int x1)]) hx hb dX3_sumOf_31 hl (k := 3) rfl (nI_1 _) (by decide) rfl (fun ls hl => ?_)
      refine lv_goto (tgt := 5) hx hb dX3_sumOf_34 (by decide) ?_
      exact ih S x1 (x2 + (S.nums ((8 * x1) + (nI j)).toNatClampNeg)) (j + 1) hvx (jl8 c_13 (hI.2.1 _).2 hj) (by omega) _ _ _ hP hI hS (lv_sub hl [2, 3, 1, 0] rfl) (hq.trans (by simp only [f_X3_sumOf_c5, if_neg c_13]))
def f_X3_sumOf (S : MS) (x1 : Int32) : Int64 := f_X3_sumOf_c5 9 S x1 0 0
set_option maxHeartbeats 4000000 in
set_option maxRecDepth 100000 in
theorem c_X3_sumOf (l : Launch) (D : va_G) (cI cJ : ClassId) (a : Nat → Nat) (hd : ∀ i j, i < 10 → j < 10 → a i = a j → i = j) (S : MS) (x1 : Int32) (hvx : vp_in x1 60) : GRl l yX3_sumOf wsX3_sumOf rmX3_sumOf [.ref (a 0), .int x1] D (mw_tys cI cJ) (mw cI cJ a) MInv (mA a) S (f_X3_sumOf S x1) := by
  refine GB_of (cc := cX3_sumOf) (maxL := 5) (ret := (some .long)) (by decide) rfl (Nat.le_of_ble_eq_true rfl) ?_
  intro p e s m below meth c C hP hI ls hl
  obtain ⟨hx, hb, hr, hlocks, hml, hown, hts, hK, hN⟩ := id C
  have hS : va_S (mA a) s.heap s.heap [] := va_S.rf
  have hl : lv_has ls 5 [(0, .ref (a 0)), (1, .int x1)] := hl
  refine lv_lconst (v := 0) hx hb dX3_sumOf_0 (by decide) ?_
  refine lv_lstore_n (lv' := [(2, .long 0), (0, .ref (a 0)), (1, .int x1)]) hx hb dX3_sumOf_1 rfl hl (by decide) rfl (fun ls hl => ?_)
  refine lv_iconst (v := 0) hx hb dX3_sumOf_2 (by decide) ?_
  refine lv_istore (lv' := [(4, .int 0), (2, .long 0), (0, .ref (a 0)), (1, .int x1)]) hx hb dX3_sumOf_3 hl (by decide) rfl (fun ls hl => ?_)
  exact w_X3_sumOf_c5 hd C 9 S x1 0 0 hvx (Nat.zero_le _) rfl _ _ _ hP hI hS (lv_sub hl [2, 3, 1, 0] rfl) (by simp only [f_X3_sumOf])
abbrev rmX3_sum : Room := { frames := 1, cells := 0, slots := 0, locals := 24 }
theorem eeX3_sum : yX3_sum.cls = RX3 ∧ yX3_sum.cls ≠ "java/lang/invoke/MethodHandle" ∧ yX3_sum.cls ≠ "java/lang/invoke/VarHandle" ∧ (parseMethodDescriptor yX3_sum.desc).map (fun d => d.parameters.length) = some 1 := by decide +kernel
theorem iwX3_sum : ∀ w ∈ u_ws RX3 TX3 13, w ∈ wsX3_sum := by decide +kernel
theorem flX3_sum_13 : Cond.fieldLink RX3 13 "LoomPanelModel" "sizes" "[I" ∈ wsX3_sum := by decide +kernel
theorem flX3_sum_19 : Cond.fieldLink RX3 19 "LoomPanelModel" "numbers" "[J" ∈ wsX3_sum := by decide +kernel
theorem flX3_sum_23 : Cond.fieldLink RX3 23 "LoomPanelModel" "lies" "[I" ∈ wsX3_sum := by decide +kernel
theorem flX3_sum_7 : Cond.fieldLink RX3 7 "LoomPanelModel" "forms" "[I" ∈ wsX3_sum := by decide +kernel
def f_X3_sum_c60 : Nat → MS → Int32 → Int32 → Nat → Int32 × MS
  | 0, S, _, _, _ => (0, S)
  | n + 1, S, x1, x2, j => if (S.sizes x1.toNatClampNeg) ≤ (nI j) then ((x2, S)) else (if (S.lies ((8 * x1) + (nI j)).toNatClampNeg) = (-1) then (f_X3_sum_c60 n (S.set_nums (vp_updL S.nums ((8 * x2) + (nI j)).toNatClampNeg 0)) x1 x2 (j + 1)) else (f_X3_sum_c60 n (S.set_nums (vp_updL S.nums ((8 * x2) + (nI j)).toNatClampNeg (f_X3_sumOf S (S.lies ((8 * x1) + (nI j)).toNatClampNeg)))) x1 x2 (j + 1)))
set_option maxHeartbeats 4000000 in
set_option maxRecDepth 100000 in
theorem w_X3_sum_c60 {l : Launch} {D : va_G} {cI cJ : ClassId} {a : Nat → Nat} (hd : ∀ i j, i < 10 → j < 10 → a i = a j → i = j) {p : Program} {e : Env} {s : State} {m : MethodId} {args : Array Value} {below : List Frame} {meth : Method} {c : Code} (C : GC p s m meth c cX3_sum (some .int) 5 RX3 wsX3_sum args D (mw_tys cI cJ)) {v : Int32 × MS} : ∀ (n : Nat) (S : MS) (x1 : Int32) (x2 : Int32) (j : Nat) (hvx : vp_in x1 60) (h2 : vp_in x2 60) (hj : j ≤ 8) (hn : j + n = 9) (H : Heap) (locs : List Loc) (ls : Array Slot), va_P D vwCl (mw cI cJ a S) H → MInv S → va_S (mA a) s.heap H locs → lv_has ls 5 [(0, .ref (a 0)), (1, .int x1), (2, .int x2), (3, .int (nI j))] → v = f_X3_sum_c60 n S x1 x2 j → W p l e rmX3_sum s m args below meth c H locs 0 0 (MQ below (va_Qi (fun r u => v = (r, u)) (GE D (mw cI cJ a) MInv) (mA a)) args s 0 0 (mA a)) (F0 m 60 ls []) := by
  obtain ⟨hx, hb, hr, hlocks, hml, hown, hts, hK, hN⟩ := id C
  intro n
  induction n with
  | zero =>
    intro S x1 x2 j hvx h2 hj hn H locs ls hP hI hS hl hq
    exact absurd hn (by omega)
  | succ n ih =>
    intro S x1 x2 j hvx h2 hj hn H locs ls hP hI hS hl hq
    refine lv_iload_n hx hb dX3_sum_60 rfl (lv_at hl 3 rfl) ?_
    refine lv_aload_n hx hb dX3_sum_61 rfl (lv_at hl 0 rfl) ?_
    refine va_get (D := D) (ci := 3) (v := .ref (a 2)) (C := RX3) (T := TX3) (N := 13) hx hb hts iwX3_sum hown hK hP 0 rfl rfl 2 (by decide) (hts (.fieldLink RX3 13 "LoomPanelModel" "sizes" "[I") flX3_sum_13) (fun _ h9 => h9) rfl dX3_sum_62 ?_
    refine lv_iload_n hx hb dX3_sum_65 rfl (lv_at hl 1 rfl) ?_
    refine va_iald hx hb hK hP 2 0 (f := S.sizes) rfl rfl hvx dX3_sum_66 ?_
    refine lv_icmp_ge (tgt := 116) hx hb dX3_sum_67 (by decide) (fun c_67 => ?_) (fun c_67 => ?_)
    · skip
      refine lv_iload_n hx hb dX3_sum_116 rfl (lv_at hl 2 rfl) ?_
      exact r_Wi hx hb hr hlocks hP hI hS (hq.trans (by simp only [f_X3_sum_c60, if_pos c_67])) dX3_sum_117
    · skip
      refine lv_aload_n hx hb dX3_sum_70 rfl (lv_at hl 0 rfl) ?_
      refine va_get (D := D) (ci := 3) (v := .ref (a 5)) (C := RX3) (T := TX3) (N := 13) hx hb hts iwX3_sum hown hK hP 0 rfl rfl 5 (by decide) (hts (.fieldLink RX3 23 "LoomPanelModel" "lies" "[I") flX3_sum_23) (fun _ h9 => h9) rfl dX3_sum_71 ?_
      refine lv_bipush (v := 8) hx hb dX3_sum_74 (by decide) ?_
      refine lv_iload_n hx hb dX3_sum_76 rfl (lv_at hl 1 rfl) ?_
      refine lv_imul hx hb dX3_sum_77 ?_
      refine lv_iload_n hx hb dX3_sum_78 rfl (lv_at hl 3 rfl) ?_
      refine lv_iadd hx hb dX3_sum_79 ?_
      refine va_iald hx hb hK hP 5 0 (f := S.lies) rfl rfl (ix8' hvx (jin (jl8 c_67 (hI.2.1 _).2 hj) (by decide))) dX3_sum_80 ?_
      refine lv_istore (lv' := [(4, .int (S.lies ((8 * x1) + (nI j)).toNatClampNeg)), (0, .ref (a 0)), (1, .int x1), (2, .int x2), (3, .int (nI j))]) hx hb dX3_sum_81 hl (by decide) rfl (fun ls hl => ?_)
      refine lv_aload_n hx hb dX3_sum_83 rfl (lv_at hl 1 rfl) ?_
      refine va_get (D := D) (ci := 3) (v := .ref (a 4)) (C := RX3) (T := TX3) (N := 13) hx hb hts iwX3_sum hown hK hP 0 rfl rfl 4 (by decide) (hts (.fieldLink RX3 19 "LoomPanelModel" "numbers" "[J") flX3_sum_19) (fun _ h9 => h9) rfl dX3_sum_84 ?_
      refine lv_bipush (v := 8) hx hb dX3_sum_87 (by decide) ?_
      refine lv_iload_n hx hb dX3_sum_89 rfl (lv_at hl 3 rfl) ?_
      refine lv_imul hx hb dX3_sum_90 ?_
      refine lv_iload_n hx hb dX3_sum_91 rfl (lv_at hl 4 rfl) ?_
      refine lv_iadd hx hb dX3_sum_92 ?_
      refine lv_iload hx hb dX3_sum_93 (lv_at hl 0 rfl) ?_
      refine lv_iconst (v := (-1)) hx hb dX3_sum_95 (by decide) ?_
      refine lv_icmp_ne (tgt := 103) hx hb dX3_sum_96 (by decide) (fun c_96 => ?_) (fun c_96 => ?_)
      · skip
        refine lv_aload_n hx hb dX3_sum_103 rfl (lv_at hl 1 rfl) ?_
        refine lv_iload hx hb dX3_sum_104 (lv_at hl 0 rfl) ?_
        refine g_Rl (As := [.int (S.lies ((8 * x1) + (nI j)).toNatClampNeg)]) (rest := [.int ((8 * x2) + (nI j)), .ref (a 4)]) ⟨hx, hb, hml, hown, hts⟩ (c_X3_sumOf l D cI cJ a hd S (S.lies ((8 * x1) + (nI j)).toNatClampNeg) (nv_in (hI.2.2.1 _) c_96)) (cwV 1 hts gX3_sum_X3_sumOf rfl rfl rfl eeX3_sumOf ⟨Nat.le_of_ble_eq_true rfl, Nat.le_of_ble_eq_true rfl⟩) hK hN hP hI (va_recv hK hP (ci := 3) (q0 := 0) rfl rfl) hS rfl hl.1 rfl (Nat.le_of_ble_eq_true rfl) dX3_sum_106 ⟨Nat.zero_le _, Nat.zero_le _⟩ (fun H locs hP hS => ?_)
        refine va_last hx hb hK hP (mw_D hd) hS 4 1 (f := S.nums) rfl rfl (ix8' h2 (jin (jl8 c_67 (hI.2.1 _).2 hj) (by decide))) dX3_sum_109 (fun H locs hP _ hS => ?_)
        have hP : va_P D vwCl (mw cI cJ a (S.set_nums (vp_updL S.nums ((8 * x2) + (nI j)).toNatClampNeg (f_X3_sumOf S (S.lies ((8 * x1) + (nI j)).toNatClampNeg))))) H := by rw [← mw_set_nums]; exact hP
        have hI : MInv (S.set_nums (vp_updL S.nums ((8 * x2) + (nI j)).toNatClampNeg (f_X3_sumOf S (S.lies ((8 * x1) + (nI j)).toNatClampNeg)))) := MInv_set_nums hI
        refine lv_iinc (v := nI (j + 1)) (lv' := [(3, .int (nI (j + 1))), (4, .int (S.lies ((8 * x1) + (nI j)).toNatClampNeg)), (0, .ref (a 0)), (1, .int x1), (2, .int x2)]) hx hb dX3_sum_110 hl (k := 4) rfl (nI_1 _) (by decide) rfl (fun ls hl => ?_)
        refine lv_goto (tgt := 60) hx hb dX3_sum_113 (by decide) ?_
        exact ih (S.set_nums (vp_updL S.nums ((8 * x2) + (nI j)).toNatClampNeg (f_X3_sumOf S (S.lies ((8 * x1) + (nI j)).toNatClampNeg)))) x1 x2 (j + 1) hvx h2 (jl8 c_67 (hI.2.1 _).2 hj) (by omega) _ _ _ hP hI hS (lv_sub hl [2, 3, 4, 0] rfl) (hq.trans (by simp only [f_X3_sum_c60, if_neg c_67, if_neg c_96]))
      · skip
        refine lv_lconst (v := 0) hx hb dX3_sum_99 (by decide) ?_
        refine lv_goto (tgt := 109) hx hb dX3_sum_100 (by decide) ?_
        refine va_last hx hb hK hP (mw_D hd) hS 4 1 (f := S.nums) rfl rfl (ix8' h2 (jin (jl8 c_67 (hI.2.1 _).2 hj) (by decide))) dX3_sum_109 (fun H locs hP _ hS => ?_)
        have hP : va_P D vwCl (mw cI cJ a (S.set_nums (vp_updL S.nums ((8 * x2) + (nI j)).toNatClampNeg 0))) H := by rw [← mw_set_nums]; exact hP
        have hI : MInv (S.set_nums (vp_updL S.nums ((8 * x2) + (nI j)).toNatClampNeg 0)) := MInv_set_nums hI
        refine lv_iinc (v := nI (j + 1)) (lv' := [(3, .int (nI (j + 1))), (4, .int (S.lies ((8 * x1) + (nI j)).toNatClampNeg)), (0, .ref (a 0)), (1, .int x1), (2, .int x2)]) hx hb dX3_sum_110 hl (k := 4) rfl (nI_1 _) (by decide) rfl (fun ls hl => ?_)
        refine lv_goto (tgt := 60) hx hb dX3_sum_113 (by decide) ?_
        exact ih (S.set_nums (vp_updL S.nums ((8 * x2) + (nI j)).toNatClampNeg 0)) x1 x2 (j + 1) hvx h2 (jl8 c_67 (hI.2.1 _).2 hj) (by omega) _ _ _ hP hI hS (lv_sub hl [2, 3, 4, 0] rfl) (hq.trans (by simp only [f_X3_sum_c60, if_neg c_67, if_pos c_96]))
def f_X3_sum (S : MS) (x1 : Int32) : Int32 × MS := if (f_X3_isRow S x1) = 0 then (if (S.forms x1.toNatClampNeg) = 3 then (f_X3_sum_c60 9 ((f_X3_make S 2 (S.sizes x1.toNatClampNeg)).2) x1 ((f_X3_make S 2 (S.sizes x1.toNatClampNeg)).1) 0) else ((f_X3_with 1, S))) else (((f_X3_make S 2 1).1, ((f_X3_make S 2 1).2).set_nums (vp_updL (((f_X3_make S 2 1).2).nums) (8 * ((f_X3_make S 2 1).1)).toNatClampNeg (f_X3_sumOf ((f_X3_make S 2 1).2) x1))))
set_option maxHeartbeats 4000000 in
set_option maxRecDepth 100000 in
theorem c_X3_sum (l : Launch) (D : va_G) (cI cJ : ClassId) (a : Nat → Nat) (hd : ∀ i j, i < 10 → j < 10 → a i = a j → i = j) (S : MS) (x1 : Int32) (hvx : vp_in x1 60) (hm : S.vals.toInt < 60) : GWi l yX3_sum wsX3_sum rmX3_sum [.ref (a 0), .int x1] D (mw_tys cI cJ) (mw cI cJ a) MInv (mA a) S (f_X3_sum S x1) := by
  refine GB_of (cc := cX3_sum) (maxL := 5) (ret := (some .int)) (by decide) rfl (Nat.le_of_ble_eq_true rfl) ?_
  intro p e s m below meth c C hP hI ls hl
  obtain ⟨hx, hb, hr, hlocks, hml, hown, hts, hK, hN⟩ := id C
  have hS : va_S (mA a) s.heap s.heap [] := va_S.rf
  have hl : lv_has ls 5 [(0, .ref (a 0)), (1, .int x1)] := hl
  have hv0 : vp_in S.vals 60 := in2 hI.1.1 hm
  refine lv_aload_n hx hb dX3_sum_0 rfl (lv_at hl 0 rfl) ?_
  refine lv_iload_n hx hb dX3_sum_1 rfl (lv_at hl 1 rfl) ?_
  refine g_Ri (As := [.int x1]) (rest := []) ⟨hx, hb, hml, hown, hts⟩ (c_X3_isRow l D cI cJ a hd S x1 (in_lt hvx)) (cwV 1 hts gX3_sum_X3_isRow rfl rfl rfl eeX3_isRow ⟨Nat.le_of_ble_eq_true rfl, Nat.le_of_ble_eq_true rfl⟩) hK hN hP hI (va_recv hK hP (ci := 3) (q0 := 0) rfl rfl) hS rfl hl.1 rfl (Nat.le_of_ble_eq_true rfl) dX3_sum_2 ⟨Nat.zero_le _, Nat.zero_le _⟩ (fun H locs hP hS => ?_)
  refine lv_if_eq (tgt := 31) hx hb dX3_sum_5 (by decide) (fun c_5 => ?_) (fun c_5 => ?_)
  · skip
    refine lv_aload_n hx hb dX3_sum_31 rfl (lv_at hl 0 rfl) ?_
    refine va_get (D := D) (ci := 3) (v := .ref (a 1)) (C := RX3) (T := TX3) (N := 13) hx hb hts iwX3_sum hown hK hP 0 rfl rfl 1 (by decide) (hts (.fieldLink RX3 7 "LoomPanelModel" "forms" "[I") flX3_sum_7) (fun _ h9 => h9) rfl dX3_sum_32 ?_
    refine lv_iload_n hx hb dX3_sum_35 rfl (lv_at hl 1 rfl) ?_
    refine va_iald hx hb hK hP 1 0 (f := S.forms) rfl rfl hvx dX3_sum_36 ?_
    refine lv_iconst (v := 3) hx hb dX3_sum_37 (by decide) ?_
    refine lv_icmp_eq (tgt := 46) hx hb dX3_sum_38 (by decide) (fun c_38 => ?_) (fun c_38 => ?_)
    · skip
      refine lv_aload_n hx hb dX3_sum_46 rfl (lv_at hl 0 rfl) ?_
      refine lv_iconst (v := 2) hx hb dX3_sum_47 (by decide) ?_
      refine lv_aload_n hx hb dX3_sum_48 rfl (lv_at hl 0 rfl) ?_
      refine va_get (D := D) (ci := 3) (v := .ref (a 2)) (C := RX3) (T := TX3) (N := 13) hx hb hts iwX3_sum hown hK hP 0 rfl rfl 2 (by decide) (hts (.fieldLink RX3 13 "LoomPanelModel" "sizes" "[I") flX3_sum_13) (fun _ h9 => h9) rfl dX3_sum_49 ?_
      refine lv_iload_n hx hb dX3_sum_52 rfl (lv_at hl 1 rfl) ?_
      refine va_iald hx hb hK hP 2 0 (f := S.sizes) rfl rfl hvx dX3_sum_53 ?_
      refine g_Wi (As := [.int 2, .int (S.sizes x1.toNatClampNeg)]) (rest := []) ⟨hx, hb, hml, hown, hts⟩ (c_X3_make l D cI cJ a hd S 2 (S.sizes x1.toNatClampNeg) hm (hI.2.1 _)) (cwV 2 hts gX3_sum_X3_make rfl rfl rfl eeX3_make ⟨Nat.le_of_ble_eq_true rfl, Nat.le_of_ble_eq_true rfl⟩) hK hN hP hI (va_recv hK hP (ci := 3) (q0 := 0) rfl rfl) hS rfl hl.1 rfl (Nat.le_of_ble_eq_true rfl) dX3_sum_54 ⟨Nat.zero_le _, Nat.zero_le _⟩ (fun H locs hI hP hS => ?_)
      refine lv_istore_n (lv' := [(2, .int ((f_X3_make S 2 (S.sizes x1.toNatClampNeg)).1)), (0, .ref (a 0)), (1, .int x1)]) hx hb dX3_sum_57 rfl hl (by decide) rfl (fun ls hl => ?_)
      refine lv_iconst (v := 0) hx hb dX3_sum_58 (by decide) ?_
      refine lv_istore_n (lv' := [(3, .int 0), (2, .int ((f_X3_make S 2 (S.sizes x1.toNatClampNeg)).1)), (0, .ref (a 0)), (1, .int x1)]) hx hb dX3_sum_59 rfl hl (by decide) rfl (fun ls hl => ?_)
      exact w_X3_sum_c60 hd C 9 ((f_X3_make S 2 (S.sizes x1.toNatClampNeg)).2) x1 ((f_X3_make S 2 (S.sizes x1.toNatClampNeg)).1) 0 hvx (by rw [make_fst]; exact hv0) (Nat.zero_le _) rfl _ _ _ hP hI hS (lv_sub hl [2, 3, 1, 0] rfl) (by simp only [f_X3_sum, if_pos c_5, if_pos c_38])
    · skip
      refine lv_iconst (v := 1) hx hb dX3_sum_41 (by decide) ?_
      refine g_Si (As := [.int 1]) (rest := []) ⟨hx, hb, hml, hown, hts⟩ (c_X3_with l 1) (va_cwS 1 hts gX3_sum_X3_with rfl rfl rfl esX3_with ⟨Nat.le_of_ble_eq_true rfl, Nat.le_of_ble_eq_true rfl⟩) hP hS rfl hl.1 rfl (Nat.le_of_ble_eq_true rfl) dX3_sum_42 ⟨Nat.zero_le _, Nat.zero_le _⟩ (fun H locs hP hS => ?_)
      exact r_Wi hx hb hr hlocks hP hI hS (by simp only [f_X3_sum, if_pos c_5, if_neg c_38]) dX3_sum_45
  · skip
    refine lv_aload_n hx hb dX3_sum_8 rfl (lv_at hl 0 rfl) ?_
    refine lv_iconst (v := 2) hx hb dX3_sum_9 (by decide) ?_
    refine lv_iconst (v := 1) hx hb dX3_sum_10 (by decide) ?_
    refine g_Wi (As := [.int 2, .int 1]) (rest := []) ⟨hx, hb, hml, hown, hts⟩ (c_X3_make l D cI cJ a hd S 2 1 hm (by decide)) (cwV 2 hts gX3_sum_X3_make rfl rfl rfl eeX3_make ⟨Nat.le_of_ble_eq_true rfl, Nat.le_of_ble_eq_true rfl⟩) hK hN hP hI (va_recv hK hP (ci := 3) (q0 := 0) rfl rfl) hS rfl hl.1 rfl (Nat.le_of_ble_eq_true rfl) dX3_sum_11 ⟨Nat.zero_le _, Nat.zero_le _⟩ (fun H locs hI hP hS => ?_)
    refine lv_istore_n (lv' := [(2, .int ((f_X3_make S 2 1).1)), (0, .ref (a 0)), (1, .int x1)]) hx hb dX3_sum_14 rfl hl (by decide) rfl (fun ls hl => ?_)
    refine lv_aload_n hx hb dX3_sum_15 rfl (lv_at hl 1 rfl) ?_
    refine va_get (D := D) (ci := 3) (v := .ref (a 4)) (C := RX3) (T := TX3) (N := 13) hx hb hts iwX3_sum hown hK hP 0 rfl rfl 4 (by decide) (hts (.fieldLink RX3 19 "LoomPanelModel" "numbers" "[J") flX3_sum_19) (fun _ h9 => h9) rfl dX3_sum_16 ?_
    refine lv_bipush (v := 8) hx hb dX3_sum_19 (by decide) ?_
    refine lv_iload_n hx hb dX3_sum_21 rfl (lv_at hl 0 rfl) ?_
    refine lv_imul hx hb dX3_sum_22 ?_
    refine lv_aload_n hx hb dX3_sum_23 rfl (lv_at hl 1 rfl) ?_
    refine lv_iload_n hx hb dX3_sum_24 rfl (lv_at hl 2 rfl) ?_
    refine g_Rl (As := [.int x1]) (rest := [.int (8 * ((f_X3_make S 2 1).1)), .ref (a 4)]) ⟨hx, hb, hml, hown, hts⟩ (c_X3_sumOf l D cI cJ a hd ((f_X3_make S 2 1).2) x1 hvx) (cwV 1 hts gX3_sum_X3_sumOf rfl rfl rfl eeX3_sumOf ⟨Nat.le_of_ble_eq_true rfl, Nat.le_of_ble_eq_true rfl⟩) hK hN hP hI (va_recv hK hP (ci := 3) (q0 := 0) rfl rfl) hS rfl hl.1 rfl (Nat.le_of_ble_eq_true rfl) dX3_sum_25 ⟨Nat.zero_le _, Nat.zero_le _⟩ (fun H locs hP hS => ?_)
    refine va_last hx hb hK hP (mw_D hd) hS 4 1 (f := ((f_X3_make S 2 1).2).nums) rfl rfl (ix80 (by rw [make_fst]; exact hv0)) dX3_sum_28 (fun H locs hP _ hS => ?_)
    have hP : va_P D vwCl (mw cI cJ a (((f_X3_make S 2 1).2).set_nums (vp_updL (((f_X3_make S 2 1).2).nums) (8 * ((f_X3_make S 2 1).1)).toNatClampNeg (f_X3_sumOf ((f_X3_make S 2 1).2) x1)))) H := by rw [← mw_set_nums]; exact hP
    have hI : MInv (((f_X3_make S 2 1).2).set_nums (vp_updL (((f_X3_make S 2 1).2).nums) (8 * ((f_X3_make S 2 1).1)).toNatClampNeg (f_X3_sumOf ((f_X3_make S 2 1).2) x1))) := MInv_set_nums hI
    refine lv_iload_n hx hb dX3_sum_29 rfl (lv_at hl 0 rfl) ?_
    exact r_Wi hx hb hr hlocks hP hI hS (by simp only [f_X3_sum, if_neg c_5]) dX3_sum_30
abbrev rmX3_turned : Room := { frames := 1, cells := 0, slots := 0, locals := 24 }
theorem eeX3_turned : yX3_turned.cls = RX3 ∧ yX3_turned.cls ≠ "java/lang/invoke/MethodHandle" ∧ yX3_turned.cls ≠ "java/lang/invoke/VarHandle" ∧ (parseMethodDescriptor yX3_turned.desc).map (fun d => d.parameters.length) = some 2 := by decide +kernel
theorem iwX3_turned : ∀ w ∈ u_ws RX3 TX3 13, w ∈ wsX3_turned := by decide +kernel
theorem flX3_turned_13 : Cond.fieldLink RX3 13 "LoomPanelModel" "sizes" "[I" ∈ wsX3_turned := by decide +kernel
theorem flX3_turned_19 : Cond.fieldLink RX3 19 "LoomPanelModel" "numbers" "[J" ∈ wsX3_turned := by decide +kernel
theorem flX3_turned_7 : Cond.fieldLink RX3 7 "LoomPanelModel" "forms" "[I" ∈ wsX3_turned := by decide +kernel
def f_X3_turned_c47 : Nat → MS → Int32 → Int32 → Int32 → Nat → Int32 × MS
  | 0, S, _, _, _, _ => (0, S)
  | n + 1, S, x1, x3, x4, j => if (S.sizes x1.toNatClampNeg) ≤ (nI j) then ((x4, S)) else (f_X3_turned_c47 n (S.set_nums (vp_updL S.nums ((8 * x4) + (nI j)).toNatClampNeg (f_X3_cut x3 (S.nums ((8 * x1) + (nI j)).toNatClampNeg)))) x1 x3 x4 (j + 1))
set_option maxHeartbeats 4000000 in
set_option maxRecDepth 100000 in
theorem w_X3_turned_c47 {l : Launch} {D : va_G} {cI cJ : ClassId} {a : Nat → Nat} (hd : ∀ i j, i < 10 → j < 10 → a i = a j → i = j) {p : Program} {e : Env} {s : State} {m : MethodId} {args : Array Value} {below : List Frame} {meth : Method} {c : Code} (C : GC p s m meth c cX3_turned (some .int) 6 RX3 wsX3_turned args D (mw_tys cI cJ)) {v : Int32 × MS} : ∀ (n : Nat) (S : MS) (x1 : Int32) (x3 : Int32) (x4 : Int32) (j : Nat) (hvx : vp_in x1 60) (h4 : vp_in x4 60) (hj : j ≤ 8) (hn : j + n = 9) (H : Heap) (locs : List Loc) (ls : Array Slot), va_P D vwCl (mw cI cJ a S) H → MInv S → va_S (mA a) s.heap H locs → lv_has ls 6 [(0, .ref (a 0)), (1, .int x1), (3, .int x3), (4, .int x4), (5, .int (nI j))] → v = f_X3_turned_c47 n S x1 x3 x4 j → W p l e rmX3_turned s m args below meth c H locs 0 0 (MQ below (va_Qi (fun r u => v = (r, u)) (GE D (mw cI cJ a) MInv) (mA a)) args s 0 0 (mA a)) (F0 m 47 ls []) := by
  obtain ⟨hx, hb, hr, hlocks, hml, hown, hts, hK, hN⟩ := id C
  intro n
  induction n with
  | zero =>
    intro S x1 x3 x4 j hvx h4 hj hn H locs ls hP hI hS hl hq
    exact absurd hn (by omega)
  | succ n ih =>
    intro S x1 x3 x4 j hvx h4 hj hn H locs ls hP hI hS hl hq
    refine lv_iload hx hb dX3_turned_47 (lv_at hl 4 rfl) ?_
    refine lv_aload_n hx hb dX3_turned_49 rfl (lv_at hl 0 rfl) ?_
    refine va_get (D := D) (ci := 3) (v := .ref (a 2)) (C := RX3) (T := TX3) (N := 13) hx hb hts iwX3_turned hown hK hP 0 rfl rfl 2 (by decide) (hts (.fieldLink RX3 13 "LoomPanelModel" "sizes" "[I") flX3_turned_13) (fun _ h9 => h9) rfl dX3_turned_50 ?_
    refine lv_iload_n hx hb dX3_turned_53 rfl (lv_at hl 1 rfl) ?_
    refine va_iald hx hb hK hP 2 0 (f := S.sizes) rfl rfl hvx dX3_turned_54 ?_
    refine lv_icmp_ge (tgt := 93) hx hb dX3_turned_55 (by decide) (fun c_55 => ?_) (fun c_55 => ?_)
    · skip
      refine lv_iload hx hb dX3_turned_93 (lv_at hl 3 rfl) ?_
      exact r_Wi hx hb hr hlocks hP hI hS (hq.trans (by simp only [f_X3_turned_c47, if_pos c_55])) dX3_turned_95
    · skip
      refine lv_aload_n hx hb dX3_turned_58 rfl (lv_at hl 0 rfl) ?_
      refine va_get (D := D) (ci := 3) (v := .ref (a 4)) (C := RX3) (T := TX3) (N := 13) hx hb hts iwX3_turned hown hK hP 0 rfl rfl 4 (by decide) (hts (.fieldLink RX3 19 "LoomPanelModel" "numbers" "[J") flX3_turned_19) (fun _ h9 => h9) rfl dX3_turned_59 ?_
      refine lv_bipush (v := 8) hx hb dX3_turned_62 (by decide) ?_
      refine lv_iload hx hb dX3_turned_64 (lv_at hl 3 rfl) ?_
      refine lv_imul hx hb dX3_turned_66 ?_
      refine lv_iload hx hb dX3_turned_67 (lv_at hl 4 rfl) ?_
      refine lv_iadd hx hb dX3_turned_69 ?_
      refine lv_iload_n hx hb dX3_turned_70 rfl (lv_at hl 2 rfl) ?_
      refine lv_aload_n hx hb dX3_turned_71 rfl (lv_at hl 0 rfl) ?_
      refine va_get (D := D) (ci := 3) (v := .ref (a 4)) (C := RX3) (T := TX3) (N := 13) hx hb hts iwX3_turned hown hK hP 0 rfl rfl 4 (by decide) (hts (.fieldLink RX3 19 "LoomPanelModel" "numbers" "[J") flX3_turned_19) (fun _ h9 => h9) rfl dX3_turned_72 ?_
      refine lv_bipush (v := 8) hx hb dX3_turned_75 (by decide) ?_
      refine lv_iload_n hx hb dX3_turned_77 rfl (lv_at hl 1 rfl) ?_
      refine lv_imul hx hb dX3_turned_78 ?_
      refine lv_iload hx hb dX3_turned_79 (lv_at hl 4 rfl) ?_
      refine lv_iadd hx hb dX3_turned_81 ?_
      refine va_lald hx hb hK hP 4 1 (f := S.nums) rfl rfl (ix8' hvx (jin (jl8 c_55 (hI.2.1 _).2 hj) (by decide))) dX3_turned_82 ?_
      refine g_Sl (As := [.int x3, .long (S.nums ((8 * x1) + (nI j)).toNatClampNeg)]) (rest := [.int ((8 * x4) + (nI j)), .ref (a 4)]) ⟨hx, hb, hml, hown, hts⟩ (c_X3_cut l x3 (S.nums ((8 * x1) + (nI j)).toNatClampNeg)) (va_cwS 2 hts gX3_turned_X3_cut rfl rfl rfl esX3_cut ⟨Nat.le_of_ble_eq_true rfl, Nat.le_of_ble_eq_true rfl⟩) hP hS rfl hl.1 rfl (Nat.le_of_ble_eq_true rfl) dX3_turned_83 ⟨Nat.zero_le _, Nat.zero_le _⟩ (fun H locs hP hS => ?_)
      refine va_last hx hb hK hP (mw_D hd) hS 4 1 (f := S.nums) rfl rfl (ix8' h4 (jin (jl8 c_55 (hI.2.1 _).2 hj) (by decide))) dX3_turned_86 (fun H locs hP _ hS => ?_)
      have hP : va_P D vwCl (mw cI cJ a (S.set_nums (vp_updL S.nums ((8 * x4) + (nI j)).toNatClampNeg (f_X3_cut x3 (S.nums ((8 * x1) + (nI j)).toNatClampNeg))))) H := by rw [← mw_set_nums]; exact hP
      have hI : MInv (S.set_nums (vp_updL S.nums ((8 * x4) + (nI j)).toNatClampNeg (f_X3_cut x3 (S.nums ((8 * x1) + (nI j)).toNatClampNeg)))) := MInv_set_nums hI
      refine lv_iinc (v := nI (j + 1)) (lv' := [(5, .int (nI (j + 1))), (0, .ref (a 0)), (1, .int x1), (3, .int x3), (4, .int x4)]) hx hb dX3_turned_87 hl (k := 4) rfl (nI_1 _) (by decide) rfl (fun ls hl => ?_)
      refine lv_goto (tgt := 47) hx hb dX3_turned_90 (by decide) ?_
      exact ih (S.set_nums (vp_updL S.nums ((8 * x4) + (nI j)).toNatClampNeg (f_X3_cut x3 (S.nums ((8 * x1) + (nI j)).toNatClampNeg)))) x1 x3 x4 (j + 1) hvx h4 (jl8 c_55 (hI.2.1 _).2 hj) (by omega) _ _ _ hP hI hS (lv_sub hl [1, 2, 3, 4, 0] rfl) (hq.trans (by simp only [f_X3_turned_c47, if_neg c_55]))
def f_X3_turned (S : MS) (x1 : Int32) (x2 : Int32) : Int32 × MS := if (f_X3_isRow S x1) = 0 then ((f_X3_with 1, S)) else (if (f_X3_isIn ((S.forms x1.toNatClampNeg) + x2) 0 2) = 0 then ((f_X3_with 1, S)) else (f_X3_turned_c47 9 ((f_X3_make S ((S.forms x1.toNatClampNeg) + x2) (S.sizes x1.toNatClampNeg)).2) x1 ((S.forms x1.toNatClampNeg) + x2) ((f_X3_make S ((S.forms x1.toNatClampNeg) + x2) (S.sizes x1.toNatClampNeg)).1) 0))
set_option maxHeartbeats 4000000 in
set_option maxRecDepth 100000 in
theorem c_X3_turned (l : Launch) (D : va_G) (cI cJ : ClassId) (a : Nat → Nat) (hd : ∀ i j, i < 10 → j < 10 → a i = a j → i = j) (S : MS) (x1 : Int32) (x2 : Int32) (hvx : vp_in x1 60) (hm : S.vals.toInt < 60) : GWi l yX3_turned wsX3_turned rmX3_turned [.ref (a 0), .int x1, .int x2] D (mw_tys cI cJ) (mw cI cJ a) MInv (mA a) S (f_X3_turned S x1 x2) := by
  refine GB_of (cc := cX3_turned) (maxL := 6) (ret := (some .int)) (by decide) rfl (Nat.le_of_ble_eq_true rfl) ?_
  intro p e s m below meth c C hP hI ls hl
  obtain ⟨hx, hb, hr, hlocks, hml, hown, hts, hK, hN⟩ := id C
  have hS : va_S (mA a) s.heap s.heap [] := va_S.rf
  have hl : lv_has ls 6 [(0, .ref (a 0)), (1, .int x1), (2, .int x2)] := hl
  have hv0 : vp_in S.vals 60 := in2 hI.1.1 hm
  refine lv_aload_n hx hb dX3_turned_0 rfl (lv_at hl 0 rfl) ?_
  refine va_get (D := D) (ci := 3) (v := .ref (a 1)) (C := RX3) (T := TX3) (N := 13) hx hb hts iwX3_turned hown hK hP 0 rfl rfl 1 (by decide) (hts (.fieldLink RX3 7 "LoomPanelModel" "forms" "[I") flX3_turned_7) (fun _ h9 => h9) rfl dX3_turned_1 ?_
  refine lv_iload_n hx hb dX3_turned_4 rfl (lv_at hl 1 rfl) ?_
  refine va_iald hx hb hK hP 1 0 (f := S.forms) rfl rfl hvx dX3_turned_5 ?_
  refine lv_iload_n hx hb dX3_turned_6 rfl (lv_at hl 2 rfl) ?_
  refine lv_iadd hx hb dX3_turned_7 ?_
  refine lv_istore_n (lv' := [(3, .int ((S.forms x1.toNatClampNeg) + x2)), (0, .ref (a 0)), (1, .int x1), (2, .int x2)]) hx hb dX3_turned_8 rfl hl (by decide) rfl (fun ls hl => ?_)
  refine lv_aload_n hx hb dX3_turned_9 rfl (lv_at hl 1 rfl) ?_
  refine lv_iload_n hx hb dX3_turned_10 rfl (lv_at hl 2 rfl) ?_
  refine g_Ri (As := [.int x1]) (rest := []) ⟨hx, hb, hml, hown, hts⟩ (c_X3_isRow l D cI cJ a hd S x1 (in_lt hvx)) (cwV 1 hts gX3_turned_X3_isRow rfl rfl rfl eeX3_isRow ⟨Nat.le_of_ble_eq_true rfl, Nat.le_of_ble_eq_true rfl⟩) hK hN hP hI (va_recv hK hP (ci := 3) (q0 := 0) rfl rfl) hS rfl hl.1 rfl (Nat.le_of_ble_eq_true rfl) dX3_turned_11 ⟨Nat.zero_le _, Nat.zero_le _⟩ (fun H locs hP hS => ?_)
  refine lv_if_eq (tgt := 26) hx hb dX3_turned_14 (by decide) (fun c_14 => ?_) (fun c_14 => ?_)
  · skip
    refine lv_iconst (v := 1) hx hb dX3_turned_26 (by decide) ?_
    refine g_Si (As := [.int 1]) (rest := []) ⟨hx, hb, hml, hown, hts⟩ (c_X3_with l 1) (va_cwS 1 hts gX3_turned_X3_with rfl rfl rfl esX3_with ⟨Nat.le_of_ble_eq_true rfl, Nat.le_of_ble_eq_true rfl⟩) hP hS rfl hl.1 rfl (Nat.le_of_ble_eq_true rfl) dX3_turned_27 ⟨Nat.zero_le _, Nat.zero_le _⟩ (fun H locs hP hS => ?_)
    exact r_Wi hx hb hr hlocks hP hI hS (by simp only [f_X3_turned, if_pos c_14]) dX3_turned_30
  · skip
    refine lv_iload_n hx hb dX3_turned_17 rfl (lv_at hl 0 rfl) ?_
    refine lv_iconst (v := 0) hx hb dX3_turned_18 (by decide) ?_
    refine lv_iconst (v := 2) hx hb dX3_turned_19 (by decide) ?_
    refine g_Si (As := [.int ((S.forms x1.toNatClampNeg) + x2), .int 0, .int 2]) (rest := []) ⟨hx, hb, hml, hown, hts⟩ (c_X3_isIn l ((S.forms x1.toNatClampNeg) + x2) 0 2) (va_cwS 3 hts gX3_turned_X3_isIn rfl rfl rfl esX3_isIn ⟨Nat.le_of_ble_eq_true rfl, Nat.le_of_ble_eq_true rfl⟩) hP hS rfl hl.1 rfl (Nat.le_of_ble_eq_true rfl) dX3_turned_20 ⟨Nat.zero_le _, Nat.zero_le _⟩ (fun H locs hP hS => ?_)
    refine lv_if_ne (tgt := 31) hx hb dX3_turned_23 (by decide) (fun c_23 => ?_) (fun c_23 => ?_)
    · skip
      refine lv_aload_n hx hb dX3_turned_31 rfl (lv_at hl 1 rfl) ?_
      refine lv_iload_n hx hb dX3_turned_32 rfl (lv_at hl 0 rfl) ?_
      refine lv_aload_n hx hb dX3_turned_33 rfl (lv_at hl 1 rfl) ?_
      refine va_get (D := D) (ci := 3) (v := .ref (a 2)) (C := RX3) (T := TX3) (N := 13) hx hb hts iwX3_turned hown hK hP 0 rfl rfl 2 (by decide) (hts (.fieldLink RX3 13 "LoomPanelModel" "sizes" "[I") flX3_turned_13) (fun _ h9 => h9) rfl dX3_turned_34 ?_
      refine lv_iload_n hx hb dX3_turned_37 rfl (lv_at hl 2 rfl) ?_
      refine va_iald hx hb hK hP 2 0 (f := S.sizes) rfl rfl hvx dX3_turned_38 ?_
      refine g_Wi (As := [.int ((S.forms x1.toNatClampNeg) + x2), .int (S.sizes x1.toNatClampNeg)]) (rest := []) ⟨hx, hb, hml, hown, hts⟩ (c_X3_make l D cI cJ a hd S ((S.forms x1.toNatClampNeg) + x2) (S.sizes x1.toNatClampNeg) hm (hI.2.1 _)) (cwV 2 hts gX3_turned_X3_make rfl rfl rfl eeX3_make ⟨Nat.le_of_ble_eq_true rfl, Nat.le_of_ble_eq_true rfl⟩) hK hN hP hI (va_recv hK hP (ci := 3) (q0 := 0) rfl rfl) hS rfl hl.1 rfl (Nat.le_of_ble_eq_true rfl) dX3_turned_39 ⟨Nat.zero_le _, Nat.zero_le _⟩ (fun H locs hI hP hS => ?_)
      refine lv_istore (lv' := [(4, .int ((f_X3_make S ((S.forms x1.toNatClampNeg) + x2) (S.sizes x1.toNatClampNeg)).1)), (3, .int ((S.forms x1.toNatClampNeg) + x2)), (0, .ref (a 0)), (1, .int x1), (2, .int x2)]) hx hb dX3_turned_42 hl (by decide) rfl (fun ls hl => ?_)
      refine lv_iconst (v := 0) hx hb dX3_turned_44 (by decide) ?_
      refine lv_istore (lv' := [(5, .int 0), (4, .int ((f_X3_make S ((S.forms x1.toNatClampNeg) + x2) (S.sizes x1.toNatClampNeg)).1)), (3, .int ((S.forms x1.toNatClampNeg) + x2)), (0, .ref (a 0)), (1, .int x1), (2, .int x2)]) hx hb dX3_turned_45 hl (by decide) rfl (fun ls hl => ?_)
      exact w_X3_turned_c47 hd C 9 ((f_X3_make S ((S.forms x1.toNatClampNeg) + x2) (S.sizes x1.toNatClampNeg)).2) x1 ((S.forms x1.toNatClampNeg) + x2) ((f_X3_make S ((S.forms x1.toNatClampNeg) + x2) (S.sizes x1.toNatClampNeg)).1) 0 hvx (by rw [make_fst]; exact hv0) (Nat.zero_le _) rfl _ _ _ hP hI hS (lv_sub hl [3, 4, 2, 1, 0] rfl) (by simp only [f_X3_turned, if_neg c_14, if_neg c_23])
    · skip
      refine lv_iconst (v := 1) hx hb dX3_turned_26 (by decide) ?_
      refine g_Si (As := [.int 1]) (rest := []) ⟨hx, hb, hml, hown, hts⟩ (c_X3_with l 1) (va_cwS 1 hts gX3_turned_X3_with rfl rfl rfl esX3_with ⟨Nat.le_of_ble_eq_true rfl, Nat.le_of_ble_eq_true rfl⟩) hP hS rfl hl.1 rfl (Nat.le_of_ble_eq_true rfl) dX3_turned_27 ⟨Nat.zero_le _, Nat.zero_le _⟩ (fun H locs hP hS => ?_)
      exact r_Wi hx hb hr hlocks hP hI hS (by simp only [f_X3_turned, if_neg c_14, if_pos c_23]) dX3_turned_30
abbrev rmX3_tap : Room := { frames := 1, cells := 0, slots := 0, locals := 22 }
theorem eeX3_tap : yX3_tap.cls = RX3 ∧ yX3_tap.cls ≠ "java/lang/invoke/MethodHandle" ∧ yX3_tap.cls ≠ "java/lang/invoke/VarHandle" ∧ (parseMethodDescriptor yX3_tap.desc).map (fun d => d.parameters.length) = some 2 := by decide +kernel
theorem iwX3_tap : ∀ w ∈ u_ws RX3 TX3 13, w ∈ wsX3_tap := by decide +kernel
theorem flX3_tap_13 : Cond.fieldLink RX3 13 "LoomPanelModel" "sizes" "[I" ∈ wsX3_tap := by decide +kernel
theorem flX3_tap_23 : Cond.fieldLink RX3 23 "LoomPanelModel" "lies" "[I" ∈ wsX3_tap := by decide +kernel
def f_X3_tap (S : MS) (x1 : Int32) (x2 : Int32) : Int32 := if x1 = (-1) then (f_X3_with 2) else (if (f_X3_hasPlaces S x1) = 0 then (f_X3_with 1) else (if (f_X3_isIn x2 0 ((S.sizes x1.toNatClampNeg) - 1)) = 0 then (f_X3_with 3) else (if (S.lies ((8 * x1) + x2).toNatClampNeg) = (-1) then (f_X3_with 2) else (S.lies ((8 * x1) + x2).toNatClampNeg))))
set_option maxHeartbeats 4000000 in
set_option maxRecDepth 100000 in
theorem c_X3_tap (l : Launch) (D : va_G) (cI cJ : ClassId) (a : Nat → Nat) (hd : ∀ i j, i < 10 → j < 10 → a i = a j → i = j) (S : MS) (x1 : Int32) (x2 : Int32) (hvx : NV x1) : GRi l yX3_tap wsX3_tap rmX3_tap [.ref (a 0), .int x1, .int x2] D (mw_tys cI cJ) (mw cI cJ a) MInv (mA a) S (f_X3_tap S x1 x2) := by
  refine GB_of (cc := cX3_tap) (maxL := 4) (ret := (some .int)) (by decide) rfl (Nat.le_of_ble_eq_true rfl) ?_
  intro p e s m below meth c C hP hI ls hl
  obtain ⟨hx, hb, hr, hlocks, hml, hown, hts, hK, hN⟩ := id C
  have hS : va_S (mA a) s.heap s.heap [] := va_S.rf
  have hl : lv_has ls 4 [(0, .ref (a 0)), (1, .int x1), (2, .int x2)] := hl
  refine lv_iload_n hx hb dX3_tap_0 rfl (lv_at hl 1 rfl) ?_
  refine lv_iconst (v := (-1)) hx hb dX3_tap_1 (by decide) ?_
  refine lv_icmp_ne (tgt := 10) hx hb dX3_tap_2 (by decide) (fun c_2 => ?_) (fun c_2 => ?_)
  · skip
    refine lv_aload_n hx hb dX3_tap_10 rfl (lv_at hl 0 rfl) ?_
    refine lv_iload_n hx hb dX3_tap_11 rfl (lv_at hl 1 rfl) ?_
    refine g_Ri (As := [.int x1]) (rest := []) ⟨hx, hb, hml, hown, hts⟩ (c_X3_hasPlaces l D cI cJ a hd S x1 (nv_in hvx c_2)) (cwV 1 hts gX3_tap_X3_hasPlaces rfl rfl rfl eeX3_hasPlaces ⟨Nat.le_of_ble_eq_true rfl, Nat.le_of_ble_eq_true rfl⟩) hK hN hP hI (va_recv hK hP (ci := 3) (q0 := 0) rfl rfl) hS rfl hl.1 rfl (Nat.le_of_ble_eq_true rfl) dX3_tap_12 ⟨Nat.zero_le _, Nat.zero_le _⟩ (fun H locs hP hS => ?_)
    refine lv_if_ne (tgt := 23) hx hb dX3_tap_15 (by decide) (fun c_15 => ?_) (fun c_15 => ?_)
    · skip
      refine lv_iload_n hx hb dX3_tap_23 rfl (lv_at hl 2 rfl) ?_
      refine lv_iconst (v := 0) hx hb dX3_tap_24 (by decide) ?_
      refine lv_aload_n hx hb dX3_tap_25 rfl (lv_at hl 0 rfl) ?_
      refine va_get (D := D) (ci := 3) (v := .ref (a 2)) (C := RX3) (T := TX3) (N := 13) hx hb hts iwX3_tap hown hK hP 0 rfl rfl 2 (by decide) (hts (.fieldLink RX3 13 "LoomPanelModel" "sizes" "[I") flX3_tap_13) (fun _ h9 => h9) rfl dX3_tap_26 ?_
      refine lv_iload_n hx hb dX3_tap_29 rfl (lv_at hl 1 rfl) ?_
      refine va_iald hx hb hK hP 2 0 (f := S.sizes) rfl rfl (nv_in hvx c_2) dX3_tap_30 ?_
      refine lv_iconst (v := 1) hx hb dX3_tap_31 (by decide) ?_
      refine lv_isub hx hb dX3_tap_32 ?_
      refine g_Si (As := [.int x2, .int 0, .int ((S.sizes x1.toNatClampNeg) - 1)]) (rest := []) ⟨hx, hb, hml, hown, hts⟩ (c_X3_isIn l x2 0 ((S.sizes x1.toNatClampNeg) - 1)) (va_cwS 3 hts gX3_tap_X3_isIn rfl rfl rfl esX3_isIn ⟨Nat.le_of_ble_eq_true rfl, Nat.le_of_ble_eq_true rfl⟩) hP hS rfl hl.1 rfl (Nat.le_of_ble_eq_true rfl) dX3_tap_33 ⟨Nat.zero_le _, Nat.zero_le _⟩ (fun H locs hP hS => ?_)
      refine lv_if_ne (tgt := 44) hx hb dX3_tap_36 (by decide) (fun c_36 => ?_) (fun c_36 => ?_)
      · skip
        refine lv_aload_n hx hb dX3_tap_44 rfl (lv_at hl 0 rfl) ?_
        refine va_get (D := D) (ci := 3) (v := .ref (a 5)) (C := RX3) (T := TX3) (N := 13) hx hb hts iwX3_tap hown hK hP 0 rfl rfl 5 (by decide) (hts (.fieldLink RX3 23 "LoomPanelModel" "lies" "[I") flX3_tap_23) (fun _ h9 => h9) rfl dX3_tap_45 ?_
        refine lv_bipush (v := 8) hx hb dX3_tap_48 (by decide) ?_
        refine lv_iload_n hx hb dX3_tap_50 rfl (lv_at hl 1 rfl) ?_
        refine lv_imul hx hb dX3_tap_51 ?_
        refine lv_iload_n hx hb dX3_tap_52 rfl (lv_at hl 2 rfl) ?_
        refine lv_iadd hx hb dX3_tap_53 ?_
        refine va_iald hx hb hK hP 5 0 (f := S.lies) rfl rfl (ix8' (nv_in hvx c_2) (place_in hI c_36)) dX3_tap_54 ?_
        refine lv_istore_n (lv' := [(3, .int (S.lies ((8 * x1) + x2).toNatClampNeg)), (0, .ref (a 0)), (1, .int x1), (2, .int x2)]) hx hb dX3_tap_55 rfl hl (by decide) rfl (fun ls hl => ?_)
        refine lv_iload_n hx hb dX3_tap_56 rfl (lv_at hl 0 rfl) ?_
        refine lv_iconst (v := (-1)) hx hb dX3_tap_57 (by decide) ?_
        refine lv_icmp_ne (tgt := 68) hx hb dX3_tap_58 (by decide) (fun c_58 => ?_) (fun c_58 => ?_)
        · skip
          refine lv_iload_n hx hb dX3_tap_68 rfl (lv_at hl 0 rfl) ?_
          exact r_Ri hx hb hr hlocks hP hI hS (by simp only [f_X3_tap, if_neg c_2, if_neg c_15, if_neg c_36, if_neg c_58]) dX3_tap_69
        · skip
          refine lv_iconst (v := 2) hx hb dX3_tap_61 (by decide) ?_
          refine g_Si (As := [.int 2]) (rest := []) ⟨hx, hb, hml, hown, hts⟩ (c_X3_with l 2) (va_cwS 1 hts gX3_tap_X3_with rfl rfl rfl esX3_with ⟨Nat.le_of_ble_eq_true rfl, Nat.le_of_ble_eq_true rfl⟩) hP hS rfl hl.1 rfl (Nat.le_of_ble_eq_true rfl) dX3_tap_62 ⟨Nat.zero_le _, Nat.zero_le _⟩ (fun H locs hP hS => ?_)
          refine lv_goto (tgt := 69) hx hb dX3_tap_65 (by decide) ?_
          exact r_Ri hx hb hr hlocks hP hI hS (by simp only [f_X3_tap, if_neg c_2, if_neg c_15, if_neg c_36, if_pos c_58]) dX3_tap_69
      · skip
        refine lv_iconst (v := 3) hx hb dX3_tap_39 (by decide) ?_
        refine g_Si (As := [.int 3]) (rest := []) ⟨hx, hb, hml, hown, hts⟩ (c_X3_with l 3) (va_cwS 1 hts gX3_tap_X3_with rfl rfl rfl esX3_with ⟨Nat.le_of_ble_eq_true rfl, Nat.le_of_ble_eq_true rfl⟩) hP hS rfl hl.1 rfl (Nat.le_of_ble_eq_true rfl) dX3_tap_40 ⟨Nat.zero_le _, Nat.zero_le _⟩ (fun H locs hP hS => ?_)
        exact r_Ri hx hb hr hlocks hP hI hS (by simp only [f_X3_tap, if_neg c_2, if_neg c_15, if_pos c_36]) dX3_tap_43
    · skip
      refine lv_iconst (v := 1) hx hb dX3_tap_18 (by decide) ?_
      refine g_Si (As := [.int 1]) (rest := []) ⟨hx, hb, hml, hown, hts⟩ (c_X3_with l 1) (va_cwS 1 hts gX3_tap_X3_with rfl rfl rfl esX3_with ⟨Nat.le_of_ble_eq_true rfl, Nat.le_of_ble_eq_true rfl⟩) hP hS rfl hl.1 rfl (Nat.le_of_ble_eq_true rfl) dX3_tap_19 ⟨Nat.zero_le _, Nat.zero_le _⟩ (fun H locs hP hS => ?_)
      exact r_Ri hx hb hr hlocks hP hI hS (by simp only [f_X3_tap, if_neg c_2, if_pos c_15]) dX3_tap_22
  · skip
    refine lv_iconst (v := 2) hx hb dX3_tap_5 (by decide) ?_
    refine g_Si (As := [.int 2]) (rest := []) ⟨hx, hb, hml, hown, hts⟩ (c_X3_with l 2) (va_cwS 1 hts gX3_tap_X3_with rfl rfl rfl esX3_with ⟨Nat.le_of_ble_eq_true rfl, Nat.le_of_ble_eq_true rfl⟩) hP hS rfl hl.1 rfl (Nat.le_of_ble_eq_true rfl) dX3_tap_6 ⟨Nat.zero_le _, Nat.zero_le _⟩ (fun H locs hP hS => ?_)
    exact r_Ri hx hb hr hlocks hP hI hS (by simp only [f_X3_tap, if_pos c_2]) dX3_tap_9
abbrev rmX3_lay : Room := { frames := 3, cells := 0, slots := 0, locals := 65 }
theorem eeX3_lay : yX3_lay.cls = RX3 ∧ yX3_lay.cls ≠ "java/lang/invoke/MethodHandle" ∧ yX3_lay.cls ≠ "java/lang/invoke/VarHandle" ∧ (parseMethodDescriptor yX3_lay.desc).map (fun d => d.parameters.length) = some 3 := by decide +kernel
theorem iwX3_lay : ∀ w ∈ u_ws RX3 TX3 13, w ∈ wsX3_lay := by decide +kernel
theorem flX3_lay_13 : Cond.fieldLink RX3 13 "LoomPanelModel" "sizes" "[I" ∈ wsX3_lay := by decide +kernel
theorem flX3_lay_23 : Cond.fieldLink RX3 23 "LoomPanelModel" "lies" "[I" ∈ wsX3_lay := by decide +kernel
theorem flX3_lay_7 : Cond.fieldLink RX3 7 "LoomPanelModel" "forms" "[I" ∈ wsX3_lay := by decide +kernel
def f_X3_lay_c77 (S : MS) (x1 : Int32) (x2 : Int32) (x3 : Int32) : Int32 × MS := if x1 = (-1) then ((f_X3_with 2, S)) else (if (f_X3_hasPlaces S x1) = 0 then ((f_X3_with 1, S)) else (if (f_X3_isIn x3 0 ((S.sizes x1.toNatClampNeg) - 1)) = 0 then ((f_X3_with 3, S)) else (if x2 = (-1) then ((x1, S.set_lies (upd S.lies ((8 * x1) + x3).toNatClampNeg x2))) else (if (f_X3_takes S x1 x2) = 0 then ((f_X3_with 4, S)) else ((x1, S.set_lies (upd S.lies ((8 * x1) + x3).toNatClampNeg x2)))))))
set_option maxHeartbeats 4000000 in
set_option maxRecDepth 100000 in
theorem w_X3_lay_c77 {l : Launch} {D : va_G} {cI cJ : ClassId} {a : Nat → Nat} (hd : ∀ i j, i < 10 → j < 10 → a i = a j → i = j) {p : Program} {e : Env} {s : State} {m : MethodId} {args : Array Value} {below : List Frame} {meth : Method} {c : Code} (C : GC p s m meth c cX3_lay (some .int) 5 RX3 wsX3_lay args D (mw_tys cI cJ)) {v : Int32 × MS} : ∀ (S : MS) (x1 : Int32) (x2 : Int32) (x3 : Int32) (hvx : NV x1) (hy : NV x2) (H : Heap) (locs : List Loc) (ls : Array Slot), va_P D vwCl (mw cI cJ a S) H → MInv S → va_S (mA a) s.heap H locs → lv_has ls 5 [(0, .ref (a 0)), (1, .int x1), (2, .int x2), (3, .int x3)] → v = f_X3_lay_c77 S x1 x2 x3 → W p l e rmX3_lay s m args below meth c H locs 0 0 (MQ below (va_Qi (fun r u => v = (r, u)) (GE D (mw cI cJ a) MInv) (mA a)) args s 0 0 (mA a)) (F0 m 77 ls []) := by
  obtain ⟨hx, hb, hr, hlocks, hml, hown, hts, hK, hN⟩ := id C
  intro S x1 x2 x3 hvx hy H locs ls hP hI hS hl hq
  refine lv_iload_n hx hb dX3_lay_77 rfl (lv_at hl 1 rfl) ?_
  refine lv_iconst (v := (-1)) hx hb dX3_lay_78 (by decide) ?_
  refine lv_icmp_ne (tgt := 87) hx hb dX3_lay_79 (by decide) (fun c_79 => ?_) (fun c_79 => ?_)
  · skip
    refine lv_aload_n hx hb dX3_lay_87 rfl (lv_at hl 0 rfl) ?_
    refine lv_iload_n hx hb dX3_lay_88 rfl (lv_at hl 1 rfl) ?_
    refine g_Ri (As := [.int x1]) (rest := []) ⟨hx, hb, hml, hown, hts⟩ (c_X3_hasPlaces l D cI cJ a hd S x1 (nv_in hvx c_79)) (cwV 1 hts gX3_lay_X3_hasPlaces rfl rfl rfl eeX3_hasPlaces ⟨Nat.le_of_ble_eq_true rfl, Nat.le_of_ble_eq_true rfl⟩) hK hN hP hI (va_recv hK hP (ci := 3) (q0 := 0) rfl rfl) hS rfl hl.1 rfl (Nat.le_of_ble_eq_true rfl) dX3_lay_89 ⟨Nat.zero_le _, Nat.zero_le _⟩ (fun H locs hP hS => ?_)
    refine lv_if_ne (tgt := 100) hx hb dX3_lay_92 (by decide) (fun c_92 => ?_) (fun c_92 => ?_)
    · skip
      refine lv_iload_n hx hb dX3_lay_100 rfl (lv_at hl 3 rfl) ?_
      refine lv_iconst (v := 0) hx hb dX3_lay_101 (by decide) ?_
      refine lv_aload_n hx hb dX3_lay_102 rfl (lv_at hl 0 rfl) ?_
      refine va_get (D := D) (ci := 3) (v := .ref (a 2)) (C := RX3) (T := TX3) (N := 13) hx hb hts iwX3_lay hown hK hP 0 rfl rfl 2 (by decide) (hts (.fieldLink RX3 13 "LoomPanelModel" "sizes" "[I") flX3_lay_13) (fun _ h9 => h9) rfl dX3_lay_103 ?_
      refine lv_iload_n hx hb dX3_lay_106 rfl (lv_at hl 1 rfl) ?_
      refine va_iald hx hb hK hP 2 0 (f := S.sizes) rfl rfl (nv_in hvx c_79) dX3_lay_107 ?_
      refine lv_iconst (v := 1) hx hb dX3_lay_108 (by decide) ?_
      refine lv_isub hx hb dX3_lay_109 ?_
      refine g_Si (As := [.int x3, .int 0, .int ((S.sizes x1.toNatClampNeg) - 1)]) (rest := []) ⟨hx, hb, hml, hown, hts⟩ (c_X3_isIn l x3 0 ((S.sizes x1.toNatClampNeg) - 1)) (va_cwS 3 hts gX3_lay_X3_isIn rfl rfl rfl esX3_isIn ⟨Nat.le_of_ble_eq_true rfl, Nat.le_of_ble_eq_true rfl⟩) hP hS rfl hl.1 rfl (Nat.le_of_ble_eq_true rfl) dX3_lay_110 ⟨Nat.zero_le _, Nat.zero_le _⟩ (fun H locs hP hS => ?_)
      refine lv_if_ne (tgt := 121) hx hb dX3_lay_113 (by decide) (fun c_113 => ?_) (fun c_113 => ?_)
      · skip
        refine lv_iload_n hx hb dX3_lay_121 rfl (lv_at hl 2 rfl) ?_
        refine lv_iconst (v := (-1)) hx hb dX3_lay_122 (by decide) ?_
        refine lv_icmp_eq (tgt := 140) hx hb dX3_lay_123 (by decide) (fun c_123 => ?_) (fun c_123 => ?_)
        · skip
          refine lv_aload_n hx hb dX3_lay_140 rfl (lv_at hl 0 rfl) ?_
          refine va_get (D := D) (ci := 3) (v := .ref (a 5)) (C := RX3) (T := TX3) (N := 13) hx hb hts iwX3_lay hown hK hP 0 rfl rfl 5 (by decide) (hts (.fieldLink RX3 23 "LoomPanelModel" "lies" "[I") flX3_lay_23) (fun _ h9 => h9) rfl dX3_lay_141 ?_
          refine lv_bipush (v := 8) hx hb dX3_lay_144 (by decide) ?_
          refine lv_iload_n hx hb dX3_lay_146 rfl (lv_at hl 1 rfl) ?_
          refine lv_imul hx hb dX3_lay_147 ?_
          refine lv_iload_n hx hb dX3_lay_148 rfl (lv_at hl 3 rfl) ?_
          refine lv_iadd hx hb dX3_lay_149 ?_
          refine lv_iload_n hx hb dX3_lay_150 rfl (lv_at hl 2 rfl) ?_
          refine va_iast hx hb hK hP (mw_D hd) hS 5 0 (f := S.lies) rfl rfl (ix8' (nv_in hvx c_79) (place_in hI c_113)) dX3_lay_151 (fun H locs hP _ hS => ?_)
          have hP : va_P D vwCl (mw cI cJ a (S.set_lies (upd S.lies ((8 * x1) + x3).toNatClampNeg x2))) H := by rw [← mw_set_lies]; exact hP
          have hI : MInv (S.set_lies (upd S.lies ((8 * x1) + x3).toNatClampNeg x2)) := lies_set hI hy
          refine lv_iload_n hx hb dX3_lay_152 rfl (lv_at hl 1 rfl) ?_
          exact r_Wi hx hb hr hlocks hP hI hS (hq.trans (by simp only [f_X3_lay_c77, if_neg c_79, if_neg c_92, if_neg c_113, if_pos c_123])) dX3_lay_153
        · skip
          refine lv_aload_n hx hb dX3_lay_126 rfl (lv_at hl 0 rfl) ?_
          refine lv_iload_n hx hb dX3_lay_127 rfl (lv_at hl 1 rfl) ?_
          refine lv_iload_n hx hb dX3_lay_128 rfl (lv_at hl 2 rfl) ?_
          refine g_Ri (As := [.int x1, .int x2]) (rest := []) ⟨hx, hb, hml, hown, hts⟩ (c_X3_takes l D cI cJ a hd S x1 x2 (nv_in hvx c_79) hy.2) (cwV 2 hts gX3_lay_X3_takes rfl rfl rfl eeX3_takes ⟨Nat.le_of_ble_eq_true rfl, Nat.le_of_ble_eq_true rfl⟩) hK hN hP hI (va_recv hK hP (ci := 3) (q0 := 0) rfl rfl) hS rfl hl.1 rfl (Nat.le_of_ble_eq_true rfl) dX3_lay_129 ⟨Nat.zero_le _, Nat.zero_le _⟩ (fun H locs hP hS => ?_)
          refine lv_if_ne (tgt := 140) hx hb dX3_lay_132 (by decide) (fun c_132 => ?_) (fun c_132 => ?_)
          · skip
            refine lv_aload_n hx hb dX3_lay_140 rfl (lv_at hl 0 rfl) ?_
            refine va_get (D := D) (ci := 3) (v := .ref (a 5)) (C := RX3) (T := TX3) (N := 13) hx hb hts iwX3_lay hown hK hP 0 rfl rfl 5 (by decide) (hts (.fieldLink RX3 23 "LoomPanelModel" "lies" "[I") flX3_lay_23) (fun _ h9 => h9) rfl dX3_lay_141 ?_
            refine lv_bipush (v := 8) hx hb dX3_lay_144 (by decide) ?_
            refine lv_iload_n hx hb dX3_lay_146 rfl (lv_at hl 1 rfl) ?_
            refine lv_imul hx hb dX3_lay_147 ?_
            refine lv_iload_n hx hb dX3_lay_148 rfl (lv_at hl 3 rfl) ?_
            refine lv_iadd hx hb dX3_lay_149 ?_
            refine lv_iload_n hx hb dX3_lay_150 rfl (lv_at hl 2 rfl) ?_
            refine va_iast hx hb hK hP (mw_D hd) hS 5 0 (f := S.lies) rfl rfl (ix8' (nv_in hvx c_79) (place_in hI c_113)) dX3_lay_151 (fun H locs hP _ hS => ?_)
            have hP : va_P D vwCl (mw cI cJ a (S.set_lies (upd S.lies ((8 * x1) + x3).toNatClampNeg x2))) H := by rw [← mw_set_lies]; exact hP
            have hI : MInv (S.set_lies (upd S.lies ((8 * x1) + x3).toNatClampNeg x2)) := lies_set hI hy
            refine lv_iload_n hx hb dX3_lay_152 rfl (lv_at hl 1 rfl) ?_
            exact r_Wi hx hb hr hlocks hP hI hS (hq.trans (by simp only [f_X3_lay_c77, if_neg c_79, if_neg c_92, if_neg c_113, if_neg c_123, if_neg c_132])) dX3_lay_153
          · skip
            refine lv_iconst (v := 4) hx hb dX3_lay_135 (by decide) ?_
            refine g_Si (As := [.int 4]) (rest := []) ⟨hx, hb, hml, hown, hts⟩ (c_X3_with l 4) (va_cwS 1 hts gX3_lay_X3_with rfl rfl rfl esX3_with ⟨Nat.le_of_ble_eq_true rfl, Nat.le_of_ble_eq_true rfl⟩) hP hS rfl hl.1 rfl (Nat.le_of_ble_eq_true rfl) dX3_lay_136 ⟨Nat.zero_le _, Nat.zero_le _⟩ (fun H locs hP hS => ?_)
            exact r_Wi hx hb hr hlocks hP hI hS (hq.trans (by simp only [f_X3_lay_c77, if_neg c_79, if_neg c_92, if_neg c_113, if_neg c_123, if_pos c_132])) dX3_lay_139
      · skip
        refine lv_iconst (v := 3) hx hb dX3_lay_116 (by decide) ?_
        refine g_Si (As := [.int 3]) (rest := []) ⟨hx, hb, hml, hown, hts⟩ (c_X3_with l 3) (va_cwS 1 hts gX3_lay_X3_with rfl rfl rfl esX3_with ⟨Nat.le_of_ble_eq_true rfl, Nat.le_of_ble_eq_true rfl⟩) hP hS rfl hl.1 rfl (Nat.le_of_ble_eq_true rfl) dX3_lay_117 ⟨Nat.zero_le _, Nat.zero_le _⟩ (fun H locs hP hS => ?_)
        exact r_Wi hx hb hr hlocks hP hI hS (hq.trans (by simp only [f_X3_lay_c77, if_neg c_79, if_neg c_92, if_pos c_113])) dX3_lay_120
    · skip
      refine lv_iconst (v := 1) hx hb dX3_lay_95 (by decide) ?_
      refine g_Si (As := [.int 1]) (rest := []) ⟨hx, hb, hml, hown, hts⟩ (c_X3_with l 1) (va_cwS 1 hts gX3_lay_X3_with rfl rfl rfl esX3_with ⟨Nat.le_of_ble_eq_true rfl, Nat.le_of_ble_eq_true rfl⟩) hP hS rfl hl.1 rfl (Nat.le_of_ble_eq_true rfl) dX3_lay_96 ⟨Nat.zero_le _, Nat.zero_le _⟩ (fun H locs hP hS => ?_)
      exact r_Wi hx hb hr hlocks hP hI hS (hq.trans (by simp only [f_X3_lay_c77, if_neg c_79, if_pos c_92])) dX3_lay_99
  · skip
    refine lv_iconst (v := 2) hx hb dX3_lay_82 (by decide) ?_
    refine g_Si (As := [.int 2]) (rest := []) ⟨hx, hb, hml, hown, hts⟩ (c_X3_with l 2) (va_cwS 1 hts gX3_lay_X3_with rfl rfl rfl esX3_with ⟨Nat.le_of_ble_eq_true rfl, Nat.le_of_ble_eq_true rfl⟩) hP hS rfl hl.1 rfl (Nat.le_of_ble_eq_true rfl) dX3_lay_83 ⟨Nat.zero_le _, Nat.zero_le _⟩ (fun H locs hP hS => ?_)
    exact r_Wi hx hb hr hlocks hP hI hS (hq.trans (by simp only [f_X3_lay_c77, if_pos c_79])) dX3_lay_86
def f_X3_lay_c57 (S : MS) (x1 : Int32) (x2 : Int32) (x3 : Int32) (x4 : Int32) : Int32 × MS := if x2 = (-1) then (f_X3_lay_c77 S x1 x2 x3) else (if (f_X3_isOf S x2 x4) = 0 then ((f_X3_with 1, S)) else (f_X3_lay_c77 S x1 x2 x3))
set_option maxHeartbeats 4000000 in
set_option maxRecDepth 100000 in
theorem w_X3_lay_c57 {l : Launch} {D : va_G} {cI cJ : ClassId} {a : Nat → Nat} (hd : ∀ i j, i < 10 → j < 10 → a i = a j → i = j) {p : Program} {e : Env} {s : State} {m : MethodId} {args : Array Value} {below : List Frame} {meth : Method} {c : Code} (C : GC p s m meth c cX3_lay (some .int) 5 RX3 wsX3_lay args D (mw_tys cI cJ)) {v : Int32 × MS} : ∀ (S : MS) (x1 : Int32) (x2 : Int32) (x3 : Int32) (x4 : Int32) (hvx : NV x1) (hy : NV x2) (H : Heap) (locs : List Loc) (ls : Array Slot), va_P D vwCl (mw cI cJ a S) H → MInv S → va_S (mA a) s.heap H locs → lv_has ls 5 [(0, .ref (a 0)), (1, .int x1), (2, .int x2), (3, .int x3), (4, .int x4)] → v = f_X3_lay_c57 S x1 x2 x3 x4 → W p l e rmX3_lay s m args below meth c H locs 0 0 (MQ below (va_Qi (fun r u => v = (r, u)) (GE D (mw cI cJ a) MInv) (mA a)) args s 0 0 (mA a)) (F0 m 57 ls []) := by
  obtain ⟨hx, hb, hr, hlocks, hml, hown, hts, hK, hN⟩ := id C
  intro S x1 x2 x3 x4 hvx hy H locs ls hP hI hS hl hq
  refine lv_iload_n hx hb dX3_lay_57 rfl (lv_at hl 2 rfl) ?_
  refine lv_iconst (v := (-1)) hx hb dX3_lay_58 (by decide) ?_
  refine lv_icmp_eq (tgt := 77) hx hb dX3_lay_59 (by decide) (fun c_59 => ?_) (fun c_59 => ?_)
  · skip
    exact w_X3_lay_c77 hd C S x1 x2 x3 hvx hy _ _ _ hP hI hS (lv_sub hl [0, 1, 2, 3] rfl) (hq.trans (by simp only [f_X3_lay_c57, if_pos c_59]))
  · skip
    refine lv_aload_n hx hb dX3_lay_62 rfl (lv_at hl 0 rfl) ?_
    refine lv_iload_n hx hb dX3_lay_63 rfl (lv_at hl 2 rfl) ?_
    refine lv_iload hx hb dX3_lay_64 (lv_at hl 4 rfl) ?_
    refine g_Ri (As := [.int x2, .int x4]) (rest := []) ⟨hx, hb, hml, hown, hts⟩ (c_X3_isOf l D cI cJ a hd S x2 x4 hy.2) (cwV 2 hts gX3_lay_X3_isOf rfl rfl rfl eeX3_isOf ⟨Nat.le_of_ble_eq_true rfl, Nat.le_of_ble_eq_true rfl⟩) hK hN hP hI (va_recv hK hP (ci := 3) (q0 := 0) rfl rfl) hS rfl hl.1 rfl (Nat.le_of_ble_eq_true rfl) dX3_lay_66 ⟨Nat.zero_le _, Nat.zero_le _⟩ (fun H locs hP hS => ?_)
    refine lv_if_ne (tgt := 77) hx hb dX3_lay_69 (by decide) (fun c_69 => ?_) (fun c_69 => ?_)
    · skip
      exact w_X3_lay_c77 hd C S x1 x2 x3 hvx hy _ _ _ hP hI hS (lv_sub hl [0, 1, 2, 3] rfl) (hq.trans (by simp only [f_X3_lay_c57, if_neg c_59, if_neg c_69]))
    · skip
      refine lv_iconst (v := 1) hx hb dX3_lay_72 (by decide) ?_
      refine g_Si (As := [.int 1]) (rest := []) ⟨hx, hb, hml, hown, hts⟩ (c_X3_with l 1) (va_cwS 1 hts gX3_lay_X3_with rfl rfl rfl esX3_with ⟨Nat.le_of_ble_eq_true rfl, Nat.le_of_ble_eq_true rfl⟩) hP hS rfl hl.1 rfl (Nat.le_of_ble_eq_true rfl) dX3_lay_73 ⟨Nat.zero_le _, Nat.zero_le _⟩ (fun H locs hP hS => ?_)
      exact r_Wi hx hb hr hlocks hP hI hS (hq.trans (by simp only [f_X3_lay_c57, if_neg c_59, if_pos c_69])) dX3_lay_76
def f_X3_lay (S : MS) (x1 : Int32) (x2 : Int32) (x3 : Int32) : Int32 × MS := if x1 = (-1) then (f_X3_lay_c57 S x1 x2 x3 4) else (if (S.forms x1.toNatClampNeg) = 3 then (f_X3_lay_c57 S x1 x2 x3 1) else (if (f_X3_isOf S x1 9) = 0 then (if (S.forms x1.toNatClampNeg) = 8 then (f_X3_lay_c57 S x1 x2 x3 11) else (f_X3_lay_c57 S x1 x2 x3 4)) else (f_X3_lay_c57 S x1 x2 x3 6)))
set_option maxHeartbeats 4000000 in
set_option maxRecDepth 100000 in
theorem c_X3_lay (l : Launch) (D : va_G) (cI cJ : ClassId) (a : Nat → Nat) (hd : ∀ i j, i < 10 → j < 10 → a i = a j → i = j) (S : MS) (x1 : Int32) (x2 : Int32) (x3 : Int32) (hvx : NV x1) (hy : NV x2) : GWi l yX3_lay wsX3_lay rmX3_lay [.ref (a 0), .int x1, .int x2, .int x3] D (mw_tys cI cJ) (mw cI cJ a) MInv (mA a) S (f_X3_lay S x1 x2 x3) := by
  refine GB_of (cc := cX3_lay) (maxL := 5) (ret := (some .int)) (by decide) rfl (Nat.le_of_ble_eq_true rfl) ?_
  intro p e s m below meth c C hP hI ls hl
  obtain ⟨hx, hb, hr, hlocks, hml, hown, hts, hK, hN⟩ := id C
  have hS : va_S (mA a) s.heap s.heap [] := va_S.rf
  have hl : lv_has ls 5 [(0, .ref (a 0)), (1, .int x1), (2, .int x2), (3, .int x3)] := hl
  refine lv_iload_n hx hb dX3_lay_0 rfl (lv_at hl 1 rfl) ?_
  refine lv_iconst (v := (-1)) hx hb dX3_lay_1 (by decide) ?_
  refine lv_icmp_ne (tgt := 9) hx hb dX3_lay_2 (by decide) (fun c_2 => ?_) (fun c_2 => ?_)
  · skip
    refine lv_aload_n hx hb dX3_lay_9 rfl (lv_at hl 0 rfl) ?_
    refine va_get (D := D) (ci := 3) (v := .ref (a 1)) (C := RX3) (T := TX3) (N := 13) hx hb hts iwX3_lay hown hK hP 0 rfl rfl 1 (by decide) (hts (.fieldLink RX3 7 "LoomPanelModel" "forms" "[I") flX3_lay_7) (fun _ h9 => h9) rfl dX3_lay_10 ?_
    refine lv_iload_n hx hb dX3_lay_13 rfl (lv_at hl 1 rfl) ?_
    refine va_iald hx hb hK hP 1 0 (f := S.forms) rfl rfl (nv_in hvx c_2) dX3_lay_14 ?_
    refine lv_iconst (v := 3) hx hb dX3_lay_15 (by decide) ?_
    refine lv_icmp_ne (tgt := 23) hx hb dX3_lay_16 (by decide) (fun c_16 => ?_) (fun c_16 => ?_)
    · skip
      refine lv_aload_n hx hb dX3_lay_23 rfl (lv_at hl 0 rfl) ?_
      refine lv_iload_n hx hb dX3_lay_24 rfl (lv_at hl 1 rfl) ?_
      refine lv_bipush (v := 9) hx hb dX3_lay_25 (by decide) ?_
      refine g_Ri (As := [.int x1, .int 9]) (rest := []) ⟨hx, hb, hml, hown, hts⟩ (c_X3_isOf l D cI cJ a hd S x1 9 hvx.2) (cwV 2 hts gX3_lay_X3_isOf rfl rfl rfl eeX3_isOf ⟨Nat.le_of_ble_eq_true rfl, Nat.le_of_ble_eq_true rfl⟩) hK hN hP hI (va_recv hK hP (ci := 3) (q0 := 0) rfl rfl) hS rfl hl.1 rfl (Nat.le_of_ble_eq_true rfl) dX3_lay_27 ⟨Nat.zero_le _, Nat.zero_le _⟩ (fun H locs hP hS => ?_)
      refine lv_if_eq (tgt := 38) hx hb dX3_lay_30 (by decide) (fun c_30 => ?_) (fun c_30 => ?_)
      · skip
        refine lv_aload_n hx hb dX3_lay_38 rfl (lv_at hl 0 rfl) ?_
        refine va_get (D := D) (ci := 3) (v := .ref (a 1)) (C := RX3) (T := TX3) (N := 13) hx hb hts iwX3_lay hown hK hP 0 rfl rfl 1 (by decide) (hts (.fieldLink RX3 7 "LoomPanelModel" "forms" "[I") flX3_lay_7) (fun _ h9 => h9) rfl dX3_lay_39 ?_
        refine lv_iload_n hx hb dX3_lay_42 rfl (lv_at hl 1 rfl) ?_
        refine va_iald hx hb hK hP 1 0 (f := S.forms) rfl rfl (nv_in hvx c_2) dX3_lay_43 ?_
        refine lv_bipush (v := 8) hx hb dX3_lay_44 (by decide) ?_
        refine lv_icmp_ne (tgt := 54) hx hb dX3_lay_46 (by decide) (fun c_46 => ?_) (fun c_46 => ?_)
        · skip
          refine lv_iconst (v := 4) hx hb dX3_lay_54 (by decide) ?_
          refine lv_istore (lv' := [(4, .int 4), (0, .ref (a 0)), (1, .int x1), (2, .int x2), (3, .int x3)]) hx hb dX3_lay_55 hl (by decide) rfl (fun ls hl => ?_)
          exact w_X3_lay_c57 hd C S x1 x2 x3 4 hvx hy _ _ _ hP hI hS (lv_sub hl [1, 2, 3, 4, 0] rfl) (by simp only [f_X3_lay, if_neg c_2, if_neg c_16, if_pos c_30, if_neg c_46])
        · skip
          refine lv_bipush (v := 11) hx hb dX3_lay_49 (by decide) ?_
          refine lv_goto (tgt := 55) hx hb dX3_lay_51 (by decide) ?_
          refine lv_istore (lv' := [(4, .int 11), (0, .ref (a 0)), (1, .int x1), (2, .int x2), (3, .int x3)]) hx hb dX3_lay_55 hl (by decide) rfl (fun ls hl => ?_)
          exact w_X3_lay_c57 hd C S x1 x2 x3 11 hvx hy _ _ _ hP hI hS (lv_sub hl [1, 2, 3, 4, 0] rfl) (by simp only [f_X3_lay, if_neg c_2, if_neg c_16, if_pos c_30, if_pos c_46])
      · skip
        refine lv_bipush (v := 6) hx hb dX3_lay_33 (by decide) ?_
        refine lv_goto (tgt := 55) hx hb dX3_lay_35 (by decide) ?_
        refine lv_istore (lv' := [(4, .int 6), (0, .ref (a 0)), (1, .int x1), (2, .int x2), (3, .int x3)]) hx hb dX3_lay_55 hl (by decide) rfl (fun ls hl => ?_)
        exact w_X3_lay_c57 hd C S x1 x2 x3 6 hvx hy _ _ _ hP hI hS (lv_sub hl [1, 2, 3, 4, 0] rfl) (by simp only [f_X3_lay, if_neg c_2, if_neg c_16, if_neg c_30])
    · skip
      refine lv_iconst (v := 1) hx hb dX3_lay_19 (by decide) ?_
      refine lv_goto (tgt := 55) hx hb dX3_lay_20 (by decide) ?_
      refine lv_istore (lv' := [(4, .int 1), (0, .ref (a 0)), (1, .int x1), (2, .int x2), (3, .int x3)]) hx hb dX3_lay_55 hl (by decide) rfl (fun ls hl => ?_)
      exact w_X3_lay_c57 hd C S x1 x2 x3 1 hvx hy _ _ _ hP hI hS (lv_sub hl [1, 2, 3, 4, 0] rfl) (by simp only [f_X3_lay, if_neg c_2, if_pos c_16])
  · skip
    refine lv_iconst (v := 4) hx hb dX3_lay_5 (by decide) ?_
    refine lv_goto (tgt := 55) hx hb dX3_lay_6 (by decide) ?_
    refine lv_istore (lv' := [(4, .int 4), (0, .ref (a 0)), (1, .int x1), (2, .int x2), (3, .int x3)]) hx hb dX3_lay_55 hl (by decide) rfl (fun ls hl => ?_)
    exact w_X3_lay_c57 hd C S x1 x2 x3 4 hvx hy _ _ _ hP hI hS (lv_sub hl [1, 2, 3, 4, 0] rfl) (by simp only [f_X3_lay, if_pos c_2])
abbrev rmX3_levelsOf : Room := { frames := 1, cells := 0, slots := 0, locals := 24 }
theorem eeX3_levelsOf : yX3_levelsOf.cls = RX3 ∧ yX3_levelsOf.cls ≠ "java/lang/invoke/MethodHandle" ∧ yX3_levelsOf.cls ≠ "java/lang/invoke/VarHandle" ∧ (parseMethodDescriptor yX3_levelsOf.desc).map (fun d => d.parameters.length) = some 2 := by decide +kernel
theorem iwX3_levelsOf : ∀ w ∈ u_ws RX3 TX3 13, w ∈ wsX3_levelsOf := by decide +kernel
theorem flX3_levelsOf_13 : Cond.fieldLink RX3 13 "LoomPanelModel" "sizes" "[I" ∈ wsX3_levelsOf := by decide +kernel
theorem flX3_levelsOf_16 : Cond.fieldLink RX3 16 "LoomPanelModel" "levels" "[I" ∈ wsX3_levelsOf := by decide +kernel
theorem flX3_levelsOf_19 : Cond.fieldLink RX3 19 "LoomPanelModel" "numbers" "[J" ∈ wsX3_levelsOf := by decide +kernel
theorem flX3_levelsOf_23 : Cond.fieldLink RX3 23 "LoomPanelModel" "lies" "[I" ∈ wsX3_levelsOf := by decide +kernel
def f_X3_levelsOf_c15 : Nat → MS → Int32 → Int32 → Int32 → Nat → Int32 × MS
  | 0, S, _, _, _, _ => (0, S)
  | n + 1, S, x1, x2, x3, j => if (S.sizes x1.toNatClampNeg) ≤ (nI j) then ((x3, S)) else (if (S.lies ((8 * x1) + (nI j)).toNatClampNeg) = (-1) then (f_X3_levelsOf_c15 n (S.set_nums (vp_updL S.nums ((8 * x3) + (nI j)).toNatClampNeg 0)) x1 x2 x3 (j + 1)) else (f_X3_levelsOf_c15 n (S.set_nums (vp_updL S.nums ((8 * x3) + (nI j)).toNatClampNeg ((x2 * (S.levels (S.lies ((8 * x1) + (nI j)).toNatClampNeg).toNatClampNeg)).toInt64))) x1 x2 x3 (j + 1)))
set_option maxHeartbeats 4000000 in
set_option maxRecDepth 100000 in
theorem w_X3_levelsOf_c15 {l : Launch} {D : va_G} {cI cJ : ClassId} {a : Nat → Nat} (hd : ∀ i j, i < 10 → j < 10 → a i = a j → i = j) {p : Program} {e : Env} {s : State} {m : MethodId} {args : Array Value} {below : List Frame} {meth : Method} {c : Code} (C : GC p s m meth c cX3_levelsOf (some .int) 6 RX3 wsX3_levelsOf args D (mw_tys cI cJ)) {v : Int32 × MS} : ∀ (n : Nat) (S : MS) (x1 : Int32) (x2 : Int32) (x3 : Int32) (j : Nat) (hvx : vp_in x1 60) (h3 : vp_in x3 60) (hj : j ≤ 8) (hn : j + n = 9) (H : Heap) (locs : List Loc) (ls : Array Slot), va_P D vwCl (mw cI cJ a S) H → MInv S → va_S (mA a) s.heap H locs → lv_has ls 6 [(0, .ref (a 0)), (1, .int x1), (2, .int x2), (3, .int x3), (4, .int (nI j))] → v = f_X3_levelsOf_c15 n S x1 x2 x3 j → W p l e rmX3_levelsOf s m args below meth c H locs 0 0 (MQ below (va_Qi (fun r u => v = (r, u)) (GE D (mw cI cJ a) MInv) (mA a)) args s 0 0 (mA a)) (F0 m 15 ls []) := by
  obtain ⟨hx, hb, hr, hlocks, hml, hown, hts, hK, hN⟩ := id C
  intro n
  induction n with
  | zero =>
    intro S x1 x2 x3 j hvx h3 hj hn H locs ls hP hI hS hl hq
    exact absurd hn (by omega)
  | succ n ih =>
    intro S x1 x2 x3 j hvx h3 hj hn H locs ls hP hI hS hl hq
    refine lv_iload hx hb dX3_levelsOf_15 (lv_at hl 4 rfl) ?_
    refine lv_aload_n hx hb dX3_levelsOf_17 rfl (lv_at hl 0 rfl) ?_
    refine va_get (D := D) (ci := 3) (v := .ref (a 2)) (C := RX3) (T := TX3) (N := 13) hx hb hts iwX3_levelsOf hown hK hP 0 rfl rfl 2 (by decide) (hts (.fieldLink RX3 13 "LoomPanelModel" "sizes" "[I") flX3_levelsOf_13) (fun _ h9 => h9) rfl dX3_levelsOf_18 ?_
    refine lv_iload_n hx hb dX3_levelsOf_21 rfl (lv_at hl 1 rfl) ?_
    refine va_iald hx hb hK hP 2 0 (f := S.sizes) rfl rfl hvx dX3_levelsOf_22 ?_
    refine lv_icmp_ge (tgt := 78) hx hb dX3_levelsOf_23 (by decide) (fun c_23 => ?_) (fun c_23 => ?_)
    · skip
      refine lv_iload_n hx hb dX3_levelsOf_78 rfl (lv_at hl 3 rfl) ?_
      exact r_Wi hx hb hr hlocks hP hI hS (hq.trans (by simp only [f_X3_levelsOf_c15, if_pos c_23])) dX3_levelsOf_79
    · skip
      refine lv_aload_n hx hb dX3_levelsOf_26 rfl (lv_at hl 0 rfl) ?_
      refine va_get (D := D) (ci := 3) (v := .ref (a 5)) (C := RX3) (T := TX3) (N := 13) hx hb hts iwX3_levelsOf hown hK hP 0 rfl rfl 5 (by decide) (hts (.fieldLink RX3 23 "LoomPanelModel" "lies" "[I") flX3_levelsOf_23) (fun _ h9 => h9) rfl dX3_levelsOf_27 ?_
      refine lv_bipush (v := 8) hx hb dX3_levelsOf_30 (by decide) ?_
      refine lv_iload_n hx hb dX3_levelsOf_32 rfl (lv_at hl 1 rfl) ?_
      refine lv_imul hx hb dX3_levelsOf_33 ?_
      refine lv_iload hx hb dX3_levelsOf_34 (lv_at hl 4 rfl) ?_
      refine lv_iadd hx hb dX3_levelsOf_36 ?_
      refine va_iald hx hb hK hP 5 0 (f := S.lies) rfl rfl (ix8' hvx (jin (jl8 c_23 (hI.2.1 _).2 hj) (by decide))) dX3_levelsOf_37 ?_
      refine lv_istore (lv' := [(5, .int (S.lies ((8 * x1) + (nI j)).toNatClampNeg)), (0, .ref (a 0)), (1, .int x1), (2, .int x2), (3, .int x3), (4, .int (nI j))]) hx hb dX3_levelsOf_38 hl (by decide) rfl (fun ls hl => ?_)
      refine lv_aload_n hx hb dX3_levelsOf_40 rfl (lv_at hl 1 rfl) ?_
      refine va_get (D := D) (ci := 3) (v := .ref (a 4)) (C := RX3) (T := TX3) (N := 13) hx hb hts iwX3_levelsOf hown hK hP 0 rfl rfl 4 (by decide) (hts (.fieldLink RX3 19 "LoomPanelModel" "numbers" "[J") flX3_levelsOf_19) (fun _ h9 => h9) rfl dX3_levelsOf_41 ?_
      refine lv_bipush (v := 8) hx hb dX3_levelsOf_44 (by decide) ?_
      refine lv_iload_n hx hb dX3_levelsOf_46 rfl (lv_at hl 4 rfl) ?_
      refine lv_imul hx hb dX3_levelsOf_47 ?_
      refine lv_iload hx hb dX3_levelsOf_48 (lv_at hl 5 rfl) ?_
      refine lv_iadd hx hb dX3_levelsOf_50 ?_
      refine lv_iload hx hb dX3_levelsOf_51 (lv_at hl 0 rfl) ?_
      refine lv_iconst (v := (-1)) hx hb dX3_levelsOf_53 (by decide) ?_
      refine lv_icmp_ne (tgt := 61) hx hb dX3_levelsOf_54 (by decide) (fun c_54 => ?_) (fun c_54 => ?_)
      · skip
        refine lv_iload_n hx hb dX3_levelsOf_61 rfl (lv_at hl 3 rfl) ?_
        refine lv_aload_n hx hb dX3_levelsOf_62 rfl (lv_at hl 1 rfl) ?_
        refine va_get (D := D) (ci := 3) (v := .ref (a 3)) (C := RX3) (T := TX3) (N := 13) hx hb hts iwX3_levelsOf hown hK hP 0 rfl rfl 3 (by decide) (hts (.fieldLink RX3 16 "LoomPanelModel" "levels" "[I") flX3_levelsOf_16) (fun _ h9 => h9) rfl dX3_levelsOf_63 ?_
        refine lv_iload hx hb dX3_levelsOf_66 (lv_at hl 0 rfl) ?_
        refine va_iald hx hb hK hP 3 0 (f := S.levels) rfl rfl (nv_in (hI.2.2.1 _) c_54) dX3_levelsOf_68 ?_
        refine lv_imul hx hb dX3_levelsOf_69 ?_
        refine lv_i2l (v := (x2 * (S.levels (S.lies ((8 * x1) + (nI j)).toNatClampNeg).toNatClampNeg)).toInt64) hx hb dX3_levelsOf_70 rfl ?_
        refine va_last hx hb hK hP (mw_D hd) hS 4 1 (f := S.nums) rfl rfl (ix8' h3 (jin (jl8 c_23 (hI.2.1 _).2 hj) (by decide))) dX3_levelsOf_71 (fun H locs hP _ hS => ?_)
        have hP : va_P D vwCl (mw cI cJ a (S.set_nums (vp_updL S.nums ((8 * x3) + (nI j)).toNatClampNeg ((x2 * (S.levels (S.lies ((8 * x1) + (nI j)).toNatClampNeg).toNatClampNeg)).toInt64)))) H := by rw [← mw_set_nums]; exact hP
        have hI : MInv (S.set_nums (vp_updL S.nums ((8 * x3) + (nI j)).toNatClampNeg ((x2 * (S.levels (S.lies ((8 * x1) + (nI j)).toNatClampNeg).toNatClampNeg)).toInt64))) := MInv_set_nums hI
        refine lv_iinc (v := nI (j + 1)) (lv' := [(4, .int (nI (j + 1))), (5, .int (S.lies ((8 * x1) + (nI j)).toNatClampNeg)), (0, .ref (a 0)), (1, .int x1), (2, .int x2), (3, .int x3)]) hx hb dX3_levelsOf_72 hl (k := 5) rfl (nI_1 _) (by decide) rfl (fun ls hl => ?_)
        refine lv_goto (tgt := 15) hx hb dX3_levelsOf_75 (by decide) ?_
        exact ih (S.set_nums (vp_updL S.nums ((8 * x3) + (nI j)).toNatClampNeg ((x2 * (S.levels (S.lies ((8 * x1) + (nI j)).toNatClampNeg).toNatClampNeg)).toInt64))) x1 x2 x3 (j + 1) hvx h3 (jl8 c_23 (hI.2.1 _).2 hj) (by omega) _ _ _ hP hI hS (lv_sub hl [2, 3, 4, 5, 0] rfl) (hq.trans (by simp only [f_X3_levelsOf_c15, if_neg c_23, if_neg c_54]))
      · skip
        refine lv_lconst (v := 0) hx hb dX3_levelsOf_57 (by decide) ?_
        refine lv_goto (tgt := 71) hx hb dX3_levelsOf_58 (by decide) ?_
        refine va_last hx hb hK hP (mw_D hd) hS 4 1 (f := S.nums) rfl rfl (ix8' h3 (jin (jl8 c_23 (hI.2.1 _).2 hj) (by decide))) dX3_levelsOf_71 (fun H locs hP _ hS => ?_)
        have hP : va_P D vwCl (mw cI cJ a (S.set_nums (vp_updL S.nums ((8 * x3) + (nI j)).toNatClampNeg 0))) H := by rw [← mw_set_nums]; exact hP
        have hI : MInv (S.set_nums (vp_updL S.nums ((8 * x3) + (nI j)).toNatClampNeg 0)) := MInv_set_nums hI
        refine lv_iinc (v := nI (j + 1)) (lv' := [(4, .int (nI (j + 1))), (5, .int (S.lies ((8 * x1) + (nI j)).toNatClampNeg)), (0, .ref (a 0)), (1, .int x1), (2, .int x2), (3, .int x3)]) hx hb dX3_levelsOf_72 hl (k := 5) rfl (nI_1 _) (by decide) rfl (fun ls hl => ?_)
        refine lv_goto (tgt := 15) hx hb dX3_levelsOf_75 (by decide) ?_
        exact ih (S.set_nums (vp_updL S.nums ((8 * x3) + (nI j)).toNatClampNeg 0)) x1 x2 x3 (j + 1) hvx h3 (jl8 c_23 (hI.2.1 _).2 hj) (by omega) _ _ _ hP hI hS (lv_sub hl [2, 3, 4, 5, 0] rfl) (hq.trans (by simp only [f_X3_levelsOf_c15, if_neg c_23, if_pos c_54]))
def f_X3_levelsOf (S : MS) (x1 : Int32) (x2 : Int32) : Int32 × MS := f_X3_levelsOf_c15 9 ((f_X3_make S 1 (S.sizes x1.toNatClampNeg)).2) x1 x2 ((f_X3_make S 1 (S.sizes x1.toNatClampNeg)).1) 0
set_option maxHeartbeats 4000000 in
set_option maxRecDepth 100000 in
theorem c_X3_levelsOf (l : Launch) (D : va_G) (cI cJ : ClassId) (a : Nat → Nat) (hd : ∀ i j, i < 10 → j < 10 → a i = a j → i = j) (S : MS) (x1 : Int32) (x2 : Int32) (hvx : vp_in x1 60) (hm : S.vals.toInt < 60) : GWi l yX3_levelsOf wsX3_levelsOf rmX3_levelsOf [.ref (a 0), .int x1, .int x2] D (mw_tys cI cJ) (mw cI cJ a) MInv (mA a) S (f_X3_levelsOf S x1 x2) := by
  refine GB_of (cc := cX3_levelsOf) (maxL := 6) (ret := (some .int)) (by decide) rfl (Nat.le_of_ble_eq_true rfl) ?_
  intro p e s m below meth c C hP hI ls hl
  obtain ⟨hx, hb, hr, hlocks, hml, hown, hts, hK, hN⟩ := id C
  have hS : va_S (mA a) s.heap s.heap [] := va_S.rf
  have hl : lv_has ls 6 [(0, .ref (a 0)), (1, .int x1), (2, .int x2)] := hl
  have hv0 : vp_in S.vals 60 := in2 hI.1.1 hm
  refine lv_aload_n hx hb dX3_levelsOf_0 rfl (lv_at hl 0 rfl) ?_
  refine lv_iconst (v := 1) hx hb dX3_levelsOf_1 (by decide) ?_
  refine lv_aload_n hx hb dX3_levelsOf_2 rfl (lv_at hl 0 rfl) ?_
  refine va_get (D := D) (ci := 3) (v := .ref (a 2)) (C := RX3) (T := TX3) (N := 13) hx hb hts iwX3_levelsOf hown hK hP 0 rfl rfl 2 (by decide) (hts (.fieldLink RX3 13 "LoomPanelModel" "sizes" "[I") flX3_levelsOf_13) (fun _ h9 => h9) rfl dX3_levelsOf_3 ?_
  refine lv_iload_n hx hb dX3_levelsOf_6 rfl (lv_at hl 1 rfl) ?_
  refine va_iald hx hb hK hP 2 0 (f := S.sizes) rfl rfl hvx dX3_levelsOf_7 ?_
  refine g_Wi (As := [.int 1, .int (S.sizes x1.toNatClampNeg)]) (rest := []) ⟨hx, hb, hml, hown, hts⟩ (c_X3_make l D cI cJ a hd S 1 (S.sizes x1.toNatClampNeg) hm (hI.2.1 _)) (cwV 2 hts gX3_levelsOf_X3_make rfl rfl rfl eeX3_make ⟨Nat.le_of_ble_eq_true rfl, Nat.le_of_ble_eq_true rfl⟩) hK hN hP hI (va_recv hK hP (ci := 3) (q0 := 0) rfl rfl) hS rfl hl.1 rfl (Nat.le_of_ble_eq_true rfl) dX3_levelsOf_8 ⟨Nat.zero_le _, Nat.zero_le _⟩ (fun H locs hI hP hS => ?_)
  refine lv_istore_n (lv' := [(3, .int ((f_X3_make S 1 (S.sizes x1.toNatClampNeg)).1)), (0, .ref (a 0)), (1, .int x1), (2, .int x2)]) hx hb dX3_levelsOf_11 rfl hl (by decide) rfl (fun ls hl => ?_)
  refine lv_iconst (v := 0) hx hb dX3_levelsOf_12 (by decide) ?_
  refine lv_istore (lv' := [(4, .int 0), (3, .int ((f_X3_make S 1 (S.sizes x1.toNatClampNeg)).1)), (0, .ref (a 0)), (1, .int x1), (2, .int x2)]) hx hb dX3_levelsOf_13 hl (by decide) rfl (fun ls hl => ?_)
  exact w_X3_levelsOf_c15 hd C 9 ((f_X3_make S 1 (S.sizes x1.toNatClampNeg)).2) x1 x2 ((f_X3_make S 1 (S.sizes x1.toNatClampNeg)).1) 0 hvx (by rw [make_fst]; exact hv0) (Nat.zero_le _) rfl _ _ _ hP hI hS (lv_sub hl [2, 3, 4, 1, 0] rfl) (by simp only [f_X3_levelsOf])
theorem nv_add {x : Int32} {j : Nat} (h0 : 0 ≤ x.toInt) (h1 : x.toInt + j < 60) : NV (x + nI j) := by
  obtain ⟨X, h2, rfl⟩ := nI_of (x := x) (by rw [Int32.lt_iff_toInt_lt]; have : (0 : Int32).toInt = 0 := by decide
                                            omega)
  rw [nI_toInt h2] at h1
  rw [nI_add]
  unfold NV
  rw [nI_toInt (by omega)]
  omega
theorem le_j {x : Int32} {j : Nat} (hj : j ≤ 8) (c : x ≤ nI j) : x.toInt ≤ j := by
  rw [Int32.le_iff_toInt_le, nI_toInt (by omega)] at c
  exact c
theorem lt_j {x : Int32} {j : Nat} (hj : j ≤ 8) (c : ¬ x ≤ nI j) : (j : Int) < x.toInt := by
  have h := nle c
  rw [nI_toInt (by omega)] at h
  exact h
theorem make_sizes_self (S : MS) (f : Int32) (k : Nat) : (f_X3_make S f (S.sizes k)).2.sizes k = S.sizes k := by
  rw [make_sizes]
  by_cases h : k = S.vals.toNatClampNeg
  · rw [← h, pk_us]
  · rw [pk_un h]
theorem make_sizes_0 {S : MS} (hI : MInv S) (f : Int32) (k : Nat) : ((f_X3_make S f 0).2.sizes k).toInt ≤ (S.sizes k).toInt := by
  rw [make_sizes]
  by_cases h : k = S.vals.toNatClampNeg
  · rw [← h, pk_us]; exact (hI.2.1 k).1
  · rw [pk_un h]; exact Int.le_refl _
theorem drv_back {S Sx : MS} {x3 : Int32} {k j : Nat} {v : Nat → Int32} (hq : S.vals.toInt + (S.sizes k).toInt < 60 + j) (h3 : 0 ≤ x3.toInt ∧ x3.toInt + j = S.vals.toInt) (hlj : (j : Int) < (S.sizes k).toInt) (hv : Sx.vals.toInt = S.vals.toInt + 1) (hs : (Sx.sizes k).toInt ≤ (S.sizes k).toInt) : (Sx.set_levels v).vals.toInt < 60 ∧ (Sx.set_levels v).vals.toInt + ((Sx.set_levels v).sizes k).toInt < 60 + (j + 1 : Nat) ∧ (0 ≤ x3.toInt ∧ x3.toInt + (j + 1 : Nat) = (Sx.set_levels v).vals.toInt) := by
  simp only [MS.vals_set_levels, MS.sizes_set_levels]
  omega
theorem drv_exit {S : MS} {x3 f : Int32} {k j : Nat} (hm : S.vals.toInt < 60) (h3 : 0 ≤ x3.toInt ∧ x3.toInt + j = S.vals.toInt) (hle : (S.sizes k).toInt ≤ j) : 0 ≤ x3.toInt ∧ x3.toInt + ((f_X3_make S f (S.sizes k)).2.sizes k).toInt < 60 := by
  rw [make_sizes_self]
  omega
theorem make_vals_i {S : MS} (hI : MInv S) (hm : S.vals.toInt < 60) (f k : Int32) : (f_X3_make S f k).2.vals.toInt = S.vals.toInt + 1 := by
  rw [make_vals]; exact add1 hI.1.1 hm (by decide)
abbrev rmX3_drive : Room := { frames := 1, cells := 0, slots := 0, locals := 24 }
theorem eeX3_drive : yX3_drive.cls = RX3 ∧ yX3_drive.cls ≠ "java/lang/invoke/MethodHandle" ∧ yX3_drive.cls ≠ "java/lang/invoke/VarHandle" ∧ (parseMethodDescriptor yX3_drive.desc).map (fun d => d.parameters.length) = some 2 := by decide +kernel
theorem iwX3_drive : ∀ w ∈ u_ws RX3 TX3 13, w ∈ wsX3_drive := by decide +kernel
theorem flX3_drive_13 : Cond.fieldLink RX3 13 "LoomPanelModel" "sizes" "[I" ∈ wsX3_drive := by decide +kernel
theorem flX3_drive_16 : Cond.fieldLink RX3 16 "LoomPanelModel" "levels" "[I" ∈ wsX3_drive := by decide +kernel
theorem flX3_drive_19 : Cond.fieldLink RX3 19 "LoomPanelModel" "numbers" "[J" ∈ wsX3_drive := by decide +kernel
theorem flX3_drive_23 : Cond.fieldLink RX3 23 "LoomPanelModel" "lies" "[I" ∈ wsX3_drive := by decide +kernel
theorem flX3_drive_42 : Cond.fieldLink RX3 42 "LoomPanelModel" "values" "I" ∈ wsX3_drive := by decide +kernel
theorem flX3_drive_7 : Cond.fieldLink RX3 7 "LoomPanelModel" "forms" "[I" ∈ wsX3_drive := by decide +kernel
def f_X3_drive_c102 : Nat → MS → Int32 → Int32 → Int32 → Nat → Int32 × MS
  | 0, S, _, _, _, _ => (0, S)
  | n + 1, S, x1, x3, x4, j => if (S.sizes x1.toNatClampNeg) ≤ (nI j) then ((x4, S)) else (f_X3_drive_c102 n (S.set_lies (upd S.lies ((8 * x4) + (nI j)).toNatClampNeg (x3 + (nI j)))) x1 x3 x4 (j + 1))
set_option maxHeartbeats 4000000 in
set_option maxRecDepth 100000 in
theorem w_X3_drive_c102 {l : Launch} {D : va_G} {cI cJ : ClassId} {a : Nat → Nat} (hd : ∀ i j, i < 10 → j < 10 → a i = a j → i = j) {p : Program} {e : Env} {s : State} {m : MethodId} {args : Array Value} {below : List Frame} {meth : Method} {c : Code} (C : GC p s m meth c cX3_drive (some .int) 6 RX3 wsX3_drive args D (mw_tys cI cJ)) {v : Int32 × MS} : ∀ (n : Nat) (S : MS) (x1 : Int32) (x3 : Int32) (x4 : Int32) (j : Nat) (hvx : vp_in x1 60) (h3 : 0 ≤ x3.toInt ∧ x3.toInt + (S.sizes x1.toNatClampNeg).toInt < 60) (h4 : vp_in x4 60) (hj : j ≤ 8) (hn : j + n = 9) (H : Heap) (locs : List Loc) (ls : Array Slot), va_P D vwCl (mw cI cJ a S) H → MInv S → va_S (mA a) s.heap H locs → lv_has ls 6 [(0, .ref (a 0)), (1, .int x1), (3, .int x3), (4, .int x4), (5, .int (nI j))] → v = f_X3_drive_c102 n S x1 x3 x4 j → W p l e rmX3_drive s m args below meth c H locs 0 0 (MQ below (va_Qi (fun r u => v = (r, u)) (GE D (mw cI cJ a) MInv) (mA a)) args s 0 0 (mA a)) (F0 m 102 ls []) := by
  obtain ⟨hx, hb, hr, hlocks, hml, hown, hts, hK, hN⟩ := id C
  intro n
  induction n with
  | zero =>
    intro S x1 x3 x4 j hvx h3 h4 hj hn H locs ls hP hI hS hl hq
    exact absurd hn (by omega)
  | succ n ih =>
    intro S x1 x3 x4 j hvx h3 h4 hj hn H locs ls hP hI hS hl hq
    refine lv_iload hx hb dX3_drive_102 (lv_at hl 4 rfl) ?_
    refine lv_aload_n hx hb dX3_drive_104 rfl (lv_at hl 0 rfl) ?_
    refine va_get (D := D) (ci := 3) (v := .ref (a 2)) (C := RX3) (T := TX3) (N := 13) hx hb hts iwX3_drive hown hK hP 0 rfl rfl 2 (by decide) (hts (.fieldLink RX3 13 "LoomPanelModel" "sizes" "[I") flX3_drive_13) (fun _ h9 => h9) rfl dX3_drive_105 ?_
    refine lv_iload_n hx hb dX3_drive_108 rfl (lv_at hl 1 rfl) ?_
    refine va_iald hx hb hK hP 2 0 (f := S.sizes) rfl rfl hvx dX3_drive_109 ?_
    refine lv_icmp_ge (tgt := 136) hx hb dX3_drive_110 (by decide) (fun c_110 => ?_) (fun c_110 => ?_)
    · skip
      refine lv_iload hx hb dX3_drive_136 (lv_at hl 3 rfl) ?_
      exact r_Wi hx hb hr hlocks hP hI hS (hq.trans (by simp only [f_X3_drive_c102, if_pos c_110])) dX3_drive_138
    · skip
      refine lv_aload_n hx hb dX3_drive_113 rfl (lv_at hl 0 rfl) ?_
      refine va_get (D := D) (ci := 3) (v := .ref (a 5)) (C := RX3) (T := TX3) (N := 13) hx hb hts iwX3_drive hown hK hP 0 rfl rfl 5 (by decide) (hts (.fieldLink RX3 23 "LoomPanelModel" "lies" "[I") flX3_drive_23) (fun _ h9 => h9) rfl dX3_drive_114 ?_
      refine lv_bipush (v := 8) hx hb dX3_drive_117 (by decide) ?_
      refine lv_iload hx hb dX3_drive_119 (lv_at hl 3 rfl) ?_
      refine lv_imul hx hb dX3_drive_121 ?_
      refine lv_iload hx hb dX3_drive_122 (lv_at hl 4 rfl) ?_
      refine lv_iadd hx hb dX3_drive_124 ?_
      refine lv_iload_n hx hb dX3_drive_125 rfl (lv_at hl 2 rfl) ?_
      refine lv_iload hx hb dX3_drive_126 (lv_at hl 4 rfl) ?_
      refine lv_iadd hx hb dX3_drive_128 ?_
      refine va_iast hx hb hK hP (mw_D hd) hS 5 0 (f := S.lies) rfl rfl (ix8' h4 (jin (jl8 c_110 (hI.2.1 _).2 hj) (by decide))) dX3_drive_129 (fun H locs hP _ hS => ?_)
      have hP : va_P D vwCl (mw cI cJ a (S.set_lies (upd S.lies ((8 * x4) + (nI j)).toNatClampNeg (x3 + (nI j))))) H := by rw [← mw_set_lies]; exact hP
      have hI : MInv (S.set_lies (upd S.lies ((8 * x4) + (nI j)).toNatClampNeg (x3 + (nI j)))) := lies_set hI (nv_add h3.1 (by have := lt_j hj c_110; omega))
      refine lv_iinc (v := nI (j + 1)) (lv' := [(5, .int (nI (j + 1))), (0, .ref (a 0)), (1, .int x1), (3, .int x3), (4, .int x4)]) hx hb dX3_drive_130 hl (k := 4) rfl (nI_1 _) (by decide) rfl (fun ls hl => ?_)
      refine lv_goto (tgt := 102) hx hb dX3_drive_133 (by decide) ?_
      exact ih (S.set_lies (upd S.lies ((8 * x4) + (nI j)).toNatClampNeg (x3 + (nI j)))) x1 x3 x4 (j + 1) hvx h3 h4 (jl8 c_110 (hI.2.1 _).2 hj) (by omega) _ _ _ hP hI hS (lv_sub hl [1, 2, 3, 4, 0] rfl) (hq.trans (by simp only [f_X3_drive_c102, if_neg c_110]))
def f_X3_drive_c23 : Nat → MS → Int32 → Int32 → Int32 → Nat → Int32 × MS
  | 0, S, _, _, _, _ => (0, S)
  | n + 1, S, x1, x2, x3, j => if (S.sizes x1.toNatClampNeg) ≤ (nI j) then (if x2 = 0 then (f_X3_drive_c102 9 ((f_X3_make S 6 (S.sizes x1.toNatClampNeg)).2) x1 x3 ((f_X3_make S 6 (S.sizes x1.toNatClampNeg)).1) 0) else (f_X3_drive_c102 9 ((f_X3_make S 7 (S.sizes x1.toNatClampNeg)).2) x1 x3 ((f_X3_make S 7 (S.sizes x1.toNatClampNeg)).1) 0)) else (if x2 = 0 then (f_X3_drive_c23 n (((f_X3_make S 4 0).2).set_levels (upd (((f_X3_make S 4 0).2).levels) ((f_X3_make S 4 0).1).toNatClampNeg (((((f_X3_make S 4 0).2).nums) ((8 * x1) + (nI j)).toNatClampNeg).toInt32))) x1 x2 x3 (j + 1)) else (f_X3_drive_c23 n (((f_X3_make S 5 0).2).set_levels (upd (((f_X3_make S 5 0).2).levels) ((f_X3_make S 5 0).1).toNatClampNeg (((((f_X3_make S 5 0).2).nums) ((8 * x1) + (nI j)).toNatClampNeg).toInt32))) x1 x2 x3 (j + 1)))
set_option maxHeartbeats 4000000 in
set_option maxRecDepth 100000 in
theorem w_X3_drive_c23 {l : Launch} {D : va_G} {cI cJ : ClassId} {a : Nat → Nat} (hd : ∀ i j, i < 10 → j < 10 → a i = a j → i = j) {p : Program} {e : Env} {s : State} {m : MethodId} {args : Array Value} {below : List Frame} {meth : Method} {c : Code} (C : GC p s m meth c cX3_drive (some .int) 6 RX3 wsX3_drive args D (mw_tys cI cJ)) {v : Int32 × MS} : ∀ (n : Nat) (S : MS) (x1 : Int32) (x2 : Int32) (x3 : Int32) (j : Nat) (hvx : vp_in x1 60) (hm : S.vals.toInt < 60) (hqq : S.vals.toInt + (S.sizes x1.toNatClampNeg).toInt < 60 + j) (h3 : 0 ≤ x3.toInt ∧ x3.toInt + j = S.vals.toInt) (hj : j ≤ 8) (hn : j + n = 9) (H : Heap) (locs : List Loc) (ls : Array Slot), va_P D vwCl (mw cI cJ a S) H → MInv S → va_S (mA a) s.heap H locs → lv_has ls 6 [(0, .ref (a 0)), (1, .int x1), (2, .int x2), (3, .int x3), (4, .int (nI j))] → v = f_X3_drive_c23 n S x1 x2 x3 j → W p l e rmX3_drive s m args below meth c H locs 0 0 (MQ below (va_Qi (fun r u => v = (r, u)) (GE D (mw cI cJ a) MInv) (mA a)) args s 0 0 (mA a)) (F0 m 23 ls []) := by
  obtain ⟨hx, hb, hr, hlocks, hml, hown, hts, hK, hN⟩ := id C
  intro n
  induction n with
  | zero =>
    intro S x1 x2 x3 j hvx hm hqq h3 hj hn H locs ls hP hI hS hl hq
    exact absurd hn (by omega)
  | succ n ih =>
    intro S x1 x2 x3 j hvx hm hqq h3 hj hn H locs ls hP hI hS hl hq
    refine lv_iload hx hb dX3_drive_23 (lv_at hl 4 rfl) ?_
    refine lv_aload_n hx hb dX3_drive_25 rfl (lv_at hl 0 rfl) ?_
    refine va_get (D := D) (ci := 3) (v := .ref (a 2)) (C := RX3) (T := TX3) (N := 13) hx hb hts iwX3_drive hown hK hP 0 rfl rfl 2 (by decide) (hts (.fieldLink RX3 13 "LoomPanelModel" "sizes" "[I") flX3_drive_13) (fun _ h9 => h9) rfl dX3_drive_26 ?_
    refine lv_iload_n hx hb dX3_drive_29 rfl (lv_at hl 1 rfl) ?_
    refine va_iald hx hb hK hP 2 0 (f := S.sizes) rfl rfl hvx dX3_drive_30 ?_
    refine lv_icmp_ge (tgt := 76) hx hb dX3_drive_31 (by decide) (fun c_31 => ?_) (fun c_31 => ?_)
    · skip
      have hle := le_j hj c_31
      have hv0 : vp_in S.vals 60 := in2 hI.1.1 hm
      refine lv_aload_n hx hb dX3_drive_76 rfl (lv_at hl 0 rfl) ?_
      refine lv_iload_n hx hb dX3_drive_77 rfl (lv_at hl 2 rfl) ?_
      refine lv_if_ne (tgt := 86) hx hb dX3_drive_78 (by decide) (fun c_78 => ?_) (fun c_78 => ?_)
      · skip
        refine lv_bipush (v := 7) hx hb dX3_drive_86 (by decide) ?_
        refine lv_aload_n hx hb dX3_drive_88 rfl (lv_at hl 0 rfl) ?_
        refine va_get (D := D) (ci := 3) (v := .ref (a 2)) (C := RX3) (T := TX3) (N := 13) hx hb hts iwX3_drive hown hK hP 0 rfl rfl 2 (by decide) (hts (.fieldLink RX3 13 "LoomPanelModel" "sizes" "[I") flX3_drive_13) (fun _ h9 => h9) rfl dX3_drive_89 ?_
        refine lv_iload_n hx hb dX3_drive_92 rfl (lv_at hl 1 rfl) ?_
        refine va_iald hx hb hK hP 2 0 (f := S.sizes) rfl rfl hvx dX3_drive_93 ?_
        refine g_Wi (As := [.int 7, .int (S.sizes x1.toNatClampNeg)]) (rest := []) ⟨hx, hb, hml, hown, hts⟩ (c_X3_make l D cI cJ a hd S 7 (S.sizes x1.toNatClampNeg) hm (hI.2.1 _)) (cwV 2 hts gX3_drive_X3_make rfl rfl rfl eeX3_make ⟨Nat.le_of_ble_eq_true rfl, Nat.le_of_ble_eq_true rfl⟩) hK hN hP hI (va_recv hK hP (ci := 3) (q0 := 0) rfl rfl) hS rfl hl.1 rfl (Nat.le_of_ble_eq_true rfl) dX3_drive_94 ⟨Nat.zero_le _, Nat.zero_le _⟩ (fun H locs hI hP hS => ?_)
        refine lv_istore (lv' := [(4, .int ((f_X3_make S 7 (S.sizes x1.toNatClampNeg)).1)), (0, .ref (a 0)), (1, .int x1), (2, .int x2), (3, .int x3)]) hx hb dX3_drive_97 hl (by decide) rfl (fun ls hl => ?_)
        refine lv_iconst (v := 0) hx hb dX3_drive_99 (by decide) ?_
        refine lv_istore (lv' := [(5, .int 0), (4, .int ((f_X3_make S 7 (S.sizes x1.toNatClampNeg)).1)), (0, .ref (a 0)), (1, .int x1), (2, .int x2), (3, .int x3)]) hx hb dX3_drive_100 hl (by decide) rfl (fun ls hl => ?_)
        exact w_X3_drive_c102 hd C 9 ((f_X3_make S 7 (S.sizes x1.toNatClampNeg)).2) x1 x3 ((f_X3_make S 7 (S.sizes x1.toNatClampNeg)).1) 0 hvx (drv_exit hm h3 hle) (by rw [make_fst]; exact hv0) (Nat.zero_le _) rfl _ _ _ hP hI hS (lv_sub hl [2, 3, 5, 1, 0] rfl) (hq.trans (by simp only [f_X3_drive_c23, if_pos c_31, if_neg c_78]))
      · skip
        refine lv_bipush (v := 6) hx hb dX3_drive_81 (by decide) ?_
        refine lv_goto (tgt := 88) hx hb dX3_drive_83 (by decide) ?_
        refine lv_aload_n hx hb dX3_drive_88 rfl (lv_at hl 0 rfl) ?_
        refine va_get (D := D) (ci := 3) (v := .ref (a 2)) (C := RX3) (T := TX3) (N := 13) hx hb hts iwX3_drive hown hK hP 0 rfl rfl 2 (by decide) (hts (.fieldLink RX3 13 "LoomPanelModel" "sizes" "[I") flX3_drive_13) (fun _ h9 => h9) rfl dX3_drive_89 ?_
        refine lv_iload_n hx hb dX3_drive_92 rfl (lv_at hl 1 rfl) ?_
        refine va_iald hx hb hK hP 2 0 (f := S.sizes) rfl rfl hvx dX3_drive_93 ?_
        refine g_Wi (As := [.int 6, .int (S.sizes x1.toNatClampNeg)]) (rest := []) ⟨hx, hb, hml, hown, hts⟩ (c_X3_make l D cI cJ a hd S 6 (S.sizes x1.toNatClampNeg) hm (hI.2.1 _)) (cwV 2 hts gX3_drive_X3_make rfl rfl rfl eeX3_make ⟨Nat.le_of_ble_eq_true rfl, Nat.le_of_ble_eq_true rfl⟩) hK hN hP hI (va_recv hK hP (ci := 3) (q0 := 0) rfl rfl) hS rfl hl.1 rfl (Nat.le_of_ble_eq_true rfl) dX3_drive_94 ⟨Nat.zero_le _, Nat.zero_le _⟩ (fun H locs hI hP hS => ?_)
        refine lv_istore (lv' := [(4, .int ((f_X3_make S 6 (S.sizes x1.toNatClampNeg)).1)), (0, .ref (a 0)), (1, .int x1), (2, .int x2), (3, .int x3)]) hx hb dX3_drive_97 hl (by decide) rfl (fun ls hl => ?_)
        refine lv_iconst (v := 0) hx hb dX3_drive_99 (by decide) ?_
        refine lv_istore (lv' := [(5, .int 0), (4, .int ((f_X3_make S 6 (S.sizes x1.toNatClampNeg)).1)), (0, .ref (a 0)), (1, .int x1), (2, .int x2), (3, .int x3)]) hx hb dX3_drive_100 hl (by decide) rfl (fun ls hl => ?_)
        exact w_X3_drive_c102 hd C 9 ((f_X3_make S 6 (S.sizes x1.toNatClampNeg)).2) x1 x3 ((f_X3_make S 6 (S.sizes x1.toNatClampNeg)).1) 0 hvx (drv_exit hm h3 hle) (by rw [make_fst]; exact hv0) (Nat.zero_le _) rfl _ _ _ hP hI hS (lv_sub hl [2, 3, 5, 1, 0] rfl) (hq.trans (by simp only [f_X3_drive_c23, if_pos c_31, if_pos c_78]))
    · skip
      have hj8 := jl8 c_31 (hI.2.1 _).2 hj
      have hv0 : vp_in S.vals 60 := in2 hI.1.1 hm
      have hlj := lt_j hj c_31
      refine lv_aload_n hx hb dX3_drive_34 rfl (lv_at hl 0 rfl) ?_
      refine lv_iload_n hx hb dX3_drive_35 rfl (lv_at hl 2 rfl) ?_
      refine lv_if_ne (tgt := 43) hx hb dX3_drive_36 (by decide) (fun c_36 => ?_) (fun c_36 => ?_)
      · skip
        have hsx := make_sizes_0 hI 5 x1.toNatClampNeg
        have hvv := make_vals_i hI hm 5 0
        refine lv_iconst (v := 5) hx hb dX3_drive_43 (by decide) ?_
        refine lv_iconst (v := 0) hx hb dX3_drive_44 (by decide) ?_
        refine g_Wi (As := [.int 5, .int 0]) (rest := []) ⟨hx, hb, hml, hown, hts⟩ (c_X3_make l D cI cJ a hd S 5 0 hm (by decide)) (cwV 2 hts gX3_drive_X3_make rfl rfl rfl eeX3_make ⟨Nat.le_of_ble_eq_true rfl, Nat.le_of_ble_eq_true rfl⟩) hK hN hP hI (va_recv hK hP (ci := 3) (q0 := 0) rfl rfl) hS rfl hl.1 rfl (Nat.le_of_ble_eq_true rfl) dX3_drive_45 ⟨Nat.zero_le _, Nat.zero_le _⟩ (fun H locs hI hP hS => ?_)
        refine lv_istore (lv' := [(5, .int ((f_X3_make S 5 0).1)), (0, .ref (a 0)), (1, .int x1), (2, .int x2), (3, .int x3), (4, .int (nI j))]) hx hb dX3_drive_48 hl (by decide) rfl (fun ls hl => ?_)
        refine lv_aload_n hx hb dX3_drive_50 rfl (lv_at hl 1 rfl) ?_
        refine va_get (D := D) (ci := 3) (v := .ref (a 3)) (C := RX3) (T := TX3) (N := 13) hx hb hts iwX3_drive hown hK hP 0 rfl rfl 3 (by decide) (hts (.fieldLink RX3 16 "LoomPanelModel" "levels" "[I") flX3_drive_16) (fun _ h9 => h9) rfl dX3_drive_51 ?_
        refine lv_iload hx hb dX3_drive_54 (lv_at hl 0 rfl) ?_
        refine lv_aload_n hx hb dX3_drive_56 rfl (lv_at hl 1 rfl) ?_
        refine va_get (D := D) (ci := 3) (v := .ref (a 4)) (C := RX3) (T := TX3) (N := 13) hx hb hts iwX3_drive hown hK hP 0 rfl rfl 4 (by decide) (hts (.fieldLink RX3 19 "LoomPanelModel" "numbers" "[J") flX3_drive_19) (fun _ h9 => h9) rfl dX3_drive_57 ?_
        refine lv_bipush (v := 8) hx hb dX3_drive_60 (by decide) ?_
        refine lv_iload_n hx hb dX3_drive_62 rfl (lv_at hl 2 rfl) ?_
        refine lv_imul hx hb dX3_drive_63 ?_
        refine lv_iload hx hb dX3_drive_64 (lv_at hl 5 rfl) ?_
        refine lv_iadd hx hb dX3_drive_66 ?_
        refine va_lald hx hb hK hP 4 1 (f := ((f_X3_make S 5 0).2).nums) rfl rfl (ix8' hvx (jin hj8 (by decide))) dX3_drive_67 ?_
        refine lv_l2i (v := ((((f_X3_make S 5 0).2).nums) ((8 * x1) + (nI j)).toNatClampNeg).toInt32) hx hb dX3_drive_68 rfl ?_
        refine va_iast hx hb hK hP (mw_D hd) hS 3 0 (f := ((f_X3_make S 5 0).2).levels) rfl rfl (by rw [make_fst]; exact hv0) dX3_drive_69 (fun H locs hP _ hS => ?_)
        have hP : va_P D vwCl (mw cI cJ a (((f_X3_make S 5 0).2).set_levels (upd (((f_X3_make S 5 0).2).levels) ((f_X3_make S 5 0).1).toNatClampNeg (((((f_X3_make S 5 0).2).nums) ((8 * x1) + (nI j)).toNatClampNeg).toInt32)))) H := by rw [← mw_set_levels]; exact hP
        have hI : MInv (((f_X3_make S 5 0).2).set_levels (upd (((f_X3_make S 5 0).2).levels) ((f_X3_make S 5 0).1).toNatClampNeg (((((f_X3_make S 5 0).2).nums) ((8 * x1) + (nI j)).toNatClampNeg).toInt32))) := MInv_set_levels hI
        refine lv_iinc (v := nI (j + 1)) (lv' := [(4, .int (nI (j + 1))), (5, .int ((f_X3_make S 5 0).1)), (0, .ref (a 0)), (1, .int x1), (2, .int x2), (3, .int x3)]) hx hb dX3_drive_70 hl (k := 5) rfl (nI_1 _) (by decide) rfl (fun ls hl => ?_)
        refine lv_goto (tgt := 23) hx hb dX3_drive_73 (by decide) ?_
        exact ih (((f_X3_make S 5 0).2).set_levels (upd (((f_X3_make S 5 0).2).levels) ((f_X3_make S 5 0).1).toNatClampNeg (((((f_X3_make S 5 0).2).nums) ((8 * x1) + (nI j)).toNatClampNeg).toInt32))) x1 x2 x3 (j + 1) hvx ((drv_back hqq h3 hlj hvv hsx).1) ((drv_back hqq h3 hlj hvv hsx).2.1) ((drv_back hqq h3 hlj hvv hsx).2.2) hj8 (by omega) _ _ _ hP hI hS (lv_sub hl [2, 3, 4, 5, 0] rfl) (hq.trans (by simp only [f_X3_drive_c23, if_neg c_31, if_neg c_36]))
      · skip
        have hsx := make_sizes_0 hI 4 x1.toNatClampNeg
        have hvv := make_vals_i hI hm 4 0
        refine lv_iconst (v := 4) hx hb dX3_drive_39 (by decide) ?_
        refine lv_goto (tgt := 44) hx hb dX3_drive_40 (by decide) ?_
        refine lv_iconst (v := 0) hx hb dX3_drive_44 (by decide) ?_
        refine g_Wi (As := [.int 4, .int 0]) (rest := []) ⟨hx, hb, hml, hown, hts⟩ (c_X3_make l D cI cJ a hd S 4 0 hm (by decide)) (cwV 2 hts gX3_drive_X3_make rfl rfl rfl eeX3_make ⟨Nat.le_of_ble_eq_true rfl, Nat.le_of_ble_eq_true rfl⟩) hK hN hP hI (va_recv hK hP (ci := 3) (q0 := 0) rfl rfl) hS rfl hl.1 rfl (Nat.le_of_ble_eq_true rfl) dX3_drive_45 ⟨Nat.zero_le _, Nat.zero_le _⟩ (fun H locs hI hP hS => ?_)
        refine lv_istore (lv' := [(5, .int ((f_X3_make S 4 0).1)), (0, .ref (a 0)), (1, .int x1), (2, .int x2), (3, .int x3), (4, .int (nI j))]) hx hb dX3_drive_48 hl (by decide) rfl (fun ls hl => ?_)
        refine lv_aload_n hx hb dX3_drive_50 rfl (lv_at hl 1 rfl) ?_
        refine va_get (D := D) (ci := 3) (v := .ref (a 3)) (C := RX3) (T := TX3) (N := 13) hx hb hts iwX3_drive hown hK hP 0 rfl rfl 3 (by decide) (hts (.fieldLink RX3 16 "LoomPanelModel" "levels" "[I") flX3_drive_16) (fun _ h9 => h9) rfl dX3_drive_51 ?_
        refine lv_iload hx hb dX3_drive_54 (lv_at hl 0 rfl) ?_
        refine lv_aload_n hx hb dX3_drive_56 rfl (lv_at hl 1 rfl) ?_
        refine va_get (D := D) (ci := 3) (v := .ref (a 4)) (C := RX3) (T := TX3) (N := 13) hx hb hts iwX3_drive hown hK hP 0 rfl rfl 4 (by decide) (hts (.fieldLink RX3 19 "LoomPanelModel" "numbers" "[J") flX3_drive_19) (fun _ h9 => h9) rfl dX3_drive_57 ?_
        refine lv_bipush (v := 8) hx hb dX3_drive_60 (by decide) ?_
        refine lv_iload_n hx hb dX3_drive_62 rfl (lv_at hl 2 rfl) ?_
        refine lv_imul hx hb dX3_drive_63 ?_
        refine lv_iload hx hb dX3_drive_64 (lv_at hl 5 rfl) ?_
        refine lv_iadd hx hb dX3_drive_66 ?_
        refine va_lald hx hb hK hP 4 1 (f := ((f_X3_make S 4 0).2).nums) rfl rfl (ix8' hvx (jin hj8 (by decide))) dX3_drive_67 ?_
        refine lv_l2i (v := ((((f_X3_make S 4 0).2).nums) ((8 * x1) + (nI j)).toNatClampNeg).toInt32) hx hb dX3_drive_68 rfl ?_
        refine va_iast hx hb hK hP (mw_D hd) hS 3 0 (f := ((f_X3_make S 4 0).2).levels) rfl rfl (by rw [make_fst]; exact hv0) dX3_drive_69 (fun H locs hP _ hS => ?_)
        have hP : va_P D vwCl (mw cI cJ a (((f_X3_make S 4 0).2).set_levels (upd (((f_X3_make S 4 0).2).levels) ((f_X3_make S 4 0).1).toNatClampNeg (((((f_X3_make S 4 0).2).nums) ((8 * x1) + (nI j)).toNatClampNeg).toInt32)))) H := by rw [← mw_set_levels]; exact hP
        have hI : MInv (((f_X3_make S 4 0).2).set_levels (upd (((f_X3_make S 4 0).2).levels) ((f_X3_make S 4 0).1).toNatClampNeg (((((f_X3_make S 4 0).2).nums) ((8 * x1) + (nI j)).toNatClampNeg).toInt32))) := MInv_set_levels hI
        refine lv_iinc (v := nI (j + 1)) (lv' := [(4, .int (nI (j + 1))), (5, .int ((f_X3_make S 4 0).1)), (0, .ref (a 0)), (1, .int x1), (2, .int x2), (3, .int x3)]) hx hb dX3_drive_70 hl (k := 5) rfl (nI_1 _) (by decide) rfl (fun ls hl => ?_)
        refine lv_goto (tgt := 23) hx hb dX3_drive_73 (by decide) ?_
        exact ih (((f_X3_make S 4 0).2).set_levels (upd (((f_X3_make S 4 0).2).levels) ((f_X3_make S 4 0).1).toNatClampNeg (((((f_X3_make S 4 0).2).nums) ((8 * x1) + (nI j)).toNatClampNeg).toInt32))) x1 x2 x3 (j + 1) hvx ((drv_back hqq h3 hlj hvv hsx).1) ((drv_back hqq h3 hlj hvv hsx).2.1) ((drv_back hqq h3 hlj hvv hsx).2.2) hj8 (by omega) _ _ _ hP hI hS (lv_sub hl [2, 3, 4, 5, 0] rfl) (hq.trans (by simp only [f_X3_drive_c23, if_neg c_31, if_pos c_36]))
def f_X3_drive (S : MS) (x1 : Int32) (x2 : Int32) : Int32 × MS := if (S.forms x1.toNatClampNeg) = 1 then (f_X3_drive_c23 9 S x1 x2 S.vals 0) else ((f_X3_with 1, S))
set_option maxHeartbeats 4000000 in
set_option maxRecDepth 100000 in
theorem c_X3_drive (l : Launch) (D : va_G) (cI cJ : ClassId) (a : Nat → Nat) (hd : ∀ i j, i < 10 → j < 10 → a i = a j → i = j) (S : MS) (x1 : Int32) (x2 : Int32) (hvx : vp_in x1 60) (hm : S.vals.toInt < 60) (hrm : S.forms x1.toNatClampNeg = 1 → S.vals.toInt + (S.sizes x1.toNatClampNeg).toInt < 60) : GWi l yX3_drive wsX3_drive rmX3_drive [.ref (a 0), .int x1, .int x2] D (mw_tys cI cJ) (mw cI cJ a) MInv (mA a) S (f_X3_drive S x1 x2) := by
  refine GB_of (cc := cX3_drive) (maxL := 6) (ret := (some .int)) (by decide) rfl (Nat.le_of_ble_eq_true rfl) ?_
  intro p e s m below meth c C hP hI ls hl
  obtain ⟨hx, hb, hr, hlocks, hml, hown, hts, hK, hN⟩ := id C
  have hS : va_S (mA a) s.heap s.heap [] := va_S.rf
  have hl : lv_has ls 6 [(0, .ref (a 0)), (1, .int x1), (2, .int x2)] := hl
  refine lv_aload_n hx hb dX3_drive_0 rfl (lv_at hl 0 rfl) ?_
  refine va_get (D := D) (ci := 3) (v := .ref (a 1)) (C := RX3) (T := TX3) (N := 13) hx hb hts iwX3_drive hown hK hP 0 rfl rfl 1 (by decide) (hts (.fieldLink RX3 7 "LoomPanelModel" "forms" "[I") flX3_drive_7) (fun _ h9 => h9) rfl dX3_drive_1 ?_
  refine lv_iload_n hx hb dX3_drive_4 rfl (lv_at hl 1 rfl) ?_
  refine va_iald hx hb hK hP 1 0 (f := S.forms) rfl rfl hvx dX3_drive_5 ?_
  refine lv_iconst (v := 1) hx hb dX3_drive_6 (by decide) ?_
  refine lv_icmp_eq (tgt := 15) hx hb dX3_drive_7 (by decide) (fun c_7 => ?_) (fun c_7 => ?_)
  · skip
    refine lv_aload_n hx hb dX3_drive_15 rfl (lv_at hl 0 rfl) ?_
    refine va_get (D := D) (ci := 3) (v := .int S.vals) (C := RX3) (T := TX3) (N := 13) hx hb hts iwX3_drive hown hK hP 0 rfl rfl 0 (by decide) (hts (.fieldLink RX3 42 "LoomPanelModel" "values" "I") flX3_drive_42) (fun _ h9 => h9) rfl dX3_drive_16 ?_
    refine lv_istore_n (lv' := [(3, .int S.vals), (0, .ref (a 0)), (1, .int x1), (2, .int x2)]) hx hb dX3_drive_19 rfl hl (by decide) rfl (fun ls hl => ?_)
    refine lv_iconst (v := 0) hx hb dX3_drive_20 (by decide) ?_
    refine lv_istore (lv' := [(4, .int 0), (3, .int S.vals), (0, .ref (a 0)), (1, .int x1), (2, .int x2)]) hx hb dX3_drive_21 hl (by decide) rfl (fun ls hl => ?_)
    exact w_X3_drive_c23 hd C 9 S x1 x2 S.vals 0 hvx hm (by have := hrm c_7; omega) (⟨hI.1.1, by omega⟩) (Nat.zero_le _) rfl _ _ _ hP hI hS (lv_sub hl [2, 3, 4, 1, 0] rfl) (by simp only [f_X3_drive, if_pos c_7])
  · skip
    refine lv_iconst (v := 1) hx hb dX3_drive_10 (by decide) ?_
    refine g_Si (As := [.int 1]) (rest := []) ⟨hx, hb, hml, hown, hts⟩ (c_X3_with l 1) (va_cwS 1 hts gX3_drive_X3_with rfl rfl rfl esX3_with ⟨Nat.le_of_ble_eq_true rfl, Nat.le_of_ble_eq_true rfl⟩) hP hS rfl hl.1 rfl (Nat.le_of_ble_eq_true rfl) dX3_drive_11 ⟨Nat.zero_le _, Nat.zero_le _⟩ (fun H locs hP hS => ?_)
    exact r_Wi hx hb hr hlocks hP hI hS (by simp only [f_X3_drive, if_neg c_7]) dX3_drive_14
abbrev rmX3_pair : Room := { frames := 2, cells := 0, slots := 0, locals := 43 }
theorem eeX3_pair : yX3_pair.cls = RX3 ∧ yX3_pair.cls ≠ "java/lang/invoke/MethodHandle" ∧ yX3_pair.cls ≠ "java/lang/invoke/VarHandle" ∧ (parseMethodDescriptor yX3_pair.desc).map (fun d => d.parameters.length) = some 3 := by decide +kernel
theorem iwX3_pair : ∀ w ∈ u_ws RX3 TX3 13, w ∈ wsX3_pair := by decide +kernel
theorem flX3_pair_23 : Cond.fieldLink RX3 23 "LoomPanelModel" "lies" "[I" ∈ wsX3_pair := by decide +kernel
def f_X3_pair_c48 (S : MS) (x1 : Int32) (x2 : Int32) (x3 : Int32) : Int32 × MS := if x1 = (-1) then ((f_X3_with 2, S)) else (if x2 = (-1) then ((f_X3_with 2, S)) else (if x3 = 0 then (((f_X3_make S 9 2).1, (((f_X3_make S 9 2).2).set_lies (upd (((f_X3_make S 9 2).2).lies) (8 * ((f_X3_make S 9 2).1)).toNatClampNeg x1)).set_lies (upd ((((f_X3_make S 9 2).2).set_lies (upd (((f_X3_make S 9 2).2).lies) (8 * ((f_X3_make S 9 2).1)).toNatClampNeg x1)).lies) ((8 * ((f_X3_make S 9 2).1)) + 1).toNatClampNeg x2))) else (((f_X3_make S 10 2).1, (((f_X3_make S 10 2).2).set_lies (upd (((f_X3_make S 10 2).2).lies) (8 * ((f_X3_make S 10 2).1)).toNatClampNeg x1)).set_lies (upd ((((f_X3_make S 10 2).2).set_lies (upd (((f_X3_make S 10 2).2).lies) (8 * ((f_X3_make S 10 2).1)).toNatClampNeg x1)).lies) ((8 * ((f_X3_make S 10 2).1)) + 1).toNatClampNeg x2)))))
set_option maxHeartbeats 4000000 in
set_option maxRecDepth 100000 in
theorem w_X3_pair_c48 {l : Launch} {D : va_G} {cI cJ : ClassId} {a : Nat → Nat} (hd : ∀ i j, i < 10 → j < 10 → a i = a j → i = j) {p : Program} {e : Env} {s : State} {m : MethodId} {args : Array Value} {below : List Frame} {meth : Method} {c : Code} (C : GC p s m meth c cX3_pair (some .int) 6 RX3 wsX3_pair args D (mw_tys cI cJ)) {v : Int32 × MS} : ∀ (S : MS) (x1 : Int32) (x2 : Int32) (x3 : Int32) (hvx : NV x1) (hy : NV x2) (hm : S.vals.toInt < 60) (H : Heap) (locs : List Loc) (ls : Array Slot), va_P D vwCl (mw cI cJ a S) H → MInv S → va_S (mA a) s.heap H locs → lv_has ls 6 [(0, .ref (a 0)), (1, .int x1), (2, .int x2), (3, .int x3)] → v = f_X3_pair_c48 S x1 x2 x3 → W p l e rmX3_pair s m args below meth c H locs 0 0 (MQ below (va_Qi (fun r u => v = (r, u)) (GE D (mw cI cJ a) MInv) (mA a)) args s 0 0 (mA a)) (F0 m 48 ls []) := by
  obtain ⟨hx, hb, hr, hlocks, hml, hown, hts, hK, hN⟩ := id C
  intro S x1 x2 x3 hvx hy hm H locs ls hP hI hS hl hq
  refine lv_iload_n hx hb dX3_pair_48 rfl (lv_at hl 1 rfl) ?_
  refine lv_iconst (v := (-1)) hx hb dX3_pair_49 (by decide) ?_
  refine lv_icmp_eq (tgt := 58) hx hb dX3_pair_50 (by decide) (fun c_50 => ?_) (fun c_50 => ?_)
  · skip
    refine lv_iconst (v := 2) hx hb dX3_pair_58 (by decide) ?_
    refine g_Si (As := [.int 2]) (rest := []) ⟨hx, hb, hml, hown, hts⟩ (c_X3_with l 2) (va_cwS 1 hts gX3_pair_X3_with rfl rfl rfl esX3_with ⟨Nat.le_of_ble_eq_true rfl, Nat.le_of_ble_eq_true rfl⟩) hP hS rfl hl.1 rfl (Nat.le_of_ble_eq_true rfl) dX3_pair_59 ⟨Nat.zero_le _, Nat.zero_le _⟩ (fun H locs hP hS => ?_)
    exact r_Wi hx hb hr hlocks hP hI hS (hq.trans (by simp only [f_X3_pair_c48, if_pos c_50])) dX3_pair_62
  · skip
    refine lv_iload_n hx hb dX3_pair_53 rfl (lv_at hl 2 rfl) ?_
    refine lv_iconst (v := (-1)) hx hb dX3_pair_54 (by decide) ?_
    refine lv_icmp_ne (tgt := 63) hx hb dX3_pair_55 (by decide) (fun c_55 => ?_) (fun c_55 => ?_)
    · skip
      have hv0 : vp_in S.vals 60 := in2 hI.1.1 hm
      refine lv_aload_n hx hb dX3_pair_63 rfl (lv_at hl 0 rfl) ?_
      refine lv_iload_n hx hb dX3_pair_64 rfl (lv_at hl 3 rfl) ?_
      refine lv_if_ne (tgt := 73) hx hb dX3_pair_65 (by decide) (fun c_65 => ?_) (fun c_65 => ?_)
      · skip
        refine lv_bipush (v := 10) hx hb dX3_pair_73 (by decide) ?_
        refine lv_iconst (v := 2) hx hb dX3_pair_75 (by decide) ?_
        refine g_Wi (As := [.int 10, .int 2]) (rest := []) ⟨hx, hb, hml, hown, hts⟩ (c_X3_make l D cI cJ a hd S 10 2 hm (by decide)) (cwV 2 hts gX3_pair_X3_make rfl rfl rfl eeX3_make ⟨Nat.le_of_ble_eq_true rfl, Nat.le_of_ble_eq_true rfl⟩) hK hN hP hI (va_recv hK hP (ci := 3) (q0 := 0) rfl rfl) hS rfl hl.1 rfl (Nat.le_of_ble_eq_true rfl) dX3_pair_76 ⟨Nat.zero_le _, Nat.zero_le _⟩ (fun H locs hI hP hS => ?_)
        refine lv_istore (lv' := [(5, .int ((f_X3_make S 10 2).1)), (0, .ref (a 0)), (1, .int x1), (2, .int x2), (3, .int x3)]) hx hb dX3_pair_79 hl (by decide) rfl (fun ls hl => ?_)
        refine lv_aload_n hx hb dX3_pair_81 rfl (lv_at hl 1 rfl) ?_
        refine va_get (D := D) (ci := 3) (v := .ref (a 5)) (C := RX3) (T := TX3) (N := 13) hx hb hts iwX3_pair hown hK hP 0 rfl rfl 5 (by decide) (hts (.fieldLink RX3 23 "LoomPanelModel" "lies" "[I") flX3_pair_23) (fun _ h9 => h9) rfl dX3_pair_82 ?_
        refine lv_bipush (v := 8) hx hb dX3_pair_85 (by decide) ?_
        refine lv_iload hx hb dX3_pair_87 (lv_at hl 0 rfl) ?_
        refine lv_imul hx hb dX3_pair_89 ?_
        refine lv_iload_n hx hb dX3_pair_90 rfl (lv_at hl 2 rfl) ?_
        refine va_iast hx hb hK hP (mw_D hd) hS 5 0 (f := ((f_X3_make S 10 2).2).lies) rfl rfl (ix80 (by rw [make_fst]; exact hv0)) dX3_pair_91 (fun H locs hP _ hS => ?_)
        have hP : va_P D vwCl (mw cI cJ a (((f_X3_make S 10 2).2).set_lies (upd (((f_X3_make S 10 2).2).lies) (8 * ((f_X3_make S 10 2).1)).toNatClampNeg x1))) H := by rw [← mw_set_lies]; exact hP
        have hI : MInv (((f_X3_make S 10 2).2).set_lies (upd (((f_X3_make S 10 2).2).lies) (8 * ((f_X3_make S 10 2).1)).toNatClampNeg x1)) := lies_set hI hvx
        refine lv_aload_n hx hb dX3_pair_92 rfl (lv_at hl 1 rfl) ?_
        refine va_get (D := D) (ci := 3) (v := .ref (a 5)) (C := RX3) (T := TX3) (N := 13) hx hb hts iwX3_pair hown hK hP 0 rfl rfl 5 (by decide) (hts (.fieldLink RX3 23 "LoomPanelModel" "lies" "[I") flX3_pair_23) (fun _ h9 => h9) rfl dX3_pair_93 ?_
        refine lv_bipush (v := 8) hx hb dX3_pair_96 (by decide) ?_
        refine lv_iload hx hb dX3_pair_98 (lv_at hl 0 rfl) ?_
        refine lv_imul hx hb dX3_pair_100 ?_
        refine lv_iconst (v := 1) hx hb dX3_pair_101 (by decide) ?_
        refine lv_iadd hx hb dX3_pair_102 ?_
        refine lv_iload_n hx hb dX3_pair_103 rfl (lv_at hl 3 rfl) ?_
        refine va_iast hx hb hK hP (mw_D hd) hS 5 0 (f := (((f_X3_make S 10 2).2).set_lies (upd (((f_X3_make S 10 2).2).lies) (8 * ((f_X3_make S 10 2).1)).toNatClampNeg x1)).lies) rfl rfl (ix8' (by rw [make_fst]; exact hv0) in18) dX3_pair_104 (fun H locs hP _ hS => ?_)
        have hP : va_P D vwCl (mw cI cJ a ((((f_X3_make S 10 2).2).set_lies (upd (((f_X3_make S 10 2).2).lies) (8 * ((f_X3_make S 10 2).1)).toNatClampNeg x1)).set_lies (upd ((((f_X3_make S 10 2).2).set_lies (upd (((f_X3_make S 10 2).2).lies) (8 * ((f_X3_make S 10 2).1)).toNatClampNeg x1)).lies) ((8 * ((f_X3_make S 10 2).1)) + 1).toNatClampNeg x2))) H := by rw [← mw_set_lies]; exact hP
        have hI : MInv ((((f_X3_make S 10 2).2).set_lies (upd (((f_X3_make S 10 2).2).lies) (8 * ((f_X3_make S 10 2).1)).toNatClampNeg x1)).set_lies (upd ((((f_X3_make S 10 2).2).set_lies (upd (((f_X3_make S 10 2).2).lies) (8 * ((f_X3_make S 10 2).1)).toNatClampNeg x1)).lies) ((8 * ((f_X3_make S 10 2).1)) + 1).toNatClampNeg x2)) := lies_set hI hy
        refine lv_iload hx hb dX3_pair_105 (lv_at hl 0 rfl) ?_
        exact r_Wi hx hb hr hlocks hP hI hS (hq.trans (by simp only [f_X3_pair_c48, if_neg c_50, if_neg c_55, if_neg c_65])) dX3_pair_107
      · skip
        refine lv_bipush (v := 9) hx hb dX3_pair_68 (by decide) ?_
        refine lv_goto (tgt := 75) hx hb dX3_pair_70 (by decide) ?_
        refine lv_iconst (v := 2) hx hb dX3_pair_75 (by decide) ?_
        refine g_Wi (As := [.int 9, .int 2]) (rest := []) ⟨hx, hb, hml, hown, hts⟩ (c_X3_make l D cI cJ a hd S 9 2 hm (by decide)) (cwV 2 hts gX3_pair_X3_make rfl rfl rfl eeX3_make ⟨Nat.le_of_ble_eq_true rfl, Nat.le_of_ble_eq_true rfl⟩) hK hN hP hI (va_recv hK hP (ci := 3) (q0 := 0) rfl rfl) hS rfl hl.1 rfl (Nat.le_of_ble_eq_true rfl) dX3_pair_76 ⟨Nat.zero_le _, Nat.zero_le _⟩ (fun H locs hI hP hS => ?_)
        refine lv_istore (lv' := [(5, .int ((f_X3_make S 9 2).1)), (0, .ref (a 0)), (1, .int x1), (2, .int x2), (3, .int x3)]) hx hb dX3_pair_79 hl (by decide) rfl (fun ls hl => ?_)
        refine lv_aload_n hx hb dX3_pair_81 rfl (lv_at hl 1 rfl) ?_
        refine va_get (D := D) (ci := 3) (v := .ref (a 5)) (C := RX3) (T := TX3) (N := 13) hx hb hts iwX3_pair hown hK hP 0 rfl rfl 5 (by decide) (hts (.fieldLink RX3 23 "LoomPanelModel" "lies" "[I") flX3_pair_23) (fun _ h9 => h9) rfl dX3_pair_82 ?_
        refine lv_bipush (v := 8) hx hb dX3_pair_85 (by decide) ?_
        refine lv_iload hx hb dX3_pair_87 (lv_at hl 0 rfl) ?_
        refine lv_imul hx hb dX3_pair_89 ?_
        refine lv_iload_n hx hb dX3_pair_90 rfl (lv_at hl 2 rfl) ?_
        refine va_iast hx hb hK hP (mw_D hd) hS 5 0 (f := ((f_X3_make S 9 2).2).lies) rfl rfl (ix80 (by rw [make_fst]; exact hv0)) dX3_pair_91 (fun H locs hP _ hS => ?_)
        have hP : va_P D vwCl (mw cI cJ a (((f_X3_make S 9 2).2).set_lies (upd (((f_X3_make S 9 2).2).lies) (8 * ((f_X3_make S 9 2).1)).toNatClampNeg x1))) H := by rw [← mw_set_lies]; exact hP
        have hI : MInv (((f_X3_make S 9 2).2).set_lies (upd (((f_X3_make S 9 2).2).lies) (8 * ((f_X3_make S 9 2).1)).toNatClampNeg x1)) := lies_set hI hvx
        refine lv_aload_n hx hb dX3_pair_92 rfl (lv_at hl 1 rfl) ?_
        refine va_get (D := D) (ci := 3) (v := .ref (a 5)) (C := RX3) (T := TX3) (N := 13) hx hb hts iwX3_pair hown hK hP 0 rfl rfl 5 (by decide) (hts (.fieldLink RX3 23 "LoomPanelModel" "lies" "[I") flX3_pair_23) (fun _ h9 => h9) rfl dX3_pair_93 ?_
        refine lv_bipush (v := 8) hx hb dX3_pair_96 (by decide) ?_
        refine lv_iload hx hb dX3_pair_98 (lv_at hl 0 rfl) ?_
        refine lv_imul hx hb dX3_pair_100 ?_
        refine lv_iconst (v := 1) hx hb dX3_pair_101 (by decide) ?_
        refine lv_iadd hx hb dX3_pair_102 ?_
        refine lv_iload_n hx hb dX3_pair_103 rfl (lv_at hl 3 rfl) ?_
        refine va_iast hx hb hK hP (mw_D hd) hS 5 0 (f := (((f_X3_make S 9 2).2).set_lies (upd (((f_X3_make S 9 2).2).lies) (8 * ((f_X3_make S 9 2).1)).toNatClampNeg x1)).lies) rfl rfl (ix8' (by rw [make_fst]; exact hv0) in18) dX3_pair_104 (fun H locs hP _ hS => ?_)
        have hP : va_P D vwCl (mw cI cJ a ((((f_X3_make S 9 2).2).set_lies (upd (((f_X3_make S 9 2).2).lies) (8 * ((f_X3_make S 9 2).1)).toNatClampNeg x1)).set_lies (upd ((((f_X3_make S 9 2).2).set_lies (upd (((f_X3_make S 9 2).2).lies) (8 * ((f_X3_make S 9 2).1)).toNatClampNeg x1)).lies) ((8 * ((f_X3_make S 9 2).1)) + 1).toNatClampNeg x2))) H := by rw [← mw_set_lies]; exact hP
        have hI : MInv ((((f_X3_make S 9 2).2).set_lies (upd (((f_X3_make S 9 2).2).lies) (8 * ((f_X3_make S 9 2).1)).toNatClampNeg x1)).set_lies (upd ((((f_X3_make S 9 2).2).set_lies (upd (((f_X3_make S 9 2).2).lies) (8 * ((f_X3_make S 9 2).1)).toNatClampNeg x1)).lies) ((8 * ((f_X3_make S 9 2).1)) + 1).toNatClampNeg x2)) := lies_set hI hy
        refine lv_iload hx hb dX3_pair_105 (lv_at hl 0 rfl) ?_
        exact r_Wi hx hb hr hlocks hP hI hS (hq.trans (by simp only [f_X3_pair_c48, if_neg c_50, if_neg c_55, if_pos c_65])) dX3_pair_107
    · skip
      refine lv_iconst (v := 2) hx hb dX3_pair_58 (by decide) ?_
      refine g_Si (As := [.int 2]) (rest := []) ⟨hx, hb, hml, hown, hts⟩ (c_X3_with l 2) (va_cwS 1 hts gX3_pair_X3_with rfl rfl rfl esX3_with ⟨Nat.le_of_ble_eq_true rfl, Nat.le_of_ble_eq_true rfl⟩) hP hS rfl hl.1 rfl (Nat.le_of_ble_eq_true rfl) dX3_pair_59 ⟨Nat.zero_le _, Nat.zero_le _⟩ (fun H locs hP hS => ?_)
      exact r_Wi hx hb hr hlocks hP hI hS (hq.trans (by simp only [f_X3_pair_c48, if_neg c_50, if_pos c_55])) dX3_pair_62
def f_X3_pair_c28 (S : MS) (x1 : Int32) (x2 : Int32) (x3 : Int32) (x4 : Int32) : Int32 × MS := if x2 = (-1) then (f_X3_pair_c48 S x1 x2 x3) else (if (f_X3_isOf S x2 x4) = 0 then ((f_X3_with 1, S)) else (f_X3_pair_c48 S x1 x2 x3))
set_option maxHeartbeats 4000000 in
set_option maxRecDepth 100000 in
theorem w_X3_pair_c28 {l : Launch} {D : va_G} {cI cJ : ClassId} {a : Nat → Nat} (hd : ∀ i j, i < 10 → j < 10 → a i = a j → i = j) {p : Program} {e : Env} {s : State} {m : MethodId} {args : Array Value} {below : List Frame} {meth : Method} {c : Code} (C : GC p s m meth c cX3_pair (some .int) 6 RX3 wsX3_pair args D (mw_tys cI cJ)) {v : Int32 × MS} : ∀ (S : MS) (x1 : Int32) (x2 : Int32) (x3 : Int32) (x4 : Int32) (hvx : NV x1) (hy : NV x2) (hm : S.vals.toInt < 60) (H : Heap) (locs : List Loc) (ls : Array Slot), va_P D vwCl (mw cI cJ a S) H → MInv S → va_S (mA a) s.heap H locs → lv_has ls 6 [(0, .ref (a 0)), (1, .int x1), (2, .int x2), (3, .int x3), (4, .int x4)] → v = f_X3_pair_c28 S x1 x2 x3 x4 → W p l e rmX3_pair s m args below meth c H locs 0 0 (MQ below (va_Qi (fun r u => v = (r, u)) (GE D (mw cI cJ a) MInv) (mA a)) args s 0 0 (mA a)) (F0 m 28 ls []) := by
  obtain ⟨hx, hb, hr, hlocks, hml, hown, hts, hK, hN⟩ := id C
  intro S x1 x2 x3 x4 hvx hy hm H locs ls hP hI hS hl hq
  refine lv_iload_n hx hb dX3_pair_28 rfl (lv_at hl 2 rfl) ?_
  refine lv_iconst (v := (-1)) hx hb dX3_pair_29 (by decide) ?_
  refine lv_icmp_eq (tgt := 48) hx hb dX3_pair_30 (by decide) (fun c_30 => ?_) (fun c_30 => ?_)
  · skip
    exact w_X3_pair_c48 hd C S x1 x2 x3 hvx hy hm _ _ _ hP hI hS (lv_sub hl [0, 1, 2, 3] rfl) (hq.trans (by simp only [f_X3_pair_c28, if_pos c_30]))
  · skip
    refine lv_aload_n hx hb dX3_pair_33 rfl (lv_at hl 0 rfl) ?_
    refine lv_iload_n hx hb dX3_pair_34 rfl (lv_at hl 2 rfl) ?_
    refine lv_iload hx hb dX3_pair_35 (lv_at hl 4 rfl) ?_
    refine g_Ri (As := [.int x2, .int x4]) (rest := []) ⟨hx, hb, hml, hown, hts⟩ (c_X3_isOf l D cI cJ a hd S x2 x4 hy.2) (cwV 2 hts gX3_pair_X3_isOf rfl rfl rfl eeX3_isOf ⟨Nat.le_of_ble_eq_true rfl, Nat.le_of_ble_eq_true rfl⟩) hK hN hP hI (va_recv hK hP (ci := 3) (q0 := 0) rfl rfl) hS rfl hl.1 rfl (Nat.le_of_ble_eq_true rfl) dX3_pair_37 ⟨Nat.zero_le _, Nat.zero_le _⟩ (fun H locs hP hS => ?_)
    refine lv_if_ne (tgt := 48) hx hb dX3_pair_40 (by decide) (fun c_40 => ?_) (fun c_40 => ?_)
    · skip
      exact w_X3_pair_c48 hd C S x1 x2 x3 hvx hy hm _ _ _ hP hI hS (lv_sub hl [0, 1, 2, 3] rfl) (hq.trans (by simp only [f_X3_pair_c28, if_neg c_30, if_neg c_40]))
    · skip
      refine lv_iconst (v := 1) hx hb dX3_pair_43 (by decide) ?_
      refine g_Si (As := [.int 1]) (rest := []) ⟨hx, hb, hml, hown, hts⟩ (c_X3_with l 1) (va_cwS 1 hts gX3_pair_X3_with rfl rfl rfl esX3_with ⟨Nat.le_of_ble_eq_true rfl, Nat.le_of_ble_eq_true rfl⟩) hP hS rfl hl.1 rfl (Nat.le_of_ble_eq_true rfl) dX3_pair_44 ⟨Nat.zero_le _, Nat.zero_le _⟩ (fun H locs hP hS => ?_)
      exact r_Wi hx hb hr hlocks hP hI hS (hq.trans (by simp only [f_X3_pair_c28, if_neg c_30, if_pos c_40])) dX3_pair_47
def f_X3_pair_c13 (S : MS) (x1 : Int32) (x2 : Int32) (x3 : Int32) (x4 : Int32) : Int32 × MS := if x1 = (-1) then (f_X3_pair_c28 S x1 x2 x3 x4) else (if (f_X3_isOf S x1 x4) = 0 then ((f_X3_with 1, S)) else (f_X3_pair_c28 S x1 x2 x3 x4))
set_option maxHeartbeats 4000000 in
set_option maxRecDepth 100000 in
theorem w_X3_pair_c13 {l : Launch} {D : va_G} {cI cJ : ClassId} {a : Nat → Nat} (hd : ∀ i j, i < 10 → j < 10 → a i = a j → i = j) {p : Program} {e : Env} {s : State} {m : MethodId} {args : Array Value} {below : List Frame} {meth : Method} {c : Code} (C : GC p s m meth c cX3_pair (some .int) 6 RX3 wsX3_pair args D (mw_tys cI cJ)) {v : Int32 × MS} : ∀ (S : MS) (x1 : Int32) (x2 : Int32) (x3 : Int32) (x4 : Int32) (hvx : NV x1) (hy : NV x2) (hm : S.vals.toInt < 60) (H : Heap) (locs : List Loc) (ls : Array Slot), va_P D vwCl (mw cI cJ a S) H → MInv S → va_S (mA a) s.heap H locs → lv_has ls 6 [(0, .ref (a 0)), (1, .int x1), (2, .int x2), (3, .int x3), (4, .int x4)] → v = f_X3_pair_c13 S x1 x2 x3 x4 → W p l e rmX3_pair s m args below meth c H locs 0 0 (MQ below (va_Qi (fun r u => v = (r, u)) (GE D (mw cI cJ a) MInv) (mA a)) args s 0 0 (mA a)) (F0 m 13 ls []) := by
  obtain ⟨hx, hb, hr, hlocks, hml, hown, hts, hK, hN⟩ := id C
  intro S x1 x2 x3 x4 hvx hy hm H locs ls hP hI hS hl hq
  refine lv_iload_n hx hb dX3_pair_13 rfl (lv_at hl 1 rfl) ?_
  refine lv_iconst (v := (-1)) hx hb dX3_pair_14 (by decide) ?_
  refine lv_icmp_eq (tgt := 28) hx hb dX3_pair_15 (by decide) (fun c_15 => ?_) (fun c_15 => ?_)
  · skip
    exact w_X3_pair_c28 hd C S x1 x2 x3 x4 hvx hy hm _ _ _ hP hI hS (lv_sub hl [0, 1, 2, 3, 4] rfl) (hq.trans (by simp only [f_X3_pair_c13, if_pos c_15]))
  · skip
    refine lv_aload_n hx hb dX3_pair_18 rfl (lv_at hl 0 rfl) ?_
    refine lv_iload_n hx hb dX3_pair_19 rfl (lv_at hl 1 rfl) ?_
    refine lv_iload hx hb dX3_pair_20 (lv_at hl 4 rfl) ?_
    refine g_Ri (As := [.int x1, .int x4]) (rest := []) ⟨hx, hb, hml, hown, hts⟩ (c_X3_isOf l D cI cJ a hd S x1 x4 hvx.2) (cwV 2 hts gX3_pair_X3_isOf rfl rfl rfl eeX3_isOf ⟨Nat.le_of_ble_eq_true rfl, Nat.le_of_ble_eq_true rfl⟩) hK hN hP hI (va_recv hK hP (ci := 3) (q0 := 0) rfl rfl) hS rfl hl.1 rfl (Nat.le_of_ble_eq_true rfl) dX3_pair_22 ⟨Nat.zero_le _, Nat.zero_le _⟩ (fun H locs hP hS => ?_)
    refine lv_if_eq (tgt := 43) hx hb dX3_pair_25 (by decide) (fun c_25 => ?_) (fun c_25 => ?_)
    · skip
      refine lv_iconst (v := 1) hx hb dX3_pair_43 (by decide) ?_
      refine g_Si (As := [.int 1]) (rest := []) ⟨hx, hb, hml, hown, hts⟩ (c_X3_with l 1) (va_cwS 1 hts gX3_pair_X3_with rfl rfl rfl esX3_with ⟨Nat.le_of_ble_eq_true rfl, Nat.le_of_ble_eq_true rfl⟩) hP hS rfl hl.1 rfl (Nat.le_of_ble_eq_true rfl) dX3_pair_44 ⟨Nat.zero_le _, Nat.zero_le _⟩ (fun H locs hP hS => ?_)
      exact r_Wi hx hb hr hlocks hP hI hS (hq.trans (by simp only [f_X3_pair_c13, if_neg c_15, if_pos c_25])) dX3_pair_47
    · skip
      exact w_X3_pair_c28 hd C S x1 x2 x3 x4 hvx hy hm _ _ _ hP hI hS (lv_sub hl [0, 1, 2, 3, 4] rfl) (hq.trans (by simp only [f_X3_pair_c13, if_neg c_15, if_neg c_25]))
def f_X3_pair (S : MS) (x1 : Int32) (x2 : Int32) (x3 : Int32) : Int32 × MS := if x3 = 0 then (f_X3_pair_c13 S x1 x2 x3 6) else (f_X3_pair_c13 S x1 x2 x3 7)
set_option maxHeartbeats 4000000 in
set_option maxRecDepth 100000 in
theorem c_X3_pair (l : Launch) (D : va_G) (cI cJ : ClassId) (a : Nat → Nat) (hd : ∀ i j, i < 10 → j < 10 → a i = a j → i = j) (S : MS) (x1 : Int32) (x2 : Int32) (x3 : Int32) (hvx : NV x1) (hy : NV x2) (hm : S.vals.toInt < 60) : GWi l yX3_pair wsX3_pair rmX3_pair [.ref (a 0), .int x1, .int x2, .int x3] D (mw_tys cI cJ) (mw cI cJ a) MInv (mA a) S (f_X3_pair S x1 x2 x3) := by
  refine GB_of (cc := cX3_pair) (maxL := 6) (ret := (some .int)) (by decide) rfl (Nat.le_of_ble_eq_true rfl) ?_
  intro p e s m below meth c C hP hI ls hl
  obtain ⟨hx, hb, hr, hlocks, hml, hown, hts, hK, hN⟩ := id C
  have hS : va_S (mA a) s.heap s.heap [] := va_S.rf
  have hl : lv_has ls 6 [(0, .ref (a 0)), (1, .int x1), (2, .int x2), (3, .int x3)] := hl
  refine lv_iload_n hx hb dX3_pair_0 rfl (lv_at hl 3 rfl) ?_
  refine lv_if_ne (tgt := 9) hx hb dX3_pair_1 (by decide) (fun c_1 => ?_) (fun c_1 => ?_)
  · skip
    refine lv_bipush (v := 7) hx hb dX3_pair_9 (by decide) ?_
    refine lv_istore (lv' := [(4, .int 7), (0, .ref (a 0)), (1, .int x1), (2, .int x2), (3, .int x3)]) hx hb dX3_pair_11 hl (by decide) rfl (fun ls hl => ?_)
    exact w_X3_pair_c13 hd C S x1 x2 x3 7 hvx hy hm _ _ _ hP hI hS (lv_sub hl [1, 2, 3, 4, 0] rfl) (by simp only [f_X3_pair, if_neg c_1])
  · skip
    refine lv_bipush (v := 6) hx hb dX3_pair_4 (by decide) ?_
    refine lv_goto (tgt := 11) hx hb dX3_pair_6 (by decide) ?_
    refine lv_istore (lv' := [(4, .int 6), (0, .ref (a 0)), (1, .int x1), (2, .int x2), (3, .int x3)]) hx hb dX3_pair_11 hl (by decide) rfl (fun ls hl => ?_)
    exact w_X3_pair_c13 hd C S x1 x2 x3 6 hvx hy hm _ _ _ hP hI hS (lv_sub hl [1, 2, 3, 4, 0] rfl) (by simp only [f_X3_pair, if_pos c_1])
abbrev rmX3_power : Room := { frames := 2, cells := 0, slots := 0, locals := 49 }
theorem eeX3_power : yX3_power.cls = RX3 ∧ yX3_power.cls ≠ "java/lang/invoke/MethodHandle" ∧ yX3_power.cls ≠ "java/lang/invoke/VarHandle" ∧ (parseMethodDescriptor yX3_power.desc).map (fun d => d.parameters.length) = some 1 := by decide +kernel
theorem iwX3_power : ∀ w ∈ u_ws RX3 TX3 13, w ∈ wsX3_power := by decide +kernel
theorem flX3_power_16 : Cond.fieldLink RX3 16 "LoomPanelModel" "levels" "[I" ∈ wsX3_power := by decide +kernel
theorem flX3_power_19 : Cond.fieldLink RX3 19 "LoomPanelModel" "numbers" "[J" ∈ wsX3_power := by decide +kernel
theorem flX3_power_7 : Cond.fieldLink RX3 7 "LoomPanelModel" "forms" "[I" ∈ wsX3_power := by decide +kernel
def f_X3_power (S : MS) (x1 : Int32) : Int32 × MS := if (S.forms x1.toNatClampNeg) = 5 then (((f_X3_make S 1 1).1, ((f_X3_make S 1 1).2).set_nums (vp_updL (((f_X3_make S 1 1).2).nums) (8 * ((f_X3_make S 1 1).1)).toNatClampNeg ((3 * ((((f_X3_make S 1 1).2).levels) x1.toNatClampNeg)).toInt64)))) else (if (f_X3_isOf S x1 8) = 0 then ((f_X3_with 1, S)) else (((f_X3_levelsOf S x1 3).1, (f_X3_levelsOf S x1 3).2)))
set_option maxHeartbeats 4000000 in
set_option maxRecDepth 100000 in
theorem c_X3_power (l : Launch) (D : va_G) (cI cJ : ClassId) (a : Nat → Nat) (hd : ∀ i j, i < 10 → j < 10 → a i = a j → i = j) (S : MS) (x1 : Int32) (hvx : vp_in x1 60) (hm : S.vals.toInt < 60) : GWi l yX3_power wsX3_power rmX3_power [.ref (a 0), .int x1] D (mw_tys cI cJ) (mw cI cJ a) MInv (mA a) S (f_X3_power S x1) := by
  refine GB_of (cc := cX3_power) (maxL := 3) (ret := (some .int)) (by decide) rfl (Nat.le_of_ble_eq_true rfl) ?_
  intro p e s m below meth c C hP hI ls hl
  obtain ⟨hx, hb, hr, hlocks, hml, hown, hts, hK, hN⟩ := id C
  have hS : va_S (mA a) s.heap s.heap [] := va_S.rf
  have hl : lv_has ls 3 [(0, .ref (a 0)), (1, .int x1)] := hl
  have hv0 : vp_in S.vals 60 := in2 hI.1.1 hm
  refine lv_aload_n hx hb dX3_power_0 rfl (lv_at hl 0 rfl) ?_
  refine va_get (D := D) (ci := 3) (v := .ref (a 1)) (C := RX3) (T := TX3) (N := 13) hx hb hts iwX3_power hown hK hP 0 rfl rfl 1 (by decide) (hts (.fieldLink RX3 7 "LoomPanelModel" "forms" "[I") flX3_power_7) (fun _ h9 => h9) rfl dX3_power_1 ?_
  refine lv_iload_n hx hb dX3_power_4 rfl (lv_at hl 1 rfl) ?_
  refine va_iald hx hb hK hP 1 0 (f := S.forms) rfl rfl hvx dX3_power_5 ?_
  refine lv_iconst (v := 5) hx hb dX3_power_6 (by decide) ?_
  refine lv_icmp_ne (tgt := 37) hx hb dX3_power_7 (by decide) (fun c_7 => ?_) (fun c_7 => ?_)
  · skip
    refine lv_aload_n hx hb dX3_power_37 rfl (lv_at hl 0 rfl) ?_
    refine lv_iload_n hx hb dX3_power_38 rfl (lv_at hl 1 rfl) ?_
    refine lv_bipush (v := 8) hx hb dX3_power_39 (by decide) ?_
    refine g_Ri (As := [.int x1, .int 8]) (rest := []) ⟨hx, hb, hml, hown, hts⟩ (c_X3_isOf l D cI cJ a hd S x1 8 (in_lt hvx)) (cwV 2 hts gX3_power_X3_isOf rfl rfl rfl eeX3_isOf ⟨Nat.le_of_ble_eq_true rfl, Nat.le_of_ble_eq_true rfl⟩) hK hN hP hI (va_recv hK hP (ci := 3) (q0 := 0) rfl rfl) hS rfl hl.1 rfl (Nat.le_of_ble_eq_true rfl) dX3_power_41 ⟨Nat.zero_le _, Nat.zero_le _⟩ (fun H locs hP hS => ?_)
    refine lv_if_eq (tgt := 56) hx hb dX3_power_44 (by decide) (fun c_44 => ?_) (fun c_44 => ?_)
    · skip
      refine lv_iconst (v := 1) hx hb dX3_power_56 (by decide) ?_
      refine g_Si (As := [.int 1]) (rest := []) ⟨hx, hb, hml, hown, hts⟩ (c_X3_with l 1) (va_cwS 1 hts gX3_power_X3_with rfl rfl rfl esX3_with ⟨Nat.le_of_ble_eq_true rfl, Nat.le_of_ble_eq_true rfl⟩) hP hS rfl hl.1 rfl (Nat.le_of_ble_eq_true rfl) dX3_power_57 ⟨Nat.zero_le _, Nat.zero_le _⟩ (fun H locs hP hS => ?_)
      exact r_Wi hx hb hr hlocks hP hI hS (by simp only [f_X3_power, if_neg c_7, if_pos c_44]) dX3_power_60
    · skip
      refine lv_aload_n hx hb dX3_power_47 rfl (lv_at hl 0 rfl) ?_
      refine lv_iload_n hx hb dX3_power_48 rfl (lv_at hl 1 rfl) ?_
      refine lv_iconst (v := 3) hx hb dX3_power_49 (by decide) ?_
      refine g_Wi (As := [.int x1, .int 3]) (rest := []) ⟨hx, hb, hml, hown, hts⟩ (c_X3_levelsOf l D cI cJ a hd S x1 3 hvx hm) (cwV 2 hts gX3_power_X3_levelsOf rfl rfl rfl eeX3_levelsOf ⟨Nat.le_of_ble_eq_true rfl, Nat.le_of_ble_eq_true rfl⟩) hK hN hP hI (va_recv hK hP (ci := 3) (q0 := 0) rfl rfl) hS rfl hl.1 rfl (Nat.le_of_ble_eq_true rfl) dX3_power_50 ⟨Nat.zero_le _, Nat.zero_le _⟩ (fun H locs hI hP hS => ?_)
      refine lv_goto (tgt := 60) hx hb dX3_power_53 (by decide) ?_
      exact r_Wi hx hb hr hlocks hP hI hS (by simp only [f_X3_power, if_neg c_7, if_neg c_44]) dX3_power_60
  · skip
    refine lv_aload_n hx hb dX3_power_10 rfl (lv_at hl 0 rfl) ?_
    refine lv_iconst (v := 1) hx hb dX3_power_11 (by decide) ?_
    refine lv_iconst (v := 1) hx hb dX3_power_12 (by decide) ?_
    refine g_Wi (As := [.int 1, .int 1]) (rest := []) ⟨hx, hb, hml, hown, hts⟩ (c_X3_make l D cI cJ a hd S 1 1 hm (by decide)) (cwV 2 hts gX3_power_X3_make rfl rfl rfl eeX3_make ⟨Nat.le_of_ble_eq_true rfl, Nat.le_of_ble_eq_true rfl⟩) hK hN hP hI (va_recv hK hP (ci := 3) (q0 := 0) rfl rfl) hS rfl hl.1 rfl (Nat.le_of_ble_eq_true rfl) dX3_power_13 ⟨Nat.zero_le _, Nat.zero_le _⟩ (fun H locs hI hP hS => ?_)
    refine lv_istore_n (lv' := [(2, .int ((f_X3_make S 1 1).1)), (0, .ref (a 0)), (1, .int x1)]) hx hb dX3_power_16 rfl hl (by decide) rfl (fun ls hl => ?_)
    refine lv_aload_n hx hb dX3_power_17 rfl (lv_at hl 1 rfl) ?_
    refine va_get (D := D) (ci := 3) (v := .ref (a 4)) (C := RX3) (T := TX3) (N := 13) hx hb hts iwX3_power hown hK hP 0 rfl rfl 4 (by decide) (hts (.fieldLink RX3 19 "LoomPanelModel" "numbers" "[J") flX3_power_19) (fun _ h9 => h9) rfl dX3_power_18 ?_
    refine lv_bipush (v := 8) hx hb dX3_power_21 (by decide) ?_
    refine lv_iload_n hx hb dX3_power_23 rfl (lv_at hl 0 rfl) ?_
    refine lv_imul hx hb dX3_power_24 ?_
    refine lv_iconst (v := 3) hx hb dX3_power_25 (by decide) ?_
    refine lv_aload_n hx hb dX3_power_26 rfl (lv_at hl 1 rfl) ?_
    refine va_get (D := D) (ci := 3) (v := .ref (a 3)) (C := RX3) (T := TX3) (N := 13) hx hb hts iwX3_power hown hK hP 0 rfl rfl 3 (by decide) (hts (.fieldLink RX3 16 "LoomPanelModel" "levels" "[I") flX3_power_16) (fun _ h9 => h9) rfl dX3_power_27 ?_
    refine lv_iload_n hx hb dX3_power_30 rfl (lv_at hl 2 rfl) ?_
    refine va_iald hx hb hK hP 3 0 (f := ((f_X3_make S 1 1).2).levels) rfl rfl hvx dX3_power_31 ?_
    refine lv_imul hx hb dX3_power_32 ?_
    refine lv_i2l (v := (3 * ((((f_X3_make S 1 1).2).levels) x1.toNatClampNeg)).toInt64) hx hb dX3_power_33 rfl ?_
    refine va_last hx hb hK hP (mw_D hd) hS 4 1 (f := ((f_X3_make S 1 1).2).nums) rfl rfl (ix80 (by rw [make_fst]; exact hv0)) dX3_power_34 (fun H locs hP _ hS => ?_)
    have hP : va_P D vwCl (mw cI cJ a (((f_X3_make S 1 1).2).set_nums (vp_updL (((f_X3_make S 1 1).2).nums) (8 * ((f_X3_make S 1 1).1)).toNatClampNeg ((3 * ((((f_X3_make S 1 1).2).levels) x1.toNatClampNeg)).toInt64)))) H := by rw [← mw_set_nums]; exact hP
    have hI : MInv (((f_X3_make S 1 1).2).set_nums (vp_updL (((f_X3_make S 1 1).2).nums) (8 * ((f_X3_make S 1 1).1)).toNatClampNeg ((3 * ((((f_X3_make S 1 1).2).levels) x1.toNatClampNeg)).toInt64))) := MInv_set_nums hI
    refine lv_iload_n hx hb dX3_power_35 rfl (lv_at hl 0 rfl) ?_
    exact r_Wi hx hb hr hlocks hP hI hS (by simp only [f_X3_power, if_pos c_7]) dX3_power_36
theorem ixs {y x4 : Int32} {j : Nat} (hy : vp_in y 60) (h4 : 0 ≤ x4.toInt ∧ x4.toInt ≤ 8) (c : x4 ≤ nI j) (hj : j < 8) : vp_in (((8 * y) + nI j) - x4) 480 := by
  obtain ⟨Y, h1, rfl⟩ := vp_in_of hy (by decide)
  obtain ⟨X, h2, rfl⟩ := nI_of (x := x4) (by rw [Int32.lt_iff_toInt_lt]; have : (0 : Int32).toInt = 0 := by decide
                                             omega)
  rw [Int32.le_iff_toInt_le, nI_toInt h2, nI_toInt (by omega)] at c
  rw [show (8 : Int32) = nI 8 from rfl, pk_mul, nI_add, pk_sub (by omega)]
  exact vp_in_nI (by omega) (by decide)
theorem sum8 {a b : Int32} (ha : 0 ≤ a.toInt ∧ a.toInt ≤ 8) (hb : 0 ≤ b.toInt ∧ b.toInt ≤ 8) (c : a + b ≤ 8) : 0 ≤ (a + b).toInt ∧ (a + b).toInt ≤ 8 := by
  obtain ⟨X, h2, rfl⟩ := nI_of (x := a) (by rw [Int32.lt_iff_toInt_lt]; have : (0 : Int32).toInt = 0 := by decide
                                            omega)
  obtain ⟨Y, h3, rfl⟩ := nI_of (x := b) (by rw [Int32.lt_iff_toInt_lt]; have : (0 : Int32).toInt = 0 := by decide
                                            omega)
  rw [nI_toInt h2] at ha
  rw [nI_toInt h3] at hb
  have c := Int32.le_iff_toInt_le.mp c
  have h8 : (8 : Int32).toInt = 8 := by decide
  rw [nI_add, nI_toInt (by omega)] at *
  omega
abbrev rmX3_join : Room := { frames := 3, cells := 0, slots := 0, locals := 65 }
theorem eeX3_join : yX3_join.cls = RX3 ∧ yX3_join.cls ≠ "java/lang/invoke/MethodHandle" ∧ yX3_join.cls ≠ "java/lang/invoke/VarHandle" ∧ (parseMethodDescriptor yX3_join.desc).map (fun d => d.parameters.length) = some 2 := by decide +kernel
theorem iwX3_join : ∀ w ∈ u_ws RX3 TX3 13, w ∈ wsX3_join := by decide +kernel
theorem flX3_join_13 : Cond.fieldLink RX3 13 "LoomPanelModel" "sizes" "[I" ∈ wsX3_join := by decide +kernel
theorem flX3_join_19 : Cond.fieldLink RX3 19 "LoomPanelModel" "numbers" "[J" ∈ wsX3_join := by decide +kernel
theorem flX3_join_23 : Cond.fieldLink RX3 23 "LoomPanelModel" "lies" "[I" ∈ wsX3_join := by decide +kernel
theorem flX3_join_7 : Cond.fieldLink RX3 7 "LoomPanelModel" "forms" "[I" ∈ wsX3_join := by decide +kernel
def f_X3_join_c184 : Nat → MS → Int32 → Int32 → Int32 → Int32 → Int32 → Nat → Int32 × MS
  | 0, S, _, _, _, _, _, _ => (0, S)
  | n + 1, S, x1, x2, x4, x5, x6, j => if (x4 + x5) ≤ (nI j) then ((x6, S)) else (if x4 ≤ (nI j) then (f_X3_join_c184 n ((S.set_nums (vp_updL S.nums ((8 * x6) + (nI j)).toNatClampNeg (S.nums (((8 * x2) + (nI j)) - x4).toNatClampNeg))).set_lies (upd ((S.set_nums (vp_updL S.nums ((8 * x6) + (nI j)).toNatClampNeg (S.nums (((8 * x2) + (nI j)) - x4).toNatClampNeg))).lies) ((8 * x6) + (nI j)).toNatClampNeg (((S.set_nums (vp_updL S.nums ((8 * x6) + (nI j)).toNatClampNeg (S.nums (((8 * x2) + (nI j)) - x4).toNatClampNeg))).lies) (((8 * x2) + (nI j)) - x4).toNatClampNeg))) x1 x2 x4 x5 x6 (j + 1)) else (f_X3_join_c184 n ((S.set_nums (vp_updL S.nums ((8 * x6) + (nI j)).toNatClampNeg (S.nums ((8 * x1) + (nI j)).toNatClampNeg))).set_lies (upd ((S.set_nums (vp_updL S.nums ((8 * x6) + (nI j)).toNatClampNeg (S.nums ((8 * x1) + (nI j)).toNatClampNeg))).lies) ((8 * x6) + (nI j)).toNatClampNeg (((S.set_nums (vp_updL S.nums ((8 * x6) + (nI j)).toNatClampNeg (S.nums ((8 * x1) + (nI j)).toNatClampNeg))).lies) ((8 * x1) + (nI j)).toNatClampNeg))) x1 x2 x4 x5 x6 (j + 1)))
set_option maxHeartbeats 4000000 in
set_option maxRecDepth 100000 in
theorem w_X3_join_c184 {l : Launch} {D : va_G} {cI cJ : ClassId} {a : Nat → Nat} (hd : ∀ i j, i < 10 → j < 10 → a i = a j → i = j) {p : Program} {e : Env} {s : State} {m : MethodId} {args : Array Value} {below : List Frame} {meth : Method} {c : Code} (C : GC p s m meth c cX3_join (some .int) 9 RX3 wsX3_join args D (mw_tys cI cJ)) {v : Int32 × MS} : ∀ (n : Nat) (S : MS) (x1 : Int32) (x2 : Int32) (x4 : Int32) (x5 : Int32) (x6 : Int32) (j : Nat) (hvx : vp_in x1 60) (hy : vp_in x2 60) (h4 : 0 ≤ x4.toInt ∧ x4.toInt ≤ 8) (h45 : 0 ≤ (x4 + x5).toInt ∧ (x4 + x5).toInt ≤ 8) (h6 : vp_in x6 60) (hj : j ≤ 8) (hn : j + n = 9) (H : Heap) (locs : List Loc) (ls : Array Slot), va_P D vwCl (mw cI cJ a S) H → MInv S → va_S (mA a) s.heap H locs → lv_has ls 9 [(0, .ref (a 0)), (1, .int x1), (2, .int x2), (4, .int x4), (5, .int x5), (6, .int x6), (7, .int (nI j))] → v = f_X3_join_c184 n S x1 x2 x4 x5 x6 j → W p l e rmX3_join s m args below meth c H locs 0 0 (MQ below (va_Qi (fun r u => v = (r, u)) (GE D (mw cI cJ a) MInv) (mA a)) args s 0 0 (mA a)) (F0 m 184 ls []) := by
  obtain ⟨hx, hb, hr, hlocks, hml, hown, hts, hK, hN⟩ := id C
  intro n
  induction n with
  | zero =>
    intro S x1 x2 x4 x5 x6 j hvx hy h4 h45 h6 hj hn H locs ls hP hI hS hl hq
    exact absurd hn (by omega)
  | succ n ih =>
    intro S x1 x2 x4 x5 x6 j hvx hy h4 h45 h6 hj hn H locs ls hP hI hS hl hq
    refine lv_iload hx hb dX3_join_184 (lv_at hl 6 rfl) ?_
    refine lv_iload hx hb dX3_join_186 (lv_at hl 3 rfl) ?_
    refine lv_iload hx hb dX3_join_188 (lv_at hl 4 rfl) ?_
    refine lv_iadd hx hb dX3_join_190 ?_
    refine lv_icmp_ge (tgt := 269) hx hb dX3_join_191 (by decide) (fun c_191 => ?_) (fun c_191 => ?_)
    · skip
      refine lv_iload hx hb dX3_join_269 (lv_at hl 5 rfl) ?_
      exact r_Wi hx hb hr hlocks hP hI hS (hq.trans (by simp only [f_X3_join_c184, if_pos c_191])) dX3_join_271
    · skip
      refine lv_iload hx hb dX3_join_194 (lv_at hl 6 rfl) ?_
      refine lv_iload hx hb dX3_join_196 (lv_at hl 3 rfl) ?_
      refine lv_icmp_ge (tgt := 211) hx hb dX3_join_198 (by decide) (fun c_198 => ?_) (fun c_198 => ?_)
      · skip
        have hix := ixs hy h4 c_198 (jl8 c_191 h45.2 hj)
        refine lv_bipush (v := 8) hx hb dX3_join_211 (by decide) ?_
        refine lv_iload_n hx hb dX3_join_213 rfl (lv_at hl 2 rfl) ?_
        refine lv_imul hx hb dX3_join_214 ?_
        refine lv_iload hx hb dX3_join_215 (lv_at hl 6 rfl) ?_
        refine lv_iadd hx hb dX3_join_217 ?_
        refine lv_iload hx hb dX3_join_218 (lv_at hl 3 rfl) ?_
        refine lv_isub hx hb dX3_join_220 ?_
        refine lv_istore (lv' := [(8, .int (((8 * x2) + (nI j)) - x4)), (0, .ref (a 0)), (1, .int x1), (2, .int x2), (4, .int x4), (5, .int x5), (6, .int x6), (7, .int (nI j))]) hx hb dX3_join_221 hl (by decide) rfl (fun ls hl => ?_)
        refine lv_aload_n hx hb dX3_join_223 rfl (lv_at hl 1 rfl) ?_
        refine va_get (D := D) (ci := 3) (v := .ref (a 4)) (C := RX3) (T := TX3) (N := 13) hx hb hts iwX3_join hown hK hP 0 rfl rfl 4 (by decide) (hts (.fieldLink RX3 19 "LoomPanelModel" "numbers" "[J") flX3_join_19) (fun _ h9 => h9) rfl dX3_join_224 ?_
        refine lv_bipush (v := 8) hx hb dX3_join_227 (by decide) ?_
        refine lv_iload hx hb dX3_join_229 (lv_at hl 6 rfl) ?_
        refine lv_imul hx hb dX3_join_231 ?_
        refine lv_iload hx hb dX3_join_232 (lv_at hl 7 rfl) ?_
        refine lv_iadd hx hb dX3_join_234 ?_
        refine lv_aload_n hx hb dX3_join_235 rfl (lv_at hl 1 rfl) ?_
        refine va_get (D := D) (ci := 3) (v := .ref (a 4)) (C := RX3) (T := TX3) (N := 13) hx hb hts iwX3_join hown hK hP 0 rfl rfl 4 (by decide) (hts (.fieldLink RX3 19 "LoomPanelModel" "numbers" "[J") flX3_join_19) (fun _ h9 => h9) rfl dX3_join_236 ?_
        refine lv_iload hx hb dX3_join_239 (lv_at hl 0 rfl) ?_
        refine va_lald hx hb hK hP 4 1 (f := S.nums) rfl rfl hix dX3_join_241 ?_
        refine va_last hx hb hK hP (mw_D hd) hS 4 1 (f := S.nums) rfl rfl (ix8' h6 (jin (jl8 c_191 h45.2 hj) (by decide))) dX3_join_242 (fun H locs hP _ hS => ?_)
        have hP : va_P D vwCl (mw cI cJ a (S.set_nums (vp_updL S.nums ((8 * x6) + (nI j)).toNatClampNeg (S.nums (((8 * x2) + (nI j)) - x4).toNatClampNeg)))) H := by rw [← mw_set_nums]; exact hP
        have hI : MInv (S.set_nums (vp_updL S.nums ((8 * x6) + (nI j)).toNatClampNeg (S.nums (((8 * x2) + (nI j)) - x4).toNatClampNeg))) := MInv_set_nums hI
        refine lv_aload_n hx hb dX3_join_243 rfl (lv_at hl 1 rfl) ?_
        refine va_get (D := D) (ci := 3) (v := .ref (a 5)) (C := RX3) (T := TX3) (N := 13) hx hb hts iwX3_join hown hK hP 0 rfl rfl 5 (by decide) (hts (.fieldLink RX3 23 "LoomPanelModel" "lies" "[I") flX3_join_23) (fun _ h9 => h9) rfl dX3_join_244 ?_
        refine lv_bipush (v := 8) hx hb dX3_join_247 (by decide) ?_
        refine lv_iload hx hb dX3_join_249 (lv_at hl 6 rfl) ?_
        refine lv_imul hx hb dX3_join_251 ?_
        refine lv_iload hx hb dX3_join_252 (lv_at hl 7 rfl) ?_
        refine lv_iadd hx hb dX3_join_254 ?_
        refine lv_aload_n hx hb dX3_join_255 rfl (lv_at hl 1 rfl) ?_
        refine va_get (D := D) (ci := 3) (v := .ref (a 5)) (C := RX3) (T := TX3) (N := 13) hx hb hts iwX3_join hown hK hP 0 rfl rfl 5 (by decide) (hts (.fieldLink RX3 23 "LoomPanelModel" "lies" "[I") flX3_join_23) (fun _ h9 => h9) rfl dX3_join_256 ?_
        refine lv_iload hx hb dX3_join_259 (lv_at hl 0 rfl) ?_
        refine va_iald hx hb hK hP 5 0 (f := (S.set_nums (vp_updL S.nums ((8 * x6) + (nI j)).toNatClampNeg (S.nums (((8 * x2) + (nI j)) - x4).toNatClampNeg))).lies) rfl rfl hix dX3_join_261 ?_
        refine va_iast hx hb hK hP (mw_D hd) hS 5 0 (f := (S.set_nums (vp_updL S.nums ((8 * x6) + (nI j)).toNatClampNeg (S.nums (((8 * x2) + (nI j)) - x4).toNatClampNeg))).lies) rfl rfl (ix8' h6 (jin (jl8 c_191 h45.2 hj) (by decide))) dX3_join_262 (fun H locs hP _ hS => ?_)
        have hP : va_P D vwCl (mw cI cJ a ((S.set_nums (vp_updL S.nums ((8 * x6) + (nI j)).toNatClampNeg (S.nums (((8 * x2) + (nI j)) - x4).toNatClampNeg))).set_lies (upd ((S.set_nums (vp_updL S.nums ((8 * x6) + (nI j)).toNatClampNeg (S.nums (((8 * x2) + (nI j)) - x4).toNatClampNeg))).lies) ((8 * x6) + (nI j)).toNatClampNeg (((S.set_nums (vp_updL S.nums ((8 * x6) + (nI j)).toNatClampNeg (S.nums (((8 * x2) + (nI j)) - x4).toNatClampNeg))).lies) (((8 * x2) + (nI j)) - x4).toNatClampNeg)))) H := by rw [← mw_set_lies]; exact hP
        have hI : MInv ((S.set_nums (vp_updL S.nums ((8 * x6) + (nI j)).toNatClampNeg (S.nums (((8 * x2) + (nI j)) - x4).toNatClampNeg))).set_lies (upd ((S.set_nums (vp_updL S.nums ((8 * x6) + (nI j)).toNatClampNeg (S.nums (((8 * x2) + (nI j)) - x4).toNatClampNeg))).lies) ((8 * x6) + (nI j)).toNatClampNeg (((S.set_nums (vp_updL S.nums ((8 * x6) + (nI j)).toNatClampNeg (S.nums (((8 * x2) + (nI j)) - x4).toNatClampNeg))).lies) (((8 * x2) + (nI j)) - x4).toNatClampNeg))) := lies_set hI (hI.2.2.1 _)
        refine lv_iinc (v := nI (j + 1)) (lv' := [(7, .int (nI (j + 1))), (8, .int (((8 * x2) + (nI j)) - x4)), (0, .ref (a 0)), (1, .int x1), (2, .int x2), (4, .int x4), (5, .int x5), (6, .int x6)]) hx hb dX3_join_263 hl (k := 7) rfl (nI_1 _) (by decide) rfl (fun ls hl => ?_)
        refine lv_goto (tgt := 184) hx hb dX3_join_266 (by decide) ?_
        exact ih ((S.set_nums (vp_updL S.nums ((8 * x6) + (nI j)).toNatClampNeg (S.nums (((8 * x2) + (nI j)) - x4).toNatClampNeg))).set_lies (upd ((S.set_nums (vp_updL S.nums ((8 * x6) + (nI j)).toNatClampNeg (S.nums (((8 * x2) + (nI j)) - x4).toNatClampNeg))).lies) ((8 * x6) + (nI j)).toNatClampNeg (((S.set_nums (vp_updL S.nums ((8 * x6) + (nI j)).toNatClampNeg (S.nums (((8 * x2) + (nI j)) - x4).toNatClampNeg))).lies) (((8 * x2) + (nI j)) - x4).toNatClampNeg))) x1 x2 x4 x5 x6 (j + 1) hvx hy h4 h45 h6 (jl8 c_191 h45.2 hj) (by omega) _ _ _ hP hI hS (lv_sub hl [2, 3, 4, 5, 6, 7, 0] rfl) (hq.trans (by simp only [f_X3_join_c184, if_neg c_191, if_pos c_198]))
      · skip
        have hix := ix8' hvx (jin (jl8 c_191 h45.2 hj) (by decide))
        refine lv_bipush (v := 8) hx hb dX3_join_201 (by decide) ?_
        refine lv_iload_n hx hb dX3_join_203 rfl (lv_at hl 1 rfl) ?_
        refine lv_imul hx hb dX3_join_204 ?_
        refine lv_iload hx hb dX3_join_205 (lv_at hl 6 rfl) ?_
        refine lv_iadd hx hb dX3_join_207 ?_
        refine lv_goto (tgt := 221) hx hb dX3_join_208 (by decide) ?_
        refine lv_istore (lv' := [(8, .int ((8 * x1) + (nI j))), (0, .ref (a 0)), (1, .int x1), (2, .int x2), (4, .int x4), (5, .int x5), (6, .int x6), (7, .int (nI j))]) hx hb dX3_join_221 hl (by decide) rfl (fun ls hl => ?_)
        refine lv_aload_n hx hb dX3_join_223 rfl (lv_at hl 1 rfl) ?_
        refine va_get (D := D) (ci := 3) (v := .ref (a 4)) (C := RX3) (T := TX3) (N := 13) hx hb hts iwX3_join hown hK hP 0 rfl rfl 4 (by decide) (hts (.fieldLink RX3 19 "LoomPanelModel" "numbers" "[J") flX3_join_19) (fun _ h9 => h9) rfl dX3_join_224 ?_
        refine lv_bipush (v := 8) hx hb dX3_join_227 (by decide) ?_
        refine lv_iload hx hb dX3_join_229 (lv_at hl 6 rfl) ?_
        refine lv_imul hx hb dX3_join_231 ?_
        refine lv_iload hx hb dX3_join_232 (lv_at hl 7 rfl) ?_
        refine lv_iadd hx hb dX3_join_234 ?_
        refine lv_aload_n hx hb dX3_join_235 rfl (lv_at hl 1 rfl) ?_
        refine va_get (D := D) (ci := 3) (v := .ref (a 4)) (C := RX3) (T := TX3) (N := 13) hx hb hts iwX3_join hown hK hP 0 rfl rfl 4 (by decide) (hts (.fieldLink RX3 19 "LoomPanelModel" "numbers" "[J") flX3_join_19) (fun _ h9 => h9) rfl dX3_join_236 ?_
        refine lv_iload hx hb dX3_join_239 (lv_at hl 0 rfl) ?_
        refine va_lald hx hb hK hP 4 1 (f := S.nums) rfl rfl hix dX3_join_241 ?_
        refine va_last hx hb hK hP (mw_D hd) hS 4 1 (f := S.nums) rfl rfl (ix8' h6 (jin (jl8 c_191 h45.2 hj) (by decide))) dX3_join_242 (fun H locs hP _ hS => ?_)
        have hP : va_P D vwCl (mw cI cJ a (S.set_nums (vp_updL S.nums ((8 * x6) + (nI j)).toNatClampNeg (S.nums ((8 * x1) + (nI j)).toNatClampNeg)))) H := by rw [← mw_set_nums]; exact hP
        have hI : MInv (S.set_nums (vp_updL S.nums ((8 * x6) + (nI j)).toNatClampNeg (S.nums ((8 * x1) + (nI j)).toNatClampNeg))) := MInv_set_nums hI
        refine lv_aload_n hx hb dX3_join_243 rfl (lv_at hl 1 rfl) ?_
        refine va_get (D := D) (ci := 3) (v := .ref (a 5)) (C := RX3) (T := TX3) (N := 13) hx hb hts iwX3_join hown hK hP 0 rfl rfl 5 (by decide) (hts (.fieldLink RX3 23 "LoomPanelModel" "lies" "[I") flX3_join_23) (fun _ h9 => h9) rfl dX3_join_244 ?_
        refine lv_bipush (v := 8) hx hb dX3_join_247 (by decide) ?_
        refine lv_iload hx hb dX3_join_249 (lv_at hl 6 rfl) ?_
        refine lv_imul hx hb dX3_join_251 ?_
        refine lv_iload hx hb dX3_join_252 (lv_at hl 7 rfl) ?_
        refine lv_iadd hx hb dX3_join_254 ?_
        refine lv_aload_n hx hb dX3_join_255 rfl (lv_at hl 1 rfl) ?_
        refine va_get (D := D) (ci := 3) (v := .ref (a 5)) (C := RX3) (T := TX3) (N := 13) hx hb hts iwX3_join hown hK hP 0 rfl rfl 5 (by decide) (hts (.fieldLink RX3 23 "LoomPanelModel" "lies" "[I") flX3_join_23) (fun _ h9 => h9) rfl dX3_join_256 ?_
        refine lv_iload hx hb dX3_join_259 (lv_at hl 0 rfl) ?_
        refine va_iald hx hb hK hP 5 0 (f := (S.set_nums (vp_updL S.nums ((8 * x6) + (nI j)).toNatClampNeg (S.nums ((8 * x1) + (nI j)).toNatClampNeg))).lies) rfl rfl hix dX3_join_261 ?_
        refine va_iast hx hb hK hP (mw_D hd) hS 5 0 (f := (S.set_nums (vp_updL S.nums ((8 * x6) + (nI j)).toNatClampNeg (S.nums ((8 * x1) + (nI j)).toNatClampNeg))).lies) rfl rfl (ix8' h6 (jin (jl8 c_191 h45.2 hj) (by decide))) dX3_join_262 (fun H locs hP _ hS => ?_)
        have hP : va_P D vwCl (mw cI cJ a ((S.set_nums (vp_updL S.nums ((8 * x6) + (nI j)).toNatClampNeg (S.nums ((8 * x1) + (nI j)).toNatClampNeg))).set_lies (upd ((S.set_nums (vp_updL S.nums ((8 * x6) + (nI j)).toNatClampNeg (S.nums ((8 * x1) + (nI j)).toNatClampNeg))).lies) ((8 * x6) + (nI j)).toNatClampNeg (((S.set_nums (vp_updL S.nums ((8 * x6) + (nI j)).toNatClampNeg (S.nums ((8 * x1) + (nI j)).toNatClampNeg))).lies) ((8 * x1) + (nI j)).toNatClampNeg)))) H := by rw [← mw_set_lies]; exact hP
        have hI : MInv ((S.set_nums (vp_updL S.nums ((8 * x6) + (nI j)).toNatClampNeg (S.nums ((8 * x1) + (nI j)).toNatClampNeg))).set_lies (upd ((S.set_nums (vp_updL S.nums ((8 * x6) + (nI j)).toNatClampNeg (S.nums ((8 * x1) + (nI j)).toNatClampNeg))).lies) ((8 * x6) + (nI j)).toNatClampNeg (((S.set_nums (vp_updL S.nums ((8 * x6) + (nI j)).toNatClampNeg (S.nums ((8 * x1) + (nI j)).toNatClampNeg))).lies) ((8 * x1) + (nI j)).toNatClampNeg))) := lies_set hI (hI.2.2.1 _)
        refine lv_iinc (v := nI (j + 1)) (lv' := [(7, .int (nI (j + 1))), (8, .int ((8 * x1) + (nI j))), (0, .ref (a 0)), (1, .int x1), (2, .int x2), (4, .int x4), (5, .int x5), (6, .int x6)]) hx hb dX3_join_263 hl (k := 7) rfl (nI_1 _) (by decide) rfl (fun ls hl => ?_)
        refine lv_goto (tgt := 184) hx hb dX3_join_266 (by decide) ?_
        exact ih ((S.set_nums (vp_updL S.nums ((8 * x6) + (nI j)).toNatClampNeg (S.nums ((8 * x1) + (nI j)).toNatClampNeg))).set_lies (upd ((S.set_nums (vp_updL S.nums ((8 * x6) + (nI j)).toNatClampNeg (S.nums ((8 * x1) + (nI j)).toNatClampNeg))).lies) ((8 * x6) + (nI j)).toNatClampNeg (((S.set_nums (vp_updL S.nums ((8 * x6) + (nI j)).toNatClampNeg (S.nums ((8 * x1) + (nI j)).toNatClampNeg))).lies) ((8 * x1) + (nI j)).toNatClampNeg))) x1 x2 x4 x5 x6 (j + 1) hvx hy h4 h45 h6 (jl8 c_191 h45.2 hj) (by omega) _ _ _ hP hI hS (lv_sub hl [2, 3, 4, 5, 6, 7, 0] rfl) (hq.trans (by simp only [f_X3_join_c184, if_neg c_191, if_neg c_198]))
def f_X3_join_c164 (S : MS) (x1 : Int32) (x2 : Int32) (x4 : Int32) (x5 : Int32) : Int32 × MS := f_X3_join_c184 9 ((f_X3_make S (S.forms x1.toNatClampNeg) (x4 + x5)).2) x1 x2 x4 x5 ((f_X3_make S (S.forms x1.toNatClampNeg) (x4 + x5)).1) 0
set_option maxHeartbeats 4000000 in
set_option maxRecDepth 100000 in
theorem w_X3_join_c164 {l : Launch} {D : va_G} {cI cJ : ClassId} {a : Nat → Nat} (hd : ∀ i j, i < 10 → j < 10 → a i = a j → i = j) {p : Program} {e : Env} {s : State} {m : MethodId} {args : Array Value} {below : List Frame} {meth : Method} {c : Code} (C : GC p s m meth c cX3_join (some .int) 9 RX3 wsX3_join args D (mw_tys cI cJ)) {v : Int32 × MS} : ∀ (S : MS) (x1 : Int32) (x2 : Int32) (x4 : Int32) (x5 : Int32) (hvx : vp_in x1 60) (hy : vp_in x2 60) (hm : S.vals.toInt < 60) (h4 : 0 ≤ x4.toInt ∧ x4.toInt ≤ 8) (h45 : 0 ≤ (x4 + x5).toInt ∧ (x4 + x5).toInt ≤ 8) (H : Heap) (locs : List Loc) (ls : Array Slot), va_P D vwCl (mw cI cJ a S) H → MInv S → va_S (mA a) s.heap H locs → lv_has ls 9 [(0, .ref (a 0)), (1, .int x1), (2, .int x2), (4, .int x4), (5, .int x5)] → v = f_X3_join_c164 S x1 x2 x4 x5 → W p l e rmX3_join s m args below meth c H locs 0 0 (MQ below (va_Qi (fun r u => v = (r, u)) (GE D (mw cI cJ a) MInv) (mA a)) args s 0 0 (mA a)) (F0 m 164 ls []) := by
  obtain ⟨hx, hb, hr, hlocks, hml, hown, hts, hK, hN⟩ := id C
  intro S x1 x2 x4 x5 hvx hy hm h4 h45 H locs ls hP hI hS hl hq
  have hv0 : vp_in S.vals 60 := in2 hI.1.1 hm
  refine lv_aload_n hx hb dX3_join_164 rfl (lv_at hl 0 rfl) ?_
  refine lv_aload_n hx hb dX3_join_165 rfl (lv_at hl 0 rfl) ?_
  refine va_get (D := D) (ci := 3) (v := .ref (a 1)) (C := RX3) (T := TX3) (N := 13) hx hb hts iwX3_join hown hK hP 0 rfl rfl 1 (by decide) (hts (.fieldLink RX3 7 "LoomPanelModel" "forms" "[I") flX3_join_7) (fun _ h9 => h9) rfl dX3_join_166 ?_
  refine lv_iload_n hx hb dX3_join_169 rfl (lv_at hl 1 rfl) ?_
  refine va_iald hx hb hK hP 1 0 (f := S.forms) rfl rfl hvx dX3_join_170 ?_
  refine lv_iload hx hb dX3_join_171 (lv_at hl 3 rfl) ?_
  refine lv_iload hx hb dX3_join_173 (lv_at hl 4 rfl) ?_
  refine lv_iadd hx hb dX3_join_175 ?_
  refine g_Wi (As := [.int (S.forms x1.toNatClampNeg), .int (x4 + x5)]) (rest := []) ⟨hx, hb, hml, hown, hts⟩ (c_X3_make l D cI cJ a hd S (S.forms x1.toNatClampNeg) (x4 + x5) hm h45) (cwV 2 hts gX3_join_X3_make rfl rfl rfl eeX3_make ⟨Nat.le_of_ble_eq_true rfl, Nat.le_of_ble_eq_true rfl⟩) hK hN hP hI (va_recv hK hP (ci := 3) (q0 := 0) rfl rfl) hS rfl hl.1 rfl (Nat.le_of_ble_eq_true rfl) dX3_join_176 ⟨Nat.zero_le _, Nat.zero_le _⟩ (fun H locs hI hP hS => ?_)
  refine lv_istore (lv' := [(6, .int ((f_X3_make S (S.forms x1.toNatClampNeg) (x4 + x5)).1)), (0, .ref (a 0)), (1, .int x1), (2, .int x2), (4, .int x4), (5, .int x5)]) hx hb dX3_join_179 hl (by decide) rfl (fun ls hl => ?_)
  refine lv_iconst (v := 0) hx hb dX3_join_181 (by decide) ?_
  refine lv_istore (lv' := [(7, .int 0), (6, .int ((f_X3_make S (S.forms x1.toNatClampNeg) (x4 + x5)).1)), (0, .ref (a 0)), (1, .int x1), (2, .int x2), (4, .int x4), (5, .int x5)]) hx hb dX3_join_182 hl (by decide) rfl (fun ls hl => ?_)
  exact w_X3_join_c184 hd C 9 ((f_X3_make S (S.forms x1.toNatClampNeg) (x4 + x5)).2) x1 x2 x4 x5 ((f_X3_make S (S.forms x1.toNatClampNeg) (x4 + x5)).1) 0 hvx hy h4 h45 (by rw [make_fst]; exact hv0) (Nat.zero_le _) rfl _ _ _ hP hI hS (lv_sub hl [2, 3, 4, 5, 6, 1, 0] rfl) (hq.trans (by simp only [f_X3_join_c164]))
def f_X3_join_c112 : Nat → MS → Int32 → Int32 → Int32 → Int32 → Int32 → Nat → Int32 × MS
  | 0, S, _, _, _, _, _, _ => (0, S)
  | n + 1, S, x1, x2, x3, x4, x5, j => if x5 ≤ (nI j) then (f_X3_join_c164 S x1 x2 x4 x5) else (if x3 = 0 then (f_X3_join_c164 S x1 x2 x4 x5) else (if (S.lies ((8 * x2) + (nI j)).toNatClampNeg) = (-1) then (f_X3_join_c112 n S x1 x2 x3 x4 x5 (j + 1)) else (if (f_X3_takes S x1 (S.lies ((8 * x2) + (nI j)).toNatClampNeg)) = 0 then ((f_X3_with 4, S)) else (f_X3_join_c112 n S x1 x2 x3 x4 x5 (j + 1)))))
set_option maxHeartbeats 4000000 in
set_option maxRecDepth 100000 in
theorem w_X3_join_c112 {l : Launch} {D : va_G} {cI cJ : ClassId} {a : Nat → Nat} (hd : ∀ i j, i < 10 → j < 10 → a i = a j → i = j) {p : Program} {e : Env} {s : State} {m : MethodId} {args : Array Value} {below : List Frame} {meth : Method} {c : Code} (C : GC p s m meth c cX3_join (some .int) 9 RX3 wsX3_join args D (mw_tys cI cJ)) {v : Int32 × MS} : ∀ (n : Nat) (S : MS) (x1 : Int32) (x2 : Int32) (x3 : Int32) (x4 : Int32) (x5 : Int32) (j : Nat) (hvx : vp_in x1 60) (hy : vp_in x2 60) (hm : S.vals.toInt < 60) (h4 : 0 ≤ x4.toInt ∧ x4.toInt ≤ 8) (h5 : 0 ≤ x5.toInt ∧ x5.toInt ≤ 8) (h45 : 0 ≤ (x4 + x5).toInt ∧ (x4 + x5).toInt ≤ 8) (hj : j ≤ 8) (hn : j + n = 9) (H : Heap) (locs : List Loc) (ls : Array Slot), va_P D vwCl (mw cI cJ a S) H → MInv S → va_S (mA a) s.heap H locs → lv_has ls 9 [(0, .ref (a 0)), (1, .int x1), (2, .int x2), (3, .int x3), (4, .int x4), (5, .int x5), (6, .int (nI j))] → v = f_X3_join_c112 n S x1 x2 x3 x4 x5 j → W p l e rmX3_join s m args below meth c H locs 0 0 (MQ below (va_Qi (fun r u => v = (r, u)) (GE D (mw cI cJ a) MInv) (mA a)) args s 0 0 (mA a)) (F0 m 112 ls []) := by
  obtain ⟨hx, hb, hr, hlocks, hml, hown, hts, hK, hN⟩ := id C
  intro n
  induction n with
  | zero =>
    intro S x1 x2 x3 x4 x5 j hvx hy hm h4 h5 h45 hj hn H locs ls hP hI hS hl hq
    exact absurd hn (by omega)
  | succ n ih =>
    intro S x1 x2 x3 x4 x5 j hvx hy hm h4 h5 h45 hj hn H locs ls hP hI hS hl hq
    refine lv_iload hx hb dX3_join_112 (lv_at hl 6 rfl) ?_
    refine lv_iload hx hb dX3_join_114 (lv_at hl 5 rfl) ?_
    refine lv_icmp_ge (tgt := 164) hx hb dX3_join_116 (by decide) (fun c_116 => ?_) (fun c_116 => ?_)
    · skip
      exact w_X3_join_c164 hd C S x1 x2 x4 x5 hvx hy hm h4 h45 _ _ _ hP hI hS (lv_sub hl [0, 1, 2, 4, 5] rfl) (hq.trans (by simp only [f_X3_join_c112, if_pos c_116]))
    · skip
      refine lv_iload_n hx hb dX3_join_119 rfl (lv_at hl 3 rfl) ?_
      refine lv_if_eq (tgt := 164) hx hb dX3_join_120 (by decide) (fun c_120 => ?_) (fun c_120 => ?_)
      · skip
        exact w_X3_join_c164 hd C S x1 x2 x4 x5 hvx hy hm h4 h45 _ _ _ hP hI hS (lv_sub hl [0, 1, 2, 4, 5] rfl) (hq.trans (by simp only [f_X3_join_c112, if_neg c_116, if_pos c_120]))
      · skip
        refine lv_aload_n hx hb dX3_join_123 rfl (lv_at hl 0 rfl) ?_
        refine va_get (D := D) (ci := 3) (v := .ref (a 5)) (C := RX3) (T := TX3) (N := 13) hx hb hts iwX3_join hown hK hP 0 rfl rfl 5 (by decide) (hts (.fieldLink RX3 23 "LoomPanelModel" "lies" "[I") flX3_join_23) (fun _ h9 => h9) rfl dX3_join_124 ?_
        refine lv_bipush (v := 8) hx hb dX3_join_127 (by decide) ?_
        refine lv_iload_n hx hb dX3_join_129 rfl (lv_at hl 2 rfl) ?_
        refine lv_imul hx hb dX3_join_130 ?_
        refine lv_iload hx hb dX3_join_131 (lv_at hl 6 rfl) ?_
        refine lv_iadd hx hb dX3_join_133 ?_
        refine va_iald hx hb hK hP 5 0 (f := S.lies) rfl rfl (ix8' hy (jin (jl8 c_116 h5.2 hj) (by decide))) dX3_join_134 ?_
        refine lv_istore (lv' := [(7, .int (S.lies ((8 * x2) + (nI j)).toNatClampNeg)), (0, .ref (a 0)), (1, .int x1), (2, .int x2), (3, .int x3), (4, .int x4), (5, .int x5), (6, .int (nI j))]) hx hb dX3_join_135 hl (by decide) rfl (fun ls hl => ?_)
        refine lv_iload hx hb dX3_join_137 (lv_at hl 0 rfl) ?_
        refine lv_iconst (v := (-1)) hx hb dX3_join_139 (by decide) ?_
        refine lv_icmp_eq (tgt := 158) hx hb dX3_join_140 (by decide) (fun c_140 => ?_) (fun c_140 => ?_)
        · skip
          refine lv_iinc (v := nI (j + 1)) (lv' := [(6, .int (nI (j + 1))), (7, .int (S.lies ((8 * x2) + (nI j)).toNatClampNeg)), (0, .ref (a 0)), (1, .int x1), (2, .int x2), (3, .int x3), (4, .int x4), (5, .int x5)]) hx hb dX3_join_158 hl (k := 7) rfl (nI_1 _) (by decide) rfl (fun ls hl => ?_)
          refine lv_goto (tgt := 112) hx hb dX3_join_161 (by decide) ?_
          exact ih S x1 x2 x3 x4 x5 (j + 1) hvx hy hm h4 h5 h45 (jl8 c_116 h5.2 hj) (by omega) _ _ _ hP hI hS (lv_sub hl [2, 3, 4, 5, 6, 7, 0] rfl) (hq.trans (by simp only [f_X3_join_c112, if_neg c_116, if_neg c_120, if_pos c_140]))
        · skip
          refine lv_aload_n hx hb dX3_join_143 rfl (lv_at hl 1 rfl) ?_
          refine lv_iload_n hx hb dX3_join_144 rfl (lv_at hl 2 rfl) ?_
          refine lv_iload hx hb dX3_join_145 (lv_at hl 0 rfl) ?_
          refine g_Ri (As := [.int x1, .int (S.lies ((8 * x2) + (nI j)).toNatClampNeg)]) (rest := []) ⟨hx, hb, hml, hown, hts⟩ (c_X3_takes l D cI cJ a hd S x1 (S.lies ((8 * x2) + (nI j)).toNatClampNeg) hvx ((hI.2.2.1 _).2)) (cwV 2 hts gX3_join_X3_takes rfl rfl rfl eeX3_takes ⟨Nat.le_of_ble_eq_true rfl, Nat.le_of_ble_eq_true rfl⟩) hK hN hP hI (va_recv hK hP (ci := 3) (q0 := 0) rfl rfl) hS rfl hl.1 rfl (Nat.le_of_ble_eq_true rfl) dX3_join_147 ⟨Nat.zero_le _, Nat.zero_le _⟩ (fun H locs hP hS => ?_)
          refine lv_if_ne (tgt := 158) hx hb dX3_join_150 (by decide) (fun c_150 => ?_) (fun c_150 => ?_)
          · skip
            refine lv_iinc (v := nI (j + 1)) (lv' := [(6, .int (nI (j + 1))), (7, .int (S.lies ((8 * x2) + (nI j)).toNatClampNeg)), (0, .ref (a 0)), (1, .int x1), (2, .int x2), (3, .int x3), (4, .int x4), (5, .int x5)]) hx hb dX3_join_158 hl (k := 7) rfl (nI_1 _) (by decide) rfl (fun ls hl => ?_)
            refine lv_goto (tgt := 112) hx hb dX3_join_161 (by decide) ?_
            exact ih S x1 x2 x3 x4 x5 (j + 1) hvx hy hm h4 h5 h45 (jl8 c_116 h5.2 hj) (by omega) _ _ _ hP hI hS (lv_sub hl [2, 3, 4, 5, 6, 7, 0] rfl) (hq.trans (by simp only [f_X3_join_c112, if_neg c_116, if_neg c_120, if_neg c_140, if_neg c_150]))
          · skip
            refine lv_iconst (v := 4) hx hb dX3_join_153 (by decide) ?_
            refine g_Si (As := [.int 4]) (rest := []) ⟨hx, hb, hml, hown, hts⟩ (c_X3_with l 4) (va_cwS 1 hts gX3_join_X3_with rfl rfl rfl esX3_with ⟨Nat.le_of_ble_eq_true rfl, Nat.le_of_ble_eq_true rfl⟩) hP hS rfl hl.1 rfl (Nat.le_of_ble_eq_true rfl) dX3_join_154 ⟨Nat.zero_le _, Nat.zero_le _⟩ (fun H locs hP hS => ?_)
            exact r_Wi hx hb hr hlocks hP hI hS (hq.trans (by simp only [f_X3_join_c112, if_neg c_116, if_neg c_120, if_neg c_140, if_pos c_150])) dX3_join_157
def f_X3_join_c63 (S : MS) (x1 : Int32) (x2 : Int32) (x3 : Int32) : Int32 × MS := if x1 = (-1) then ((f_X3_with 2, S)) else (if x2 = (-1) then ((f_X3_with 2, S)) else (if ((S.sizes x1.toNatClampNeg) + (S.sizes x2.toNatClampNeg)) ≤ 8 then (f_X3_join_c112 9 S x1 x2 x3 (S.sizes x1.toNatClampNeg) (S.sizes x2.toNatClampNeg) 0) else ((f_X3_with 5, S))))
set_option maxHeartbeats 4000000 in
set_option maxRecDepth 100000 in
theorem w_X3_join_c63 {l : Launch} {D : va_G} {cI cJ : ClassId} {a : Nat → Nat} (hd : ∀ i j, i < 10 → j < 10 → a i = a j → i = j) {p : Program} {e : Env} {s : State} {m : MethodId} {args : Array Value} {below : List Frame} {meth : Method} {c : Code} (C : GC p s m meth c cX3_join (some .int) 9 RX3 wsX3_join args D (mw_tys cI cJ)) {v : Int32 × MS} : ∀ (S : MS) (x1 : Int32) (x2 : Int32) (x3 : Int32) (hvx : NV x1) (hy : NV x2) (hm : S.vals.toInt < 60) (H : Heap) (locs : List Loc) (ls : Array Slot), va_P D vwCl (mw cI cJ a S) H → MInv S → va_S (mA a) s.heap H locs → lv_has ls 9 [(0, .ref (a 0)), (1, .int x1), (2, .int x2), (3, .int x3)] → v = f_X3_join_c63 S x1 x2 x3 → W p l e rmX3_join s m args below meth c H locs 0 0 (MQ below (va_Qi (fun r u => v = (r, u)) (GE D (mw cI cJ a) MInv) (mA a)) args s 0 0 (mA a)) (F0 m 63 ls []) := by
  obtain ⟨hx, hb, hr, hlocks, hml, hown, hts, hK, hN⟩ := id C
  intro S x1 x2 x3 hvx hy hm H locs ls hP hI hS hl hq
  refine lv_iload_n hx hb dX3_join_63 rfl (lv_at hl 1 rfl) ?_
  refine lv_iconst (v := (-1)) hx hb dX3_join_64 (by decide) ?_
  refine lv_icmp_eq (tgt := 73) hx hb dX3_join_65 (by decide) (fun c_65 => ?_) (fun c_65 => ?_)
  · skip
    refine lv_iconst (v := 2) hx hb dX3_join_73 (by decide) ?_
    refine g_Si (As := [.int 2]) (rest := []) ⟨hx, hb, hml, hown, hts⟩ (c_X3_with l 2) (va_cwS 1 hts gX3_join_X3_with rfl rfl rfl esX3_with ⟨Nat.le_of_ble_eq_true rfl, Nat.le_of_ble_eq_true rfl⟩) hP hS rfl hl.1 rfl (Nat.le_of_ble_eq_true rfl) dX3_join_74 ⟨Nat.zero_le _, Nat.zero_le _⟩ (fun H locs hP hS => ?_)
    exact r_Wi hx hb hr hlocks hP hI hS (hq.trans (by simp only [f_X3_join_c63, if_pos c_65])) dX3_join_77
  · skip
    refine lv_iload_n hx hb dX3_join_68 rfl (lv_at hl 2 rfl) ?_
    refine lv_iconst (v := (-1)) hx hb dX3_join_69 (by decide) ?_
    refine lv_icmp_ne (tgt := 78) hx hb dX3_join_70 (by decide) (fun c_70 => ?_) (fun c_70 => ?_)
    · skip
      refine lv_aload_n hx hb dX3_join_78 rfl (lv_at hl 0 rfl) ?_
      refine va_get (D := D) (ci := 3) (v := .ref (a 2)) (C := RX3) (T := TX3) (N := 13) hx hb hts iwX3_join hown hK hP 0 rfl rfl 2 (by decide) (hts (.fieldLink RX3 13 "LoomPanelModel" "sizes" "[I") flX3_join_13) (fun _ h9 => h9) rfl dX3_join_79 ?_
      refine lv_iload_n hx hb dX3_join_82 rfl (lv_at hl 1 rfl) ?_
      refine va_iald hx hb hK hP 2 0 (f := S.sizes) rfl rfl (nv_in hvx c_65) dX3_join_83 ?_
      refine lv_istore (lv' := [(4, .int (S.sizes x1.toNatClampNeg)), (0, .ref (a 0)), (1, .int x1), (2, .int x2), (3, .int x3)]) hx hb dX3_join_84 hl (by decide) rfl (fun ls hl => ?_)
      refine lv_aload_n hx hb dX3_join_86 rfl (lv_at hl 1 rfl) ?_
      refine va_get (D := D) (ci := 3) (v := .ref (a 2)) (C := RX3) (T := TX3) (N := 13) hx hb hts iwX3_join hown hK hP 0 rfl rfl 2 (by decide) (hts (.fieldLink RX3 13 "LoomPanelModel" "sizes" "[I") flX3_join_13) (fun _ h9 => h9) rfl dX3_join_87 ?_
      refine lv_iload_n hx hb dX3_join_90 rfl (lv_at hl 3 rfl) ?_
      refine va_iald hx hb hK hP 2 0 (f := S.sizes) rfl rfl (nv_in hy c_70) dX3_join_91 ?_
      refine lv_istore (lv' := [(5, .int (S.sizes x2.toNatClampNeg)), (4, .int (S.sizes x1.toNatClampNeg)), (0, .ref (a 0)), (1, .int x1), (2, .int x2), (3, .int x3)]) hx hb dX3_join_92 hl (by decide) rfl (fun ls hl => ?_)
      refine lv_iload hx hb dX3_join_94 (lv_at hl 1 rfl) ?_
      refine lv_iload hx hb dX3_join_96 (lv_at hl 0 rfl) ?_
      refine lv_iadd hx hb dX3_join_98 ?_
      refine lv_bipush (v := 8) hx hb dX3_join_99 (by decide) ?_
      refine lv_icmp_le (tgt := 109) hx hb dX3_join_101 (by decide) (fun c_101 => ?_) (fun c_101 => ?_)
      · skip
        refine lv_iconst (v := 0) hx hb dX3_join_109 (by decide) ?_
        refine lv_istore (lv' := [(6, .int 0), (5, .int (S.sizes x2.toNatClampNeg)), (4, .int (S.sizes x1.toNatClampNeg)), (0, .ref (a 0)), (1, .int x1), (2, .int x2), (3, .int x3)]) hx hb dX3_join_110 hl (by decide) rfl (fun ls hl => ?_)
        exact w_X3_join_c112 hd C 9 S x1 x2 x3 (S.sizes x1.toNatClampNeg) (S.sizes x2.toNatClampNeg) 0 (nv_in hvx c_65) (nv_in hy c_70) hm (hI.2.1 _) (hI.2.1 _) (sum8 (hI.2.1 _) (hI.2.1 _) c_101) (Nat.zero_le _) rfl _ _ _ hP hI hS (lv_sub hl [3, 4, 5, 6, 2, 1, 0] rfl) (hq.trans (by simp only [f_X3_join_c63, if_neg c_65, if_neg c_70, if_pos c_101]))
      · skip
        refine lv_iconst (v := 5) hx hb dX3_join_104 (by decide) ?_
        refine g_Si (As := [.int 5]) (rest := []) ⟨hx, hb, hml, hown, hts⟩ (c_X3_with l 5) (va_cwS 1 hts gX3_join_X3_with rfl rfl rfl esX3_with ⟨Nat.le_of_ble_eq_true rfl, Nat.le_of_ble_eq_true rfl⟩) hP hS rfl hl.1 rfl (Nat.le_of_ble_eq_true rfl) dX3_join_105 ⟨Nat.zero_le _, Nat.zero_le _⟩ (fun H locs hP hS => ?_)
        exact r_Wi hx hb hr hlocks hP hI hS (hq.trans (by simp only [f_X3_join_c63, if_neg c_65, if_neg c_70, if_neg c_101])) dX3_join_108
    · skip
      refine lv_iconst (v := 2) hx hb dX3_join_73 (by decide) ?_
      refine g_Si (As := [.int 2]) (rest := []) ⟨hx, hb, hml, hown, hts⟩ (c_X3_with l 2) (va_cwS 1 hts gX3_join_X3_with rfl rfl rfl esX3_with ⟨Nat.le_of_ble_eq_true rfl, Nat.le_of_ble_eq_true rfl⟩) hP hS rfl hl.1 rfl (Nat.le_of_ble_eq_true rfl) dX3_join_74 ⟨Nat.zero_le _, Nat.zero_le _⟩ (fun H locs hP hS => ?_)
      exact r_Wi hx hb hr hlocks hP hI hS (hq.trans (by simp only [f_X3_join_c63, if_neg c_65, if_pos c_70])) dX3_join_77
def f_X3_join_c25 (S : MS) (x1 : Int32) (x2 : Int32) (x3 : Int32) : Int32 × MS := if x2 = (-1) then (f_X3_join_c63 S x1 x2 x3) else (if x3 = 0 then (if x1 = (-1) then (if (f_X3_isOf S x2 6) = 0 then ((f_X3_with 1, S)) else (f_X3_join_c63 S x1 x2 x3)) else (if (f_X3_isOf S x2 (S.forms x1.toNatClampNeg)) = 0 then ((f_X3_with 1, S)) else (f_X3_join_c63 S x1 x2 x3))) else (if (f_X3_isOf S x2 6) = 0 then ((f_X3_with 1, S)) else (f_X3_join_c63 S x1 x2 x3)))
set_option maxHeartbeats 4000000 in
set_option maxRecDepth 100000 in
theorem w_X3_join_c25 {l : Launch} {D : va_G} {cI cJ : ClassId} {a : Nat → Nat} (hd : ∀ i j, i < 10 → j < 10 → a i = a j → i = j) {p : Program} {e : Env} {s : State} {m : MethodId} {args : Array Value} {below : List Frame} {meth : Method} {c : Code} (C : GC p s m meth c cX3_join (some .int) 9 RX3 wsX3_join args D (mw_tys cI cJ)) {v : Int32 × MS} : ∀ (S : MS) (x1 : Int32) (x2 : Int32) (x3 : Int32) (hvx : NV x1) (hy : NV x2) (hm : S.vals.toInt < 60) (H : Heap) (locs : List Loc) (ls : Array Slot), va_P D vwCl (mw cI cJ a S) H → MInv S → va_S (mA a) s.heap H locs → lv_has ls 9 [(0, .ref (a 0)), (1, .int x1), (2, .int x2), (3, .int x3)] → v = f_X3_join_c25 S x1 x2 x3 → W p l e rmX3_join s m args below meth c H locs 0 0 (MQ below (va_Qi (fun r u => v = (r, u)) (GE D (mw cI cJ a) MInv) (mA a)) args s 0 0 (mA a)) (F0 m 25 ls []) := by
  obtain ⟨hx, hb, hr, hlocks, hml, hown, hts, hK, hN⟩ := id C
  intro S x1 x2 x3 hvx hy hm H locs ls hP hI hS hl hq
  refine lv_iload_n hx hb dX3_join_25 rfl (lv_at hl 2 rfl) ?_
  refine lv_iconst (v := (-1)) hx hb dX3_join_26 (by decide) ?_
  refine lv_icmp_eq (tgt := 63) hx hb dX3_join_27 (by decide) (fun c_27 => ?_) (fun c_27 => ?_)
  · skip
    exact w_X3_join_c63 hd C S x1 x2 x3 hvx hy hm _ _ _ hP hI hS (lv_sub hl [0, 1, 2, 3] rfl) (hq.trans (by simp only [f_X3_join_c25, if_pos c_27]))
  · skip
    refine lv_aload_n hx hb dX3_join_30 rfl (lv_at hl 0 rfl) ?_
    refine lv_iload_n hx hb dX3_join_31 rfl (lv_at hl 2 rfl) ?_
    refine lv_iload_n hx hb dX3_join_32 rfl (lv_at hl 3 rfl) ?_
    refine lv_if_ne (tgt := 41) hx hb dX3_join_33 (by decide) (fun c_33 => ?_) (fun c_33 => ?_)
    · skip
      refine lv_bipush (v := 6) hx hb dX3_join_41 (by decide) ?_
      refine lv_goto (tgt := 52) hx hb dX3_join_43 (by decide) ?_
      refine g_Ri (As := [.int x2, .int 6]) (rest := []) ⟨hx, hb, hml, hown, hts⟩ (c_X3_isOf l D cI cJ a hd S x2 6 hy.2) (cwV 2 hts gX3_join_X3_isOf rfl rfl rfl eeX3_isOf ⟨Nat.le_of_ble_eq_true rfl, Nat.le_of_ble_eq_true rfl⟩) hK hN hP hI (va_recv hK hP (ci := 3) (q0 := 0) rfl rfl) hS rfl hl.1 rfl (Nat.le_of_ble_eq_true rfl) dX3_join_52 ⟨Nat.zero_le _, Nat.zero_le _⟩ (fun H locs hP hS => ?_)
      refine lv_if_ne (tgt := 63) hx hb dX3_join_55 (by decide) (fun c_55 => ?_) (fun c_55 => ?_)
      · skip
        exact w_X3_join_c63 hd C S x1 x2 x3 hvx hy hm _ _ _ hP hI hS (lv_sub hl [0, 1, 2, 3] rfl) (hq.trans (by simp only [f_X3_join_c25, if_neg c_27, if_neg c_33, if_neg c_55]))
      · skip
        refine lv_iconst (v := 1) hx hb dX3_join_58 (by decide) ?_
        refine g_Si (As := [.int 1]) (rest := []) ⟨hx, hb, hml, hown, hts⟩ (c_X3_with l 1) (va_cwS 1 hts gX3_join_X3_with rfl rfl rfl esX3_with ⟨Nat.le_of_ble_eq_true rfl, Nat.le_of_ble_eq_true rfl⟩) hP hS rfl hl.1 rfl (Nat.le_of_ble_eq_true rfl) dX3_join_59 ⟨Nat.zero_le _, Nat.zero_le _⟩ (fun H locs hP hS => ?_)
        exact r_Wi hx hb hr hlocks hP hI hS (hq.trans (by simp only [f_X3_join_c25, if_neg c_27, if_neg c_33, if_pos c_55])) dX3_join_62
    · skip
      refine lv_iload_n hx hb dX3_join_36 rfl (lv_at hl 1 rfl) ?_
      refine lv_iconst (v := (-1)) hx hb dX3_join_37 (by decide) ?_
      refine lv_icmp_ne (tgt := 46) hx hb dX3_join_38 (by decide) (fun c_38 => ?_) (fun c_38 => ?_)
      · skip
        refine lv_aload_n hx hb dX3_join_46 rfl (lv_at hl 0 rfl) ?_
        refine va_get (D := D) (ci := 3) (v := .ref (a 1)) (C := RX3) (T := TX3) (N := 13) hx hb hts iwX3_join hown hK hP 0 rfl rfl 1 (by decide) (hts (.fieldLink RX3 7 "LoomPanelModel" "forms" "[I") flX3_join_7) (fun _ h9 => h9) rfl dX3_join_47 ?_
        refine lv_iload_n hx hb dX3_join_50 rfl (lv_at hl 1 rfl) ?_
        refine va_iald hx hb hK hP 1 0 (f := S.forms) rfl rfl (nv_in hvx c_38) dX3_join_51 ?_
        refine g_Ri (As := [.int x2, .int (S.forms x1.toNatClampNeg)]) (rest := []) ⟨hx, hb, hml, hown, hts⟩ (c_X3_isOf l D cI cJ a hd S x2 (S.forms x1.toNatClampNeg) hy.2) (cwV 2 hts gX3_join_X3_isOf rfl rfl rfl eeX3_isOf ⟨Nat.le_of_ble_eq_true rfl, Nat.le_of_ble_eq_true rfl⟩) hK hN hP hI (va_recv hK hP (ci := 3) (q0 := 0) rfl rfl) hS rfl hl.1 rfl (Nat.le_of_ble_eq_true rfl) dX3_join_52 ⟨Nat.zero_le _, Nat.zero_le _⟩ (fun H locs hP hS => ?_)
        refine lv_if_ne (tgt := 63) hx hb dX3_join_55 (by decide) (fun c_55 => ?_) (fun c_55 => ?_)
        · skip
          exact w_X3_join_c63 hd C S x1 x2 x3 hvx hy hm _ _ _ hP hI hS (lv_sub hl [0, 1, 2, 3] rfl) (hq.trans (by simp only [f_X3_join_c25, if_neg c_27, if_pos c_33, if_neg c_38, if_neg c_55]))
        · skip
          refine lv_iconst (v := 1) hx hb dX3_join_58 (by decide) ?_
          refine g_Si (As := [.int 1]) (rest := []) ⟨hx, hb, hml, hown, hts⟩ (c_X3_with l 1) (va_cwS 1 hts gX3_join_X3_with rfl rfl rfl esX3_with ⟨Nat.le_of_ble_eq_true rfl, Nat.le_of_ble_eq_true rfl⟩) hP hS rfl hl.1 rfl (Nat.le_of_ble_eq_true rfl) dX3_join_59 ⟨Nat.zero_le _, Nat.zero_le _⟩ (fun H locs hP hS => ?_)
          exact r_Wi hx hb hr hlocks hP hI hS (hq.trans (by simp only [f_X3_join_c25, if_neg c_27, if_pos c_33, if_neg c_38, if_pos c_55])) dX3_join_62
      · skip
        refine lv_bipush (v := 6) hx hb dX3_join_41 (by decide) ?_
        refine lv_goto (tgt := 52) hx hb dX3_join_43 (by decide) ?_
        refine g_Ri (As := [.int x2, .int 6]) (rest := []) ⟨hx, hb, hml, hown, hts⟩ (c_X3_isOf l D cI cJ a hd S x2 6 hy.2) (cwV 2 hts gX3_join_X3_isOf rfl rfl rfl eeX3_isOf ⟨Nat.le_of_ble_eq_true rfl, Nat.le_of_ble_eq_true rfl⟩) hK hN hP hI (va_recv hK hP (ci := 3) (q0 := 0) rfl rfl) hS rfl hl.1 rfl (Nat.le_of_ble_eq_true rfl) dX3_join_52 ⟨Nat.zero_le _, Nat.zero_le _⟩ (fun H locs hP hS => ?_)
        refine lv_if_ne (tgt := 63) hx hb dX3_join_55 (by decide) (fun c_55 => ?_) (fun c_55 => ?_)
        · skip
          exact w_X3_join_c63 hd C S x1 x2 x3 hvx hy hm _ _ _ hP hI hS (lv_sub hl [0, 1, 2, 3] rfl) (hq.trans (by simp only [f_X3_join_c25, if_neg c_27, if_pos c_33, if_pos c_38, if_neg c_55]))
        · skip
          refine lv_iconst (v := 1) hx hb dX3_join_58 (by decide) ?_
          refine g_Si (As := [.int 1]) (rest := []) ⟨hx, hb, hml, hown, hts⟩ (c_X3_with l 1) (va_cwS 1 hts gX3_join_X3_with rfl rfl rfl esX3_with ⟨Nat.le_of_ble_eq_true rfl, Nat.le_of_ble_eq_true rfl⟩) hP hS rfl hl.1 rfl (Nat.le_of_ble_eq_true rfl) dX3_join_59 ⟨Nat.zero_le _, Nat.zero_le _⟩ (fun H locs hP hS => ?_)
          exact r_Wi hx hb hr hlocks hP hI hS (hq.trans (by simp only [f_X3_join_c25, if_neg c_27, if_pos c_33, if_pos c_38, if_pos c_55])) dX3_join_62
def f_X3_join (S : MS) (x1 : Int32) (x2 : Int32) : Int32 × MS := if x1 = (-1) then (f_X3_join_c25 S x1 x2 (f_X3_isOf S x1 6)) else (if (f_X3_isRow S x1) = 0 then (if (f_X3_isOf S x1 6) = 0 then ((f_X3_with 1, S)) else (f_X3_join_c25 S x1 x2 (f_X3_isOf S x1 6))) else (f_X3_join_c25 S x1 x2 (f_X3_isOf S x1 6)))
set_option maxHeartbeats 4000000 in
set_option maxRecDepth 100000 in
theorem c_X3_join (l : Launch) (D : va_G) (cI cJ : ClassId) (a : Nat → Nat) (hd : ∀ i j, i < 10 → j < 10 → a i = a j → i = j) (S : MS) (x1 : Int32) (x2 : Int32) (hvx : NV x1) (hy : NV x2) (hm : S.vals.toInt < 60) : GWi l yX3_join wsX3_join rmX3_join [.ref (a 0), .int x1, .int x2] D (mw_tys cI cJ) (mw cI cJ a) MInv (mA a) S (f_X3_join S x1 x2) := by
  refine GB_of (cc := cX3_join) (maxL := 9) (ret := (some .int)) (by decide) rfl (Nat.le_of_ble_eq_true rfl) ?_
  intro p e s m below meth c C hP hI ls hl
  obtain ⟨hx, hb, hr, hlocks, hml, hown, hts, hK, hN⟩ := id C
  have hS : va_S (mA a) s.heap s.heap [] := va_S.rf
  have hl : lv_has ls 9 [(0, .ref (a 0)), (1, .int x1), (2, .int x2)] := hl
  refine lv_aload_n hx hb dX3_join_0 rfl (lv_at hl 0 rfl) ?_
  refine lv_iload_n hx hb dX3_join_1 rfl (lv_at hl 1 rfl) ?_
  refine lv_bipush (v := 6) hx hb dX3_join_2 (by decide) ?_
  refine g_Ri (As := [.int x1, .int 6]) (rest := []) ⟨hx, hb, hml, hown, hts⟩ (c_X3_isOf l D cI cJ a hd S x1 6 hvx.2) (cwV 2 hts gX3_join_X3_isOf rfl rfl rfl eeX3_isOf ⟨Nat.le_of_ble_eq_true rfl, Nat.le_of_ble_eq_true rfl⟩) hK hN hP hI (va_recv hK hP (ci := 3) (q0 := 0) rfl rfl) hS rfl hl.1 rfl (Nat.le_of_ble_eq_true rfl) dX3_join_4 ⟨Nat.zero_le _, Nat.zero_le _⟩ (fun H locs hP hS => ?_)
  refine lv_istore_n (lv' := [(3, .int (f_X3_isOf S x1 6)), (0, .ref (a 0)), (1, .int x1), (2, .int x2)]) hx hb dX3_join_7 rfl hl (by decide) rfl (fun ls hl => ?_)
  refine lv_iload_n hx hb dX3_join_8 rfl (lv_at hl 2 rfl) ?_
  refine lv_iconst (v := (-1)) hx hb dX3_join_9 (by decide) ?_
  refine lv_icmp_eq (tgt := 25) hx hb dX3_join_10 (by decide) (fun c_10 => ?_) (fun c_10 => ?_)
  · skip
    exact w_X3_join_c25 hd C S x1 x2 (f_X3_isOf S x1 6) hvx hy hm _ _ _ hP hI hS (lv_sub hl [1, 2, 3, 0] rfl) (by simp only [f_X3_join, if_pos c_10])
  · skip
    refine lv_aload_n hx hb dX3_join_13 rfl (lv_at hl 1 rfl) ?_
    refine lv_iload_n hx hb dX3_join_14 rfl (lv_at hl 2 rfl) ?_
    refine g_Ri (As := [.int x1]) (rest := []) ⟨hx, hb, hml, hown, hts⟩ (c_X3_isRow l D cI cJ a hd S x1 hvx.2) (cwV 1 hts gX3_join_X3_isRow rfl rfl rfl eeX3_isRow ⟨Nat.le_of_ble_eq_true rfl, Nat.le_of_ble_eq_true rfl⟩) hK hN hP hI (va_recv hK hP (ci := 3) (q0 := 0) rfl rfl) hS rfl hl.1 rfl (Nat.le_of_ble_eq_true rfl) dX3_join_15 ⟨Nat.zero_le _, Nat.zero_le _⟩ (fun H locs hP hS => ?_)
    refine lv_if_ne (tgt := 25) hx hb dX3_join_18 (by decide) (fun c_18 => ?_) (fun c_18 => ?_)
    · skip
      exact w_X3_join_c25 hd C S x1 x2 (f_X3_isOf S x1 6) hvx hy hm _ _ _ hP hI hS (lv_sub hl [1, 2, 3, 0] rfl) (by simp only [f_X3_join, if_neg c_10, if_neg c_18])
    · skip
      refine lv_iload_n hx hb dX3_join_21 rfl (lv_at hl 0 rfl) ?_
      refine lv_if_eq (tgt := 58) hx hb dX3_join_22 (by decide) (fun c_22 => ?_) (fun c_22 => ?_)
      · skip
        refine lv_iconst (v := 1) hx hb dX3_join_58 (by decide) ?_
        refine g_Si (As := [.int 1]) (rest := []) ⟨hx, hb, hml, hown, hts⟩ (c_X3_with l 1) (va_cwS 1 hts gX3_join_X3_with rfl rfl rfl esX3_with ⟨Nat.le_of_ble_eq_true rfl, Nat.le_of_ble_eq_true rfl⟩) hP hS rfl hl.1 rfl (Nat.le_of_ble_eq_true rfl) dX3_join_59 ⟨Nat.zero_le _, Nat.zero_le _⟩ (fun H locs hP hS => ?_)
        exact r_Wi hx hb hr hlocks hP hI hS (by simp only [f_X3_join, if_neg c_10, if_pos c_18, if_pos c_22]) dX3_join_62
      · skip
        exact w_X3_join_c25 hd C S x1 x2 (f_X3_isOf S x1 6) hvx hy hm _ _ _ hP hI hS (lv_sub hl [1, 2, 3, 0] rfl) (by simp only [f_X3_join, if_neg c_10, if_pos c_18, if_neg c_22])
abbrev rmX3_copy : Room := { frames := 2, cells := 0, slots := 0, locals := 43 }
theorem eeX3_copy : yX3_copy.cls = RX3 ∧ yX3_copy.cls ≠ "java/lang/invoke/MethodHandle" ∧ yX3_copy.cls ≠ "java/lang/invoke/VarHandle" ∧ (parseMethodDescriptor yX3_copy.desc).map (fun d => d.parameters.length) = some 1 := by decide +kernel
theorem iwX3_copy : ∀ w ∈ u_ws RX3 TX3 13, w ∈ wsX3_copy := by decide +kernel
theorem flX3_copy_13 : Cond.fieldLink RX3 13 "LoomPanelModel" "sizes" "[I" ∈ wsX3_copy := by decide +kernel
theorem flX3_copy_19 : Cond.fieldLink RX3 19 "LoomPanelModel" "numbers" "[J" ∈ wsX3_copy := by decide +kernel
theorem flX3_copy_23 : Cond.fieldLink RX3 23 "LoomPanelModel" "lies" "[I" ∈ wsX3_copy := by decide +kernel
theorem flX3_copy_7 : Cond.fieldLink RX3 7 "LoomPanelModel" "forms" "[I" ∈ wsX3_copy := by decide +kernel
def f_X3_copy_c33 : Nat → MS → Int32 → Int32 → Nat → Int32 × MS
  | 0, S, _, _, _ => (0, S)
  | n + 1, S, x1, x2, j => if 8 ≤ (nI j) then ((x2, S)) else (f_X3_copy_c33 n ((S.set_nums (vp_updL S.nums ((8 * x2) + (nI j)).toNatClampNeg (S.nums ((8 * x1) + (nI j)).toNatClampNeg))).set_lies (upd ((S.set_nums (vp_updL S.nums ((8 * x2) + (nI j)).toNatClampNeg (S.nums ((8 * x1) + (nI j)).toNatClampNeg))).lies) ((8 * x2) + (nI j)).toNatClampNeg (((S.set_nums (vp_updL S.nums ((8 * x2) + (nI j)).toNatClampNeg (S.nums ((8 * x1) + (nI j)).toNatClampNeg))).lies) ((8 * x1) + (nI j)).toNatClampNeg))) x1 x2 (j + 1))
set_option maxHeartbeats 4000000 in
set_option maxRecDepth 100000 in
theorem w_X3_copy_c33 {l : Launch} {D : va_G} {cI cJ : ClassId} {a : Nat → Nat} (hd : ∀ i j, i < 10 → j < 10 → a i = a j → i = j) {p : Program} {e : Env} {s : State} {m : MethodId} {args : Array Value} {below : List Frame} {meth : Method} {c : Code} (C : GC p s m meth c cX3_copy (some .int) 4 RX3 wsX3_copy args D (mw_tys cI cJ)) {v : Int32 × MS} : ∀ (n : Nat) (S : MS) (x1 : Int32) (x2 : Int32) (j : Nat) (hvx : vp_in x1 60) (h2 : vp_in x2 60) (hj : j ≤ 8) (hn : j + n = 9) (H : Heap) (locs : List Loc) (ls : Array Slot), va_P D vwCl (mw cI cJ a S) H → MInv S → va_S (mA a) s.heap H locs → lv_has ls 4 [(0, .ref (a 0)), (1, .int x1), (2, .int x2), (3, .int (nI j))] → v = f_X3_copy_c33 n S x1 x2 j → W p l e rmX3_copy s m args below meth c H locs 0 0 (MQ below (va_Qi (fun r u => v = (r, u)) (GE D (mw cI cJ a) MInv) (mA a)) args s 0 0 (mA a)) (F0 m 33 ls []) := by
  obtain ⟨hx, hb, hr, hlocks, hml, hown, hts, hK, hN⟩ := id C
  intro n
  induction n with
  | zero =>
    intro S x1 x2 j hvx h2 hj hn H locs ls hP hI hS hl hq
    exact absurd hn (by omega)
  | succ n ih =>
    intro S x1 x2 j hvx h2 hj hn H locs ls hP hI hS hl hq
    refine lv_iload_n hx hb dX3_copy_33 rfl (lv_at hl 3 rfl) ?_
    refine lv_bipush (v := 8) hx hb dX3_copy_34 (by decide) ?_
    refine lv_icmp_ge (tgt := 89) hx hb dX3_copy_36 (by decide) (fun c_36 => ?_) (fun c_36 => ?_)
    · skip
      refine lv_iload_n hx hb dX3_copy_89 rfl (lv_at hl 2 rfl) ?_
      exact r_Wi hx hb hr hlocks hP hI hS (hq.trans (by simp only [f_X3_copy_c33, if_pos c_36])) dX3_copy_90
    · skip
      refine lv_aload_n hx hb dX3_copy_39 rfl (lv_at hl 0 rfl) ?_
      refine va_get (D := D) (ci := 3) (v := .ref (a 4)) (C := RX3) (T := TX3) (N := 13) hx hb hts iwX3_copy hown hK hP 0 rfl rfl 4 (by decide) (hts (.fieldLink RX3 19 "LoomPanelModel" "numbers" "[J") flX3_copy_19) (fun _ h9 => h9) rfl dX3_copy_40 ?_
      refine lv_bipush (v := 8) hx hb dX3_copy_43 (by decide) ?_
      refine lv_iload_n hx hb dX3_copy_45 rfl (lv_at hl 2 rfl) ?_
      refine lv_imul hx hb dX3_copy_46 ?_
      refine lv_iload_n hx hb dX3_copy_47 rfl (lv_at hl 3 rfl) ?_
      refine lv_iadd hx hb dX3_copy_48 ?_
      refine lv_aload_n hx hb dX3_copy_49 rfl (lv_at hl 0 rfl) ?_
      refine va_get (D := D) (ci := 3) (v := .ref (a 4)) (C := RX3) (T := TX3) (N := 13) hx hb hts iwX3_copy hown hK hP 0 rfl rfl 4 (by decide) (hts (.fieldLink RX3 19 "LoomPanelModel" "numbers" "[J") flX3_copy_19) (fun _ h9 => h9) rfl dX3_copy_50 ?_
      refine lv_bipush (v := 8) hx hb dX3_copy_53 (by decide) ?_
      refine lv_iload_n hx hb dX3_copy_55 rfl (lv_at hl 1 rfl) ?_
      refine lv_imul hx hb dX3_copy_56 ?_
      refine lv_iload_n hx hb dX3_copy_57 rfl (lv_at hl 3 rfl) ?_
      refine lv_iadd hx hb dX3_copy_58 ?_
      refine va_lald hx hb hK hP 4 1 (f := S.nums) rfl rfl (ix8' hvx (jin (jl8 c_36 (by decide) hj) (by decide))) dX3_copy_59 ?_
      refine va_last hx hb hK hP (mw_D hd) hS 4 1 (f := S.nums) rfl rfl (ix8' h2 (jin (jl8 c_36 (by decide) hj) (by decide))) dX3_copy_60 (fun H locs hP _ hS => ?_)
      have hP : va_P D vwCl (mw cI cJ a (S.set_nums (vp_updL S.nums ((8 * x2) + (nI j)).toNatClampNeg (S.nums ((8 * x1) + (nI j)).toNatClampNeg)))) H := by rw [← mw_set_nums]; exact hP
      have hI : MInv (S.set_nums (vp_updL S.nums ((8 * x2) + (nI j)).toNatClampNeg (S.nums ((8 * x1) + (nI j)).toNatClampNeg))) := MInv_set_nums hI
      refine lv_aload_n hx hb dX3_copy_61 rfl (lv_at hl 0 rfl) ?_
      refine va_get (D := D) (ci := 3) (v := .ref (a 5)) (C := RX3) (T := TX3) (N := 13) hx hb hts iwX3_copy hown hK hP 0 rfl rfl 5 (by decide) (hts (.fieldLink RX3 23 "LoomPanelModel" "lies" "[I") flX3_copy_23) (fun _ h9 => h9) rfl dX3_copy_62 ?_
      refine lv_bipush (v := 8) hx hb dX3_copy_65 (by decide) ?_
      refine lv_iload_n hx hb dX3_copy_67 rfl (lv_at hl 2 rfl) ?_
      refine lv_imul hx hb dX3_copy_68 ?_
      refine lv_iload_n hx hb dX3_copy_69 rfl (lv_at hl 3 rfl) ?_
      refine lv_iadd hx hb dX3_copy_70 ?_
      refine lv_aload_n hx hb dX3_copy_71 rfl (lv_at hl 0 rfl) ?_
      refine va_get (D := D) (ci := 3) (v := .ref (a 5)) (C := RX3) (T := TX3) (N := 13) hx hb hts iwX3_copy hown hK hP 0 rfl rfl 5 (by decide) (hts (.fieldLink RX3 23 "LoomPanelModel" "lies" "[I") flX3_copy_23) (fun _ h9 => h9) rfl dX3_copy_72 ?_
      refine lv_bipush (v := 8) hx hb dX3_copy_75 (by decide) ?_
      refine lv_iload_n hx hb dX3_copy_77 rfl (lv_at hl 1 rfl) ?_
      refine lv_imul hx hb dX3_copy_78 ?_
      refine lv_iload_n hx hb dX3_copy_79 rfl (lv_at hl 3 rfl) ?_
      refine lv_iadd hx hb dX3_copy_80 ?_
      refine va_iald hx hb hK hP 5 0 (f := (S.set_nums (vp_updL S.nums ((8 * x2) + (nI j)).toNatClampNeg (S.nums ((8 * x1) + (nI j)).toNatClampNeg))).lies) rfl rfl (ix8' hvx (jin (jl8 c_36 (by decide) hj) (by decide))) dX3_copy_81 ?_
      refine va_iast hx hb hK hP (mw_D hd) hS 5 0 (f := (S.set_nums (vp_updL S.nums ((8 * x2) + (nI j)).toNatClampNeg (S.nums ((8 * x1) + (nI j)).toNatClampNeg))).lies) rfl rfl (ix8' h2 (jin (jl8 c_36 (by decide) hj) (by decide))) dX3_copy_82 (fun H locs hP _ hS => ?_)
      have hP : va_P D vwCl (mw cI cJ a ((S.set_nums (vp_updL S.nums ((8 * x2) + (nI j)).toNatClampNeg (S.nums ((8 * x1) + (nI j)).toNatClampNeg))).set_lies (upd ((S.set_nums (vp_updL S.nums ((8 * x2) + (nI j)).toNatClampNeg (S.nums ((8 * x1) + (nI j)).toNatClampNeg))).lies) ((8 * x2) + (nI j)).toNatClampNeg (((S.set_nums (vp_updL S.nums ((8 * x2) + (nI j)).toNatClampNeg (S.nums ((8 * x1) + (nI j)).toNatClampNeg))).lies) ((8 * x1) + (nI j)).toNatClampNeg)))) H := by rw [← mw_set_lies]; exact hP
      have hI : MInv ((S.set_nums (vp_updL S.nums ((8 * x2) + (nI j)).toNatClampNeg (S.nums ((8 * x1) + (nI j)).toNatClampNeg))).set_lies (upd ((S.set_nums (vp_updL S.nums ((8 * x2) + (nI j)).toNatClampNeg (S.nums ((8 * x1) + (nI j)).toNatClampNeg))).lies) ((8 * x2) + (nI j)).toNatClampNeg (((S.set_nums (vp_updL S.nums ((8 * x2) + (nI j)).toNatClampNeg (S.nums ((8 * x1) + (nI j)).toNatClampNeg))).lies) ((8 * x1) + (nI j)).toNatClampNeg))) := lies_set hI (hI.2.2.1 _)
      refine lv_iinc (v := nI (j + 1)) (lv' := [(3, .int (nI (j + 1))), (0, .ref (a 0)), (1, .int x1), (2, .int x2)]) hx hb dX3_copy_83 hl (k := 3) rfl (nI_1 _) (by decide) rfl (fun ls hl => ?_)
      refine lv_goto (tgt := 33) hx hb dX3_copy_86 (by decide) ?_
      exact ih ((S.set_nums (vp_updL S.nums ((8 * x2) + (nI j)).toNatClampNeg (S.nums ((8 * x1) + (nI j)).toNatClampNeg))).set_lies (upd ((S.set_nums (vp_updL S.nums ((8 * x2) + (nI j)).toNatClampNeg (S.nums ((8 * x1) + (nI j)).toNatClampNeg))).lies) ((8 * x2) + (nI j)).toNatClampNeg (((S.set_nums (vp_updL S.nums ((8 * x2) + (nI j)).toNatClampNeg (S.nums ((8 * x1) + (nI j)).toNatClampNeg))).lies) ((8 * x1) + (nI j)).toNatClampNeg))) x1 x2 (j + 1) hvx h2 (jl8 c_36 (by decide) hj) (by omega) _ _ _ hP hI hS (lv_sub hl [1, 2, 3, 0] rfl) (hq.trans (by simp only [f_X3_copy_c33, if_neg c_36]))
def f_X3_copy (S : MS) (x1 : Int32) : Int32 × MS := if (f_X3_isOf S x1 4) = 0 then (f_X3_copy_c33 9 ((f_X3_make S (S.forms x1.toNatClampNeg) (S.sizes x1.toNatClampNeg)).2) x1 ((f_X3_make S (S.forms x1.toNatClampNeg) (S.sizes x1.toNatClampNeg)).1) 0) else ((f_X3_with 1, S))
set_option maxHeartbeats 4000000 in
set_option maxRecDepth 100000 in
theorem c_X3_copy (l : Launch) (D : va_G) (cI cJ : ClassId) (a : Nat → Nat) (hd : ∀ i j, i < 10 → j < 10 → a i = a j → i = j) (S : MS) (x1 : Int32) (hvx : vp_in x1 60) (hm : S.vals.toInt < 60) : GWi l yX3_copy wsX3_copy rmX3_copy [.ref (a 0), .int x1] D (mw_tys cI cJ) (mw cI cJ a) MInv (mA a) S (f_X3_copy S x1) := by
  refine GB_of (cc := cX3_copy) (maxL := 4) (ret := (some .int)) (by decide) rfl (Nat.le_of_ble_eq_true rfl) ?_
  intro p e s m below meth c C hP hI ls hl
  obtain ⟨hx, hb, hr, hlocks, hml, hown, hts, hK, hN⟩ := id C
  have hS : va_S (mA a) s.heap s.heap [] := va_S.rf
  have hl : lv_has ls 4 [(0, .ref (a 0)), (1, .int x1)] := hl
  have hv0 : vp_in S.vals 60 := in2 hI.1.1 hm
  refine lv_aload_n hx hb dX3_copy_0 rfl (lv_at hl 0 rfl) ?_
  refine lv_iload_n hx hb dX3_copy_1 rfl (lv_at hl 1 rfl) ?_
  refine lv_iconst (v := 4) hx hb dX3_copy_2 (by decide) ?_
  refine g_Ri (As := [.int x1, .int 4]) (rest := []) ⟨hx, hb, hml, hown, hts⟩ (c_X3_isOf l D cI cJ a hd S x1 4 (in_lt hvx)) (cwV 2 hts gX3_copy_X3_isOf rfl rfl rfl eeX3_isOf ⟨Nat.le_of_ble_eq_true rfl, Nat.le_of_ble_eq_true rfl⟩) hK hN hP hI (va_recv hK hP (ci := 3) (q0 := 0) rfl rfl) hS rfl hl.1 rfl (Nat.le_of_ble_eq_true rfl) dX3_copy_3 ⟨Nat.zero_le _, Nat.zero_le _⟩ (fun H locs hP hS => ?_)
  refine lv_if_eq (tgt := 14) hx hb dX3_copy_6 (by decide) (fun c_6 => ?_) (fun c_6 => ?_)
  · skip
    refine lv_aload_n hx hb dX3_copy_14 rfl (lv_at hl 0 rfl) ?_
    refine lv_aload_n hx hb dX3_copy_15 rfl (lv_at hl 0 rfl) ?_
    refine va_get (D := D) (ci := 3) (v := .ref (a 1)) (C := RX3) (T := TX3) (N := 13) hx hb hts iwX3_copy hown hK hP 0 rfl rfl 1 (by decide) (hts (.fieldLink RX3 7 "LoomPanelModel" "forms" "[I") flX3_copy_7) (fun _ h9 => h9) rfl dX3_copy_16 ?_
    refine lv_iload_n hx hb dX3_copy_19 rfl (lv_at hl 1 rfl) ?_
    refine va_iald hx hb hK hP 1 0 (f := S.forms) rfl rfl hvx dX3_copy_20 ?_
    refine lv_aload_n hx hb dX3_copy_21 rfl (lv_at hl 0 rfl) ?_
    refine va_get (D := D) (ci := 3) (v := .ref (a 2)) (C := RX3) (T := TX3) (N := 13) hx hb hts iwX3_copy hown hK hP 0 rfl rfl 2 (by decide) (hts (.fieldLink RX3 13 "LoomPanelModel" "sizes" "[I") flX3_copy_13) (fun _ h9 => h9) rfl dX3_copy_22 ?_
    refine lv_iload_n hx hb dX3_copy_25 rfl (lv_at hl 1 rfl) ?_
    refine va_iald hx hb hK hP 2 0 (f := S.sizes) rfl rfl hvx dX3_copy_26 ?_
    refine g_Wi (As := [.int (S.forms x1.toNatClampNeg), .int (S.sizes x1.toNatClampNeg)]) (rest := []) ⟨hx, hb, hml, hown, hts⟩ (c_X3_make l D cI cJ a hd S (S.forms x1.toNatClampNeg) (S.sizes x1.toNatClampNeg) hm (hI.2.1 _)) (cwV 2 hts gX3_copy_X3_make rfl rfl rfl eeX3_make ⟨Nat.le_of_ble_eq_true rfl, Nat.le_of_ble_eq_true rfl⟩) hK hN hP hI (va_recv hK hP (ci := 3) (q0 := 0) rfl rfl) hS rfl hl.1 rfl (Nat.le_of_ble_eq_true rfl) dX3_copy_27 ⟨Nat.zero_le _, Nat.zero_le _⟩ (fun H locs hI hP hS => ?_)
    refine lv_istore_n (lv' := [(2, .int ((f_X3_make S (S.forms x1.toNatClampNeg) (S.sizes x1.toNatClampNeg)).1)), (0, .ref (a 0)), (1, .int x1)]) hx hb dX3_copy_30 rfl hl (by decide) rfl (fun ls hl => ?_)
    refine lv_iconst (v := 0) hx hb dX3_copy_31 (by decide) ?_
    refine lv_istore_n (lv' := [(3, .int 0), (2, .int ((f_X3_make S (S.forms x1.toNatClampNeg) (S.sizes x1.toNatClampNeg)).1)), (0, .ref (a 0)), (1, .int x1)]) hx hb dX3_copy_32 rfl hl (by decide) rfl (fun ls hl => ?_)
    exact w_X3_copy_c33 hd C 9 ((f_X3_make S (S.forms x1.toNatClampNeg) (S.sizes x1.toNatClampNeg)).2) x1 ((f_X3_make S (S.forms x1.toNatClampNeg) (S.sizes x1.toNatClampNeg)).1) 0 hvx (by rw [make_fst]; exact hv0) (Nat.zero_le _) rfl _ _ _ hP hI hS (lv_sub hl [2, 3, 1, 0] rfl) (by simp only [f_X3_copy, if_pos c_6])
  · skip
    refine lv_iconst (v := 1) hx hb dX3_copy_9 (by decide) ?_
    refine g_Si (As := [.int 1]) (rest := []) ⟨hx, hb, hml, hown, hts⟩ (c_X3_with l 1) (va_cwS 1 hts gX3_copy_X3_with rfl rfl rfl esX3_with ⟨Nat.le_of_ble_eq_true rfl, Nat.le_of_ble_eq_true rfl⟩) hP hS rfl hl.1 rfl (Nat.le_of_ble_eq_true rfl) dX3_copy_10 ⟨Nat.zero_le _, Nat.zero_le _⟩ (fun H locs hP hS => ?_)
    exact r_Wi hx hb hr hlocks hP hI hS (by simp only [f_X3_copy, if_neg c_6]) dX3_copy_13
abbrev rmX3_makes : Room := { frames := 2, cells := 0, slots := 0, locals := 43 }
theorem eeX3_makes : yX3_makes.cls = RX3 ∧ yX3_makes.cls ≠ "java/lang/invoke/MethodHandle" ∧ yX3_makes.cls ≠ "java/lang/invoke/VarHandle" ∧ (parseMethodDescriptor yX3_makes.desc).map (fun d => d.parameters.length) = some 2 := by decide +kernel
theorem iwX3_makes : ∀ w ∈ u_ws RX3 TX3 13, w ∈ wsX3_makes := by decide +kernel
theorem flX3_makes_13 : Cond.fieldLink RX3 13 "LoomPanelModel" "sizes" "[I" ∈ wsX3_makes := by decide +kernel
def f_X3_makes (S : MS) (x1 : Int32) (x2 : Int32) : Int32 := if (f_X3_isIn x1 0 2) = 0 then (if (f_X3_isIn x1 5 11) = 0 then (0) else (if x1 = 6 then (if (f_X3_isOf S x2 1) = 0 then (1) else ((S.sizes x2.toNatClampNeg) + 1)) else (1))) else (if x1 = 6 then (if (f_X3_isOf S x2 1) = 0 then (1) else ((S.sizes x2.toNatClampNeg) + 1)) else (1))
set_option maxHeartbeats 4000000 in
set_option maxRecDepth 100000 in
theorem c_X3_makes (l : Launch) (D : va_G) (cI cJ : ClassId) (a : Nat → Nat) (hd : ∀ i j, i < 10 → j < 10 → a i = a j → i = j) (S : MS) (x1 : Int32) (x2 : Int32) (hvx : x2.toInt < 60) : GRi l yX3_makes wsX3_makes rmX3_makes [.ref (a 0), .int x1, .int x2] D (mw_tys cI cJ) (mw cI cJ a) MInv (mA a) S (f_X3_makes S x1 x2) := by
  refine GB_of (cc := cX3_makes) (maxL := 4) (ret := (some .int)) (by decide) rfl (Nat.le_of_ble_eq_true rfl) ?_
  intro p e s m below meth c C hP hI ls hl
  obtain ⟨hx, hb, hr, hlocks, hml, hown, hts, hK, hN⟩ := id C
  have hS : va_S (mA a) s.heap s.heap [] := va_S.rf
  have hl : lv_has ls 4 [(0, .ref (a 0)), (1, .int x1), (2, .int x2)] := hl
  refine lv_iload_n hx hb dX3_makes_0 rfl (lv_at hl 1 rfl) ?_
  refine lv_iconst (v := 0) hx hb dX3_makes_1 (by decide) ?_
  refine lv_iconst (v := 2) hx hb dX3_makes_2 (by decide) ?_
  refine g_Si (As := [.int x1, .int 0, .int 2]) (rest := []) ⟨hx, hb, hml, hown, hts⟩ (c_X3_isIn l x1 0 2) (va_cwS 3 hts gX3_makes_X3_isIn rfl rfl rfl esX3_isIn ⟨Nat.le_of_ble_eq_true rfl, Nat.le_of_ble_eq_true rfl⟩) hP hS rfl hl.1 rfl (Nat.le_of_ble_eq_true rfl) dX3_makes_3 ⟨Nat.zero_le _, Nat.zero_le _⟩ (fun H locs hP hS => ?_)
  refine lv_if_ne (tgt := 19) hx hb dX3_makes_6 (by decide) (fun c_6 => ?_) (fun c_6 => ?_)
  · skip
    refine lv_iconst (v := 1) hx hb dX3_makes_19 (by decide) ?_
    refine lv_goto (tgt := 24) hx hb dX3_makes_20 (by decide) ?_
    refine lv_istore_n (lv' := [(3, .int 1), (0, .ref (a 0)), (1, .int x1), (2, .int x2)]) hx hb dX3_makes_24 rfl hl (by decide) rfl (fun ls hl => ?_)
    refine lv_iload_n hx hb dX3_makes_25 rfl (lv_at hl 0 rfl) ?_
    refine lv_if_ne (tgt := 33) hx hb dX3_makes_26 (by decide) (fun c_26 => ?_) (fun c_26 => ?_)
    · skip
      refine lv_iload_n hx hb dX3_makes_33 rfl (lv_at hl 2 rfl) ?_
      refine lv_bipush (v := 6) hx hb dX3_makes_34 (by decide) ?_
      refine lv_icmp_ne (tgt := 59) hx hb dX3_makes_36 (by decide) (fun c_36 => ?_) (fun c_36 => ?_)
      · skip
        refine lv_iconst (v := 1) hx hb dX3_makes_59 (by decide) ?_
        exact r_Ri hx hb hr hlocks hP hI hS (by simp only [f_X3_makes, if_neg c_6, if_neg c_36]) dX3_makes_60
      · skip
        refine lv_aload_n hx hb dX3_makes_39 rfl (lv_at hl 1 rfl) ?_
        refine lv_iload_n hx hb dX3_makes_40 rfl (lv_at hl 3 rfl) ?_
        refine lv_iconst (v := 1) hx hb dX3_makes_41 (by decide) ?_
        refine g_Ri (As := [.int x2, .int 1]) (rest := []) ⟨hx, hb, hml, hown, hts⟩ (c_X3_isOf l D cI cJ a hd S x2 1 hvx) (cwV 2 hts gX3_makes_X3_isOf rfl rfl rfl eeX3_isOf ⟨Nat.le_of_ble_eq_true rfl, Nat.le_of_ble_eq_true rfl⟩) hK hN hP hI (va_recv hK hP (ci := 3) (q0 := 0) rfl rfl) hS rfl hl.1 rfl (Nat.le_of_ble_eq_true rfl) dX3_makes_42 ⟨Nat.zero_le _, Nat.zero_le _⟩ (fun H locs hP hS => ?_)
        refine lv_if_eq (tgt := 59) hx hb dX3_makes_45 (by decide) (fun c_45 => ?_) (fun c_45 => ?_)
        · skip
          refine lv_iconst (v := 1) hx hb dX3_makes_59 (by decide) ?_
          exact r_Ri hx hb hr hlocks hP hI hS (by simp only [f_X3_makes, if_neg c_6, if_pos c_36, if_pos c_45]) dX3_makes_60
        · skip
          refine lv_aload_n hx hb dX3_makes_48 rfl (lv_at hl 1 rfl) ?_
          refine va_get (D := D) (ci := 3) (v := .ref (a 2)) (C := RX3) (T := TX3) (N := 13) hx hb hts iwX3_makes hown hK hP 0 rfl rfl 2 (by decide) (hts (.fieldLink RX3 13 "LoomPanelModel" "sizes" "[I") flX3_makes_13) (fun _ h9 => h9) rfl dX3_makes_49 ?_
          refine lv_iload_n hx hb dX3_makes_52 rfl (lv_at hl 3 rfl) ?_
          refine va_iald hx hb hK hP 2 0 (f := S.sizes) rfl rfl (isOf_in hvx c_45) dX3_makes_53 ?_
          refine lv_iconst (v := 1) hx hb dX3_makes_54 (by decide) ?_
          refine lv_iadd hx hb dX3_makes_55 ?_
          refine lv_goto (tgt := 60) hx hb dX3_makes_56 (by decide) ?_
          exact r_Ri hx hb hr hlocks hP hI hS (by simp only [f_X3_makes, if_neg c_6, if_pos c_36, if_neg c_45]) dX3_makes_60
    · exact absurd c_26 (by decide)
  · skip
    refine lv_iload_n hx hb dX3_makes_9 rfl (lv_at hl 1 rfl) ?_
    refine lv_iconst (v := 5) hx hb dX3_makes_10 (by decide) ?_
    refine lv_bipush (v := 11) hx hb dX3_makes_11 (by decide) ?_
    refine g_Si (As := [.int x1, .int 5, .int 11]) (rest := []) ⟨hx, hb, hml, hown, hts⟩ (c_X3_isIn l x1 5 11) (va_cwS 3 hts gX3_makes_X3_isIn rfl rfl rfl esX3_isIn ⟨Nat.le_of_ble_eq_true rfl, Nat.le_of_ble_eq_true rfl⟩) hP hS rfl hl.1 rfl (Nat.le_of_ble_eq_true rfl) dX3_makes_13 ⟨Nat.zero_le _, Nat.zero_le _⟩ (fun H locs hP hS => ?_)
    refine lv_if_eq (tgt := 23) hx hb dX3_makes_16 (by decide) (fun c_16 => ?_) (fun c_16 => ?_)
    · skip
      refine lv_iconst (v := 0) hx hb dX3_makes_23 (by decide) ?_
      refine lv_istore_n (lv' := [(3, .int 0), (0, .ref (a 0)), (1, .int x1), (2, .int x2)]) hx hb dX3_makes_24 rfl hl (by decide) rfl (fun ls hl => ?_)
      refine lv_iload_n hx hb dX3_makes_25 rfl (lv_at hl 0 rfl) ?_
      refine lv_if_ne (tgt := 33) hx hb dX3_makes_26 (by decide) (fun c_26 => ?_) (fun c_26 => ?_)
      · exact absurd c_26 (by decide)
      · skip
        refine lv_iconst (v := 0) hx hb dX3_makes_29 (by decide) ?_
        refine lv_goto (tgt := 60) hx hb dX3_makes_30 (by decide) ?_
        exact r_Ri hx hb hr hlocks hP hI hS (by simp only [f_X3_makes, if_pos c_6, if_pos c_16]) dX3_makes_60
    · skip
      refine lv_iconst (v := 1) hx hb dX3_makes_19 (by decide) ?_
      refine lv_goto (tgt := 24) hx hb dX3_makes_20 (by decide) ?_
      refine lv_istore_n (lv' := [(3, .int 1), (0, .ref (a 0)), (1, .int x1), (2, .int x2)]) hx hb dX3_makes_24 rfl hl (by decide) rfl (fun ls hl => ?_)
      refine lv_iload_n hx hb dX3_makes_25 rfl (lv_at hl 0 rfl) ?_
      refine lv_if_ne (tgt := 33) hx hb dX3_makes_26 (by decide) (fun c_26 => ?_) (fun c_26 => ?_)
      · skip
        refine lv_iload_n hx hb dX3_makes_33 rfl (lv_at hl 2 rfl) ?_
        refine lv_bipush (v := 6) hx hb dX3_makes_34 (by decide) ?_
        refine lv_icmp_ne (tgt := 59) hx hb dX3_makes_36 (by decide) (fun c_36 => ?_) (fun c_36 => ?_)
        · skip
          refine lv_iconst (v := 1) hx hb dX3_makes_59 (by decide) ?_
          exact r_Ri hx hb hr hlocks hP hI hS (by simp only [f_X3_makes, if_pos c_6, if_neg c_16, if_neg c_36]) dX3_makes_60
        · skip
          refine lv_aload_n hx hb dX3_makes_39 rfl (lv_at hl 1 rfl) ?_
          refine lv_iload_n hx hb dX3_makes_40 rfl (lv_at hl 3 rfl) ?_
          refine lv_iconst (v := 1) hx hb dX3_makes_41 (by decide) ?_
          refine g_Ri (As := [.int x2, .int 1]) (rest := []) ⟨hx, hb, hml, hown, hts⟩ (c_X3_isOf l D cI cJ a hd S x2 1 hvx) (cwV 2 hts gX3_makes_X3_isOf rfl rfl rfl eeX3_isOf ⟨Nat.le_of_ble_eq_true rfl, Nat.le_of_ble_eq_true rfl⟩) hK hN hP hI (va_recv hK hP (ci := 3) (q0 := 0) rfl rfl) hS rfl hl.1 rfl (Nat.le_of_ble_eq_true rfl) dX3_makes_42 ⟨Nat.zero_le _, Nat.zero_le _⟩ (fun H locs hP hS => ?_)
          refine lv_if_eq (tgt := 59) hx hb dX3_makes_45 (by decide) (fun c_45 => ?_) (fun c_45 => ?_)
          · skip
            refine lv_iconst (v := 1) hx hb dX3_makes_59 (by decide) ?_
            exact r_Ri hx hb hr hlocks hP hI hS (by simp only [f_X3_makes, if_pos c_6, if_neg c_16, if_pos c_36, if_pos c_45]) dX3_makes_60
          · skip
            refine lv_aload_n hx hb dX3_makes_48 rfl (lv_at hl 1 rfl) ?_
            refine va_get (D := D) (ci := 3) (v := .ref (a 2)) (C := RX3) (T := TX3) (N := 13) hx hb hts iwX3_makes hown hK hP 0 rfl rfl 2 (by decide) (hts (.fieldLink RX3 13 "LoomPanelModel" "sizes" "[I") flX3_makes_13) (fun _ h9 => h9) rfl dX3_makes_49 ?_
            refine lv_iload_n hx hb dX3_makes_52 rfl (lv_at hl 3 rfl) ?_
            refine va_iald hx hb hK hP 2 0 (f := S.sizes) rfl rfl (isOf_in hvx c_45) dX3_makes_53 ?_
            refine lv_iconst (v := 1) hx hb dX3_makes_54 (by decide) ?_
            refine lv_iadd hx hb dX3_makes_55 ?_
            refine lv_goto (tgt := 60) hx hb dX3_makes_56 (by decide) ?_
            exact r_Ri hx hb hr hlocks hP hI hS (by simp only [f_X3_makes, if_pos c_6, if_neg c_16, if_pos c_36, if_neg c_45]) dX3_makes_60
      · exact absurd c_26 (by decide)
theorem makes_1 {S : MS} {x1 x2 : Int32} (hI : MInv S) (ha : ¬ f_X3_isIn x1 0 2 = 0 ∨ ¬ f_X3_isIn x1 5 11 = 0) : 1 ≤ (f_X3_makes S x1 x2).toInt ∧ (f_X3_makes S x1 x2).toInt ≤ 9 := by
  have hs := hI.2.1 x2.toNatClampNeg
  have h9 : (S.sizes x2.toNatClampNeg + 1).toInt = (S.sizes x2.toNatClampNeg).toInt + 1 := add1 (k := 9) hs.1 (by omega) (by decide)
  have h1 : (1 : Int32).toInt = 1 := by decide
  unfold f_X3_makes
  rcases ha with h | h
  · rw [if_neg h]
    split
    · split
      · omega
      · omega
    · omega
  · rw [if_neg h]
    split <;> split <;> first | omega | (split <;> omega)
theorem work_lt {S : MS} {x1 x2 : Int32} (hI : MInv S) (c : S.vals + f_X3_makes S x1 x2 ≤ 60) (ha : ¬ f_X3_isIn x1 0 2 = 0 ∨ ¬ f_X3_isIn x1 5 11 = 0) : S.vals.toInt < 60 := by
  have h1 := makes_1 (x2 := x2) hI ha
  have h2 := hI.1
  generalize f_X3_makes S x1 x2 = k at *
  obtain ⟨X, h3, e3⟩ := nI_of (x := S.vals) (by rw [Int32.lt_iff_toInt_lt]; have : (0 : Int32).toInt = 0 := by decide
                                                omega)
  obtain ⟨Y, h4, rfl⟩ := nI_of (x := k) (by rw [Int32.lt_iff_toInt_lt]; have : (0 : Int32).toInt = 0 := by decide
                                            omega)
  have c := Int32.le_iff_toInt_le.mp c
  have h8 : (60 : Int32).toInt = 60 := by decide
  rw [nI_toInt h4] at h1
  rw [e3, nI_toInt h3] at h2
  rw [e3, nI_add, nI_toInt (by omega)] at c
  rw [e3, nI_toInt h3]
  omega
theorem work_drive {S : MS} {x1 x2 : Int32} (hI : MInv S) (hvx : vp_in x2 60) (c : S.vals + f_X3_makes S x1 x2 ≤ 60) (ha : x1 = 6) : S.forms x2.toNatClampNeg = 1 → S.vals.toInt + (S.sizes x2.toNatClampNeg).toInt < 60 := by
  intro hf
  subst ha
  have e : f_X3_makes S 6 x2 = S.sizes x2.toNatClampNeg + 1 := by
    have e1 : ¬ f_X3_isIn 6 5 11 = 0 := by decide
    have e0 : f_X3_isIn 6 0 2 = 0 := by decide
    have e3 : ¬ x2 < 0 := fun h => by
      have := (vp_in_iff.mp hvx).1
      rw [Int32.lt_iff_toInt_lt] at h
      have : (0 : Int32).toInt = 0 := by decide
      omega
    have e2 : ¬ f_X3_isOf S x2 1 = 0 := by
      unfold f_X3_isOf
      rw [if_neg e3, hf]
      decide
    unfold f_X3_makes
    simp only [if_pos e0, if_neg e1, if_neg e2, if_true]
  rw [e] at c
  have h2 := hI.1
  have hs := hI.2.1 x2.toNatClampNeg
  generalize S.sizes x2.toNatClampNeg = k at *
  obtain ⟨X, h3, e3⟩ := nI_of (x := S.vals) (by rw [Int32.lt_iff_toInt_lt]; have : (0 : Int32).toInt = 0 := by decide
                                                omega)
  obtain ⟨Y, h4, rfl⟩ := nI_of (x := k) (by rw [Int32.lt_iff_toInt_lt]; have : (0 : Int32).toInt = 0 := by decide
                                            omega)
  rw [nI_toInt h4] at hs ⊢
  rw [e3, nI_toInt h3] at h2
  rw [e3, nI_1, nI_add] at c
  have c := Int32.le_iff_toInt_le.mp c
  rw [nI_toInt (by omega)] at c
  have h8 : (60 : Int32).toInt = 60 := by decide
  rw [e3, nI_toInt h3]
  omega
theorem wx {x1 x2 : Int32} {k : Int32} (hvx : NV x2) (hz : x2 = -1 → x1 = 7 ∨ x1 = 9) (h : x1 = k) (h7 : ¬ k = 7) (h9 : ¬ k = 9) : vp_in x2 60 := nv_in hvx (fun e => (hz e).elim (fun q => h7 (h.symm.trans q)) (fun q => h9 (h.symm.trans q)))
theorem act10 {x : Int32} (ha : 0 ≤ x.toInt ∧ x.toInt ≤ 12) (hb : ¬ x = 3 ∧ ¬ x = 4 ∧ ¬ x = 11 ∧ ¬ x = 12) (h0 : ¬ x = 0) (h1 : ¬ x = 1) (h2 : ¬ x = 2) (h5 : ¬ x = 5) (h6 : ¬ x = 6) (h7 : ¬ x = 7) (h8 : ¬ x = 8) (h9 : ¬ x = 9) : x = 10 := by
  have := lv_neT (a := 0) h0 (by decide)
  have := lv_neT (a := 1) h1 (by decide)
  have := lv_neT (a := 2) h2 (by decide)
  have := lv_neT (a := 3) hb.1 (by decide)
  have := lv_neT (a := 4) hb.2.1 (by decide)
  have := lv_neT (a := 5) h5 (by decide)
  have := lv_neT (a := 6) h6 (by decide)
  have := lv_neT (a := 7) h7 (by decide)
  have := lv_neT (a := 8) h8 (by decide)
  have := lv_neT (a := 9) h9 (by decide)
  have := lv_neT (a := 11) hb.2.2.1 (by decide)
  have := lv_neT (a := 12) hb.2.2.2 (by decide)
  exact Int32.toInt_inj.mp (by rw [show (10 : Int32).toInt = 10 by decide]; omega)
