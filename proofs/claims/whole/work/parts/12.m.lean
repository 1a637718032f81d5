abbrev rmX3_work : Room := { frames := 4, cells := 0, slots := 0, locals := 93 }
theorem eeX3_work : yX3_work.cls = RX3 ∧ yX3_work.cls ≠ "java/lang/invoke/MethodHandle" ∧ yX3_work.cls ≠ "java/lang/invoke/VarHandle" ∧ (parseMethodDescriptor yX3_work.desc).map (fun d => d.parameters.length) = some 4 := by decide +kernel
theorem iwX3_work : ∀ w ∈ u_ws RX3 TX3 13, w ∈ wsX3_work := by decide +kernel
theorem flX3_work_42 : Cond.fieldLink RX3 42 "LoomPanelModel" "values" "I" ∈ wsX3_work := by decide +kernel
def f_X3_work_c145 (S : MS) (x1 : Int32) (x2 : Int32) (x3 : Int32) (x4 : Int32) : Int32 × MS := if x1 = 0 then (((f_X3_sum S x2).1, (f_X3_sum S x2).2)) else (if x1 = 1 then (((f_X3_turned S x2 1).1, (f_X3_turned S x2 1).2)) else (if x1 = 2 then (((f_X3_turned S x2 (-1)).1, (f_X3_turned S x2 (-1)).2)) else (if x1 = 5 then (if (f_X3_isOf S x2 6) = 0 then (if (f_X3_isOf S x2 8) = 0 then ((f_X3_with 1, S)) else (((f_X3_levelsOf S x2 1).1, (f_X3_levelsOf S x2 1).2))) else (((f_X3_levelsOf S x2 1).1, (f_X3_levelsOf S x2 1).2))) else (if x1 = 6 then (((f_X3_drive S x2 x4).1, (f_X3_drive S x2 x4).2)) else (if x1 = 7 then (((f_X3_pair S x2 x3 x4).1, (f_X3_pair S x2 x3 x4).2)) else (if x1 = 8 then (((f_X3_power S x2).1, (f_X3_power S x2).2)) else (if x1 = 9 then (((f_X3_join S x2 x3).1, (f_X3_join S x2 x3).2)) else (((f_X3_copy S x2).1, (f_X3_copy S x2).2)))))))))
set_option maxHeartbeats 4000000 in
set_option maxRecDepth 100000 in
theorem w_X3_work_c145 {l : Launch} {D : va_G} {cI cJ : ClassId} {a : Nat → Nat} (hd : ∀ i j, i < 10 → j < 10 → a i = a j → i = j) {p : Program} {e : Env} {s : State} {m : MethodId} {args : Array Value} {below : List Frame} {meth : Method} {c : Code} (C : GC p s m meth c cX3_work (some .int) 5 RX3 wsX3_work args D (mw_tys cI cJ)) {v : Int32 × MS} : ∀ (S : MS) (x1 : Int32) (x2 : Int32) (x3 : Int32) (x4 : Int32) (ha : 0 ≤ x1.toInt ∧ x1.toInt ≤ 12) (hvx : NV x2) (hy : NV x3) (hz : x2 = -1 → x1 = 7 ∨ x1 = 9) (hc : S.vals + f_X3_makes S x1 x2 ≤ 60) (hbb : ¬ x1 = 3 ∧ ¬ x1 = 4 ∧ ¬ x1 = 11 ∧ ¬ x1 = 12) (H : Heap) (locs : List Loc) (ls : Array Slot), va_P D vwCl (mw cI cJ a S) H → MInv S → va_S (mA a) s.heap H locs → lv_has ls 5 [(0, .ref (a 0)), (1, .int x1), (2, .int x2), (3, .int x3), (4, .int x4)] → v = f_X3_work_c145 S x1 x2 x3 x4 → W p l e rmX3_work s m args below meth c H locs 0 0 (MQ below (va_Qi (fun r u => v = (r, u)) (GE D (mw cI cJ a) MInv) (mA a)) args s 0 0 (mA a)) (F0 m 145 ls []) := by
  obtain ⟨hx, hb, hr, hlocks, hml, hown, hts, hK, hN⟩ := id C
  intro S x1 x2 x3 x4 ha hvx hy hz hc hbb H locs ls hP hI hS hl hq
  refine lv_iload_n hx hb dX3_work_145 rfl (lv_at hl 1 rfl) ?_
  by_cases c_146_0 : x1 = 0
  · refine lv_tableIn (tgt := 200) hx hb dX3_work_146 (by rw [c_146_0]; decide) (by rw [c_146_0]; decide) (by rw [c_146_0]; rfl) (by decide) ?_
    refine lv_aload_n hx hb dX3_work_200 rfl (lv_at hl 0 rfl) ?_
    refine lv_iload_n hx hb dX3_work_201 rfl (lv_at hl 2 rfl) ?_
    refine g_Wi (As := [.int x2]) (rest := []) ⟨hx, hb, hml, hown, hts⟩ (c_X3_sum l D cI cJ a hd S x2 (wx hvx hz c_146_0 (by decide) (by decide)) (work_lt hI hc (by rw [c_146_0]; decide))) (cwV 1 hts gX3_work_X3_sum rfl rfl rfl eeX3_sum ⟨Nat.le_of_ble_eq_true rfl, Nat.le_of_ble_eq_true rfl⟩) hK hN hP hI (va_recv hK hP (ci := 3) (q0 := 0) rfl rfl) hS rfl hl.1 rfl (Nat.le_of_ble_eq_true rfl) dX3_work_202 ⟨Nat.zero_le _, Nat.zero_le _⟩ (fun H locs hI hP hS => ?_)
    exact r_Wi hx hb hr hlocks hP hI hS (hq.trans (by simp only [f_X3_work_c145, if_pos c_146_0])) dX3_work_205
  by_cases c_146_1 : x1 = 1
  · refine lv_tableIn (tgt := 206) hx hb dX3_work_146 (by rw [c_146_1]; decide) (by rw [c_146_1]; decide) (by rw [c_146_1]; rfl) (by decide) ?_
    refine lv_aload_n hx hb dX3_work_206 rfl (lv_at hl 0 rfl) ?_
    refine lv_iload_n hx hb dX3_work_207 rfl (lv_at hl 2 rfl) ?_
    refine lv_iconst (v := 1) hx hb dX3_work_208 (by decide) ?_
    refine g_Wi (As := [.int x2, .int 1]) (rest := []) ⟨hx, hb, hml, hown, hts⟩ (c_X3_turned l D cI cJ a hd S x2 1 (wx hvx hz c_146_1 (by decide) (by decide)) (work_lt hI hc (by rw [c_146_1]; decide))) (cwV 2 hts gX3_work_X3_turned rfl rfl rfl eeX3_turned ⟨Nat.le_of_ble_eq_true rfl, Nat.le_of_ble_eq_true rfl⟩) hK hN hP hI (va_recv hK hP (ci := 3) (q0 := 0) rfl rfl) hS rfl hl.1 rfl (Nat.le_of_ble_eq_true rfl) dX3_work_209 ⟨Nat.zero_le _, Nat.zero_le _⟩ (fun H locs hI hP hS => ?_)
    exact r_Wi hx hb hr hlocks hP hI hS (hq.trans (by simp only [f_X3_work_c145, if_neg c_146_0, if_pos c_146_1])) dX3_work_212
  by_cases c_146_2 : x1 = 2
  · refine lv_tableIn (tgt := 213) hx hb dX3_work_146 (by rw [c_146_2]; decide) (by rw [c_146_2]; decide) (by rw [c_146_2]; rfl) (by decide) ?_
    refine lv_aload_n hx hb dX3_work_213 rfl (lv_at hl 0 rfl) ?_
    refine lv_iload_n hx hb dX3_work_214 rfl (lv_at hl 2 rfl) ?_
    refine lv_iconst (v := (-1)) hx hb dX3_work_215 (by decide) ?_
    refine g_Wi (As := [.int x2, .int (-1)]) (rest := []) ⟨hx, hb, hml, hown, hts⟩ (c_X3_turned l D cI cJ a hd S x2 (-1) (wx hvx hz c_146_2 (by decide) (by decide)) (work_lt hI hc (by rw [c_146_2]; decide))) (cwV 2 hts gX3_work_X3_turned rfl rfl rfl eeX3_turned ⟨Nat.le_of_ble_eq_true rfl, Nat.le_of_ble_eq_true rfl⟩) hK hN hP hI (va_recv hK hP (ci := 3) (q0 := 0) rfl rfl) hS rfl hl.1 rfl (Nat.le_of_ble_eq_true rfl) dX3_work_216 ⟨Nat.zero_le _, Nat.zero_le _⟩ (fun H locs hI hP hS => ?_)
    exact r_Wi hx hb hr hlocks hP hI hS (hq.trans (by simp only [f_X3_work_c145, if_neg c_146_0, if_neg c_146_1, if_pos c_146_2])) dX3_work_219
  by_cases c_146_3 : x1 = 3
  · exact absurd c_146_3 hbb.1
  by_cases c_146_4 : x1 = 4
  · exact absurd c_146_4 hbb.2.1
  by_cases c_146_5 : x1 = 5
  · refine lv_tableIn (tgt := 220) hx hb dX3_work_146 (by rw [c_146_5]; decide) (by rw [c_146_5]; decide) (by rw [c_146_5]; rfl) (by decide) ?_
    refine lv_aload_n hx hb dX3_work_220 rfl (lv_at hl 0 rfl) ?_
    refine lv_iload_n hx hb dX3_work_221 rfl (lv_at hl 2 rfl) ?_
    refine lv_bipush (v := 6) hx hb dX3_work_222 (by decide) ?_
    refine g_Ri (As := [.int x2, .int 6]) (rest := []) ⟨hx, hb, hml, hown, hts⟩ (c_X3_isOf l D cI cJ a hd S x2 6 hvx.2) (cwV 2 hts gX3_work_X3_isOf rfl rfl rfl eeX3_isOf ⟨Nat.le_of_ble_eq_true rfl, Nat.le_of_ble_eq_true rfl⟩) hK hN hP hI (va_recv hK hP (ci := 3) (q0 := 0) rfl rfl) hS rfl hl.1 rfl (Nat.le_of_ble_eq_true rfl) dX3_work_224 ⟨Nat.zero_le _, Nat.zero_le _⟩ (fun H locs hP hS => ?_)
    refine lv_if_ne (tgt := 240) hx hb dX3_work_227 (by decide) (fun c_227 => ?_) (fun c_227 => ?_)
    · skip
      refine lv_aload_n hx hb dX3_work_240 rfl (lv_at hl 0 rfl) ?_
      refine lv_iload_n hx hb dX3_work_241 rfl (lv_at hl 2 rfl) ?_
      refine lv_iconst (v := 1) hx hb dX3_work_242 (by decide) ?_
      refine g_Wi (As := [.int x2, .int 1]) (rest := []) ⟨hx, hb, hml, hown, hts⟩ (c_X3_levelsOf l D cI cJ a hd S x2 1 (wx hvx hz c_146_5 (by decide) (by decide)) (work_lt hI hc (by rw [c_146_5]; decide))) (cwV 2 hts gX3_work_X3_levelsOf rfl rfl rfl eeX3_levelsOf ⟨Nat.le_of_ble_eq_true rfl, Nat.le_of_ble_eq_true rfl⟩) hK hN hP hI (va_recv hK hP (ci := 3) (q0 := 0) rfl rfl) hS rfl hl.1 rfl (Nat.le_of_ble_eq_true rfl) dX3_work_243 ⟨Nat.zero_le _, Nat.zero_le _⟩ (fun H locs hI hP hS => ?_)
      refine lv_goto (tgt := 253) hx hb dX3_work_246 (by decide) ?_
      exact r_Wi hx hb hr hlocks hP hI hS (hq.trans (by simp only [f_X3_work_c145, if_neg c_146_0, if_neg c_146_1, if_neg c_146_2, if_pos c_146_5, if_neg c_227])) dX3_work_253
    · skip
      refine lv_aload_n hx hb dX3_work_230 rfl (lv_at hl 0 rfl) ?_
      refine lv_iload_n hx hb dX3_work_231 rfl (lv_at hl 2 rfl) ?_
      refine lv_bipush (v := 8) hx hb dX3_work_232 (by decide) ?_
      refine g_Ri (As := [.int x2, .int 8]) (rest := []) ⟨hx, hb, hml, hown, hts⟩ (c_X3_isOf l D cI cJ a hd S x2 8 hvx.2) (cwV 2 hts gX3_work_X3_isOf rfl rfl rfl eeX3_isOf ⟨Nat.le_of_ble_eq_true rfl, Nat.le_of_ble_eq_true rfl⟩) hK hN hP hI (va_recv hK hP (ci := 3) (q0 := 0) rfl rfl) hS rfl hl.1 rfl (Nat.le_of_ble_eq_true rfl) dX3_work_234 ⟨Nat.zero_le _, Nat.zero_le _⟩ (fun H locs hP hS => ?_)
      refine lv_if_eq (tgt := 249) hx hb dX3_work_237 (by decide) (fun c_237 => ?_) (fun c_237 => ?_)
      · skip
        refine lv_iconst (v := 1) hx hb dX3_work_249 (by decide) ?_
        refine g_Si (As := [.int 1]) (rest := []) ⟨hx, hb, hml, hown, hts⟩ (c_X3_with l 1) (va_cwS 1 hts gX3_work_X3_with rfl rfl rfl esX3_with ⟨Nat.le_of_ble_eq_true rfl, Nat.le_of_ble_eq_true rfl⟩) hP hS rfl hl.1 rfl (Nat.le_of_ble_eq_true rfl) dX3_work_250 ⟨Nat.zero_le _, Nat.zero_le _⟩ (fun H locs hP hS => ?_)
        exact r_Wi hx hb hr hlocks hP hI hS (hq.trans (by simp only [f_X3_work_c145, if_neg c_146_0, if_neg c_146_1, if_neg c_146_2, if_pos c_146_5, if_pos c_227, if_pos c_237])) dX3_work_253
      · skip
        refine lv_aload_n hx hb dX3_work_240 rfl (lv_at hl 0 rfl) ?_
        refine lv_iload_n hx hb dX3_work_241 rfl (lv_at hl 2 rfl) ?_
        refine lv_iconst (v := 1) hx hb dX3_work_242 (by decide) ?_
        refine g_Wi (As := [.int x2, .int 1]) (rest := []) ⟨hx, hb, hml, hown, hts⟩ (c_X3_levelsOf l D cI cJ a hd S x2 1 (wx hvx hz c_146_5 (by decide) (by decide)) (work_lt hI hc (by rw [c_146_5]; decide))) (cwV 2 hts gX3_work_X3_levelsOf rfl rfl rfl eeX3_levelsOf ⟨Nat.le_of_ble_eq_true rfl, Nat.le_of_ble_eq_true rfl⟩) hK hN hP hI (va_recv hK hP (ci := 3) (q0 := 0) rfl rfl) hS rfl hl.1 rfl (Nat.le_of_ble_eq_true rfl) dX3_work_243 ⟨Nat.zero_le _, Nat.zero_le _⟩ (fun H locs hI hP hS => ?_)
        refine lv_goto (tgt := 253) hx hb dX3_work_246 (by decide) ?_
        exact r_Wi hx hb hr hlocks hP hI hS (hq.trans (by simp only [f_X3_work_c145, if_neg c_146_0, if_neg c_146_1, if_neg c_146_2, if_pos c_146_5, if_pos c_227, if_neg c_237])) dX3_work_253
  by_cases c_146_6 : x1 = 6
  · refine lv_tableIn (tgt := 254) hx hb dX3_work_146 (by rw [c_146_6]; decide) (by rw [c_146_6]; decide) (by rw [c_146_6]; rfl) (by decide) ?_
    refine lv_aload_n hx hb dX3_work_254 rfl (lv_at hl 0 rfl) ?_
    refine lv_iload_n hx hb dX3_work_255 rfl (lv_at hl 2 rfl) ?_
    refine lv_iload hx hb dX3_work_256 (lv_at hl 4 rfl) ?_
    refine g_Wi (As := [.int x2, .int x4]) (rest := []) ⟨hx, hb, hml, hown, hts⟩ (c_X3_drive l D cI cJ a hd S x2 x4 (wx hvx hz c_146_6 (by decide) (by decide)) (work_lt hI hc (by rw [c_146_6]; decide)) (work_drive hI (wx hvx hz c_146_6 (by decide) (by decide)) hc c_146_6)) (cwV 2 hts gX3_work_X3_drive rfl rfl rfl eeX3_drive ⟨Nat.le_of_ble_eq_true rfl, Nat.le_of_ble_eq_true rfl⟩) hK hN hP hI (va_recv hK hP (ci := 3) (q0 := 0) rfl rfl) hS rfl hl.1 rfl (Nat.le_of_ble_eq_true rfl) dX3_work_258 ⟨Nat.zero_le _, Nat.zero_le _⟩ (fun H locs hI hP hS => ?_)
    exact r_Wi hx hb hr hlocks hP hI hS (hq.trans (by simp only [f_X3_work_c145, if_neg c_146_0, if_neg c_146_1, if_neg c_146_2, if_neg c_146_5, if_pos c_146_6])) dX3_work_261
  by_cases c_146_7 : x1 = 7
  · refine lv_tableIn (tgt := 262) hx hb dX3_work_146 (by rw [c_146_7]; decide) (by rw [c_146_7]; decide) (by rw [c_146_7]; rfl) (by decide) ?_
    refine lv_aload_n hx hb dX3_work_262 rfl (lv_at hl 0 rfl) ?_
    refine lv_iload_n hx hb dX3_work_263 rfl (lv_at hl 2 rfl) ?_
    refine lv_iload_n hx hb dX3_work_264 rfl (lv_at hl 3 rfl) ?_
    refine lv_iload hx hb dX3_work_265 (lv_at hl 4 rfl) ?_
    refine g_Wi (As := [.int x2, .int x3, .int x4]) (rest := []) ⟨hx, hb, hml, hown, hts⟩ (c_X3_pair l D cI cJ a hd S x2 x3 x4 hvx hy (work_lt hI hc (by rw [c_146_7]; decide))) (cwV 3 hts gX3_work_X3_pair rfl rfl rfl eeX3_pair ⟨Nat.le_of_ble_eq_true rfl, Nat.le_of_ble_eq_true rfl⟩) hK hN hP hI (va_recv hK hP (ci := 3) (q0 := 0) rfl rfl) hS rfl hl.1 rfl (Nat.le_of_ble_eq_true rfl) dX3_work_267 ⟨Nat.zero_le _, Nat.zero_le _⟩ (fun H locs hI hP hS => ?_)
    exact r_Wi hx hb hr hlocks hP hI hS (hq.trans (by simp only [f_X3_work_c145, if_neg c_146_0, if_neg c_146_1, if_neg c_146_2, if_neg c_146_5, if_neg c_146_6, if_pos c_146_7])) dX3_work_270
  by_cases c_146_8 : x1 = 8
  · refine lv_tableIn (tgt := 271) hx hb dX3_work_146 (by rw [c_146_8]; decide) (by rw [c_146_8]; decide) (by rw [c_146_8]; rfl) (by decide) ?_
    refine lv_aload_n hx hb dX3_work_271 rfl (lv_at hl 0 rfl) ?_
    refine lv_iload_n hx hb dX3_work_272 rfl (lv_at hl 2 rfl) ?_
    refine g_Wi (As := [.int x2]) (rest := []) ⟨hx, hb, hml, hown, hts⟩ (c_X3_power l D cI cJ a hd S x2 (wx hvx hz c_146_8 (by decide) (by decide)) (work_lt hI hc (by rw [c_146_8]; decide))) (cwV 1 hts gX3_work_X3_power rfl rfl rfl eeX3_power ⟨Nat.le_of_ble_eq_true rfl, Nat.le_of_ble_eq_true rfl⟩) hK hN hP hI (va_recv hK hP (ci := 3) (q0 := 0) rfl rfl) hS rfl hl.1 rfl (Nat.le_of_ble_eq_true rfl) dX3_work_273 ⟨Nat.zero_le _, Nat.zero_le _⟩ (fun H locs hI hP hS => ?_)
    exact r_Wi hx hb hr hlocks hP hI hS (hq.trans (by simp only [f_X3_work_c145, if_neg c_146_0, if_neg c_146_1, if_neg c_146_2, if_neg c_146_5, if_neg c_146_6, if_neg c_146_7, if_pos c_146_8])) dX3_work_276
  by_cases c_146_9 : x1 = 9
  · refine lv_tableIn (tgt := 277) hx hb dX3_work_146 (by rw [c_146_9]; decide) (by rw [c_146_9]; decide) (by rw [c_146_9]; rfl) (by decide) ?_
    refine lv_aload_n hx hb dX3_work_277 rfl (lv_at hl 0 rfl) ?_
    refine lv_iload_n hx hb dX3_work_278 rfl (lv_at hl 2 rfl) ?_
    refine lv_iload_n hx hb dX3_work_279 rfl (lv_at hl 3 rfl) ?_
    refine g_Wi (As := [.int x2, .int x3]) (rest := []) ⟨hx, hb, hml, hown, hts⟩ (c_X3_join l D cI cJ a hd S x2 x3 hvx hy (work_lt hI hc (by rw [c_146_9]; decide))) (cwV 2 hts gX3_work_X3_join rfl rfl rfl eeX3_join ⟨Nat.le_of_ble_eq_true rfl, Nat.le_of_ble_eq_true rfl⟩) hK hN hP hI (va_recv hK hP (ci := 3) (q0 := 0) rfl rfl) hS rfl hl.1 rfl (Nat.le_of_ble_eq_true rfl) dX3_work_280 ⟨Nat.zero_le _, Nat.zero_le _⟩ (fun H locs hI hP hS => ?_)
    exact r_Wi hx hb hr hlocks hP hI hS (hq.trans (by simp only [f_X3_work_c145, if_neg c_146_0, if_neg c_146_1, if_neg c_146_2, if_neg c_146_5, if_neg c_146_6, if_neg c_146_7, if_neg c_146_8, if_pos c_146_9])) dX3_work_283
  refine lv_tableOut (tgt := 284) hx hb dX3_work_146 (by have := lv_neT (a := 0) c_146_0 (by decide); have := lv_neT (a := 1) c_146_1 (by decide); have := lv_neT (a := 2) c_146_2 (by decide); have := lv_neT (a := 3) c_146_3 (by decide); have := lv_neT (a := 4) c_146_4 (by decide); have := lv_neT (a := 5) c_146_5 (by decide); have := lv_neT (a := 6) c_146_6 (by decide); have := lv_neT (a := 7) c_146_7 (by decide); have := lv_neT (a := 8) c_146_8 (by decide); have := lv_neT (a := 9) c_146_9 (by decide); omega) (by decide) ?_
  have h10 := act10 ha hbb c_146_0 c_146_1 c_146_2 c_146_5 c_146_6 c_146_7 c_146_8 c_146_9
  refine lv_aload_n hx hb dX3_work_284 rfl (lv_at hl 0 rfl) ?_
  refine lv_iload_n hx hb dX3_work_285 rfl (lv_at hl 2 rfl) ?_
  refine g_Wi (As := [.int x2]) (rest := []) ⟨hx, hb, hml, hown, hts⟩ (c_X3_copy l D cI cJ a hd S x2 (wx hvx hz h10 (by decide) (by decide)) (work_lt hI hc (by rw [h10]; decide))) (cwV 1 hts gX3_work_X3_copy rfl rfl rfl eeX3_copy ⟨Nat.le_of_ble_eq_true rfl, Nat.le_of_ble_eq_true rfl⟩) hK hN hP hI (va_recv hK hP (ci := 3) (q0 := 0) rfl rfl) hS rfl hl.1 rfl (Nat.le_of_ble_eq_true rfl) dX3_work_286 ⟨Nat.zero_le _, Nat.zero_le _⟩ (fun H locs hI hP hS => ?_)
  exact r_Wi hx hb hr hlocks hP hI hS (hq.trans (by simp only [f_X3_work_c145, if_neg c_146_0, if_neg c_146_1, if_neg c_146_2, if_neg c_146_5, if_neg c_146_6, if_neg c_146_7, if_neg c_146_8, if_neg c_146_9])) dX3_work_289
def f_X3_work (S : MS) (x1 : Int32) (x2 : Int32) (x3 : Int32) (x4 : Int32) : Int32 × MS := if (S.vals + (f_X3_makes S x1 x2)) ≤ 60 then (if x1 = 3 then ((f_X3_tap S x2 x4, S)) else (if x1 = 4 then (((f_X3_lay S x2 x3 x4).1, (f_X3_lay S x2 x3 x4).2)) else (if x1 = 11 then (if (f_X3_isIn x4 0 8) = 0 then ((f_X3_with 5, S)) else (((f_X3_make S 6 x4).1, (f_X3_make S 6 x4).2))) else (if x1 = 12 then (if (f_X3_isIn x4 0 11) = 0 then ((f_X3_with 1, S)) else (if x2 = (-1) then ((x2, S)) else (if (f_X3_isOf S x2 x4) = 0 then ((f_X3_with 1, S)) else ((x2, S))))) else (if x2 = (-1) then (if x1 = 7 then (f_X3_work_c145 S x1 x2 x3 x4) else (if x1 = 9 then (f_X3_work_c145 S x1 x2 x3 x4) else ((f_X3_with 2, S)))) else (f_X3_work_c145 S x1 x2 x3 x4)))))) else ((f_X3_with 6, S))
set_option maxHeartbeats 4000000 in
set_option maxRecDepth 100000 in
theorem c_X3_work (l : Launch) (D : va_G) (cI cJ : ClassId) (a : Nat → Nat) (hd : ∀ i j, i < 10 → j < 10 → a i = a j → i = j) (S : MS) (x1 : Int32) (x2 : Int32) (x3 : Int32) (x4 : Int32) (ha : 0 ≤ x1.toInt ∧ x1.toInt ≤ 12) (hvx : NV x2) (hy : NV x3) : GWi l yX3_work wsX3_work rmX3_work [.ref (a 0), .int x1, .int x2, .int x3, .int x4] D (mw_tys cI cJ) (mw cI cJ a) MInv (mA a) S (f_X3_work S x1 x2 x3 x4) := by
  refine GB_of (cc := cX3_work) (maxL := 5) (ret := (some .int)) (by decide) rfl (Nat.le_of_ble_eq_true rfl) ?_
  intro p e s m below meth c C hP hI ls hl
  obtain ⟨hx, hb, hr, hlocks, hml, hown, hts, hK, hN⟩ := id C
  have hS : va_S (mA a) s.heap s.heap [] := va_S.rf
  have hl : lv_has ls 5 [(0, .ref (a 0)), (1, .int x1), (2, .int x2), (3, .int x3), (4, .int x4)] := hl
  refine lv_aload_n hx hb dX3_work_0 rfl (lv_at hl 0 rfl) ?_
  refine va_get (D := D) (ci := 3) (v := .int S.vals) (C := RX3) (T := TX3) (N := 13) hx hb hts iwX3_work hown hK hP 0 rfl rfl 0 (by decide) (hts (.fieldLink RX3 42 "LoomPanelModel" "values" "I") flX3_work_42) (fun _ h9 => h9) rfl dX3_work_1 ?_
  refine lv_aload_n hx hb dX3_work_4 rfl (lv_at hl 0 rfl) ?_
  refine lv_iload_n hx hb dX3_work_5 rfl (lv_at hl 1 rfl) ?_
  refine lv_iload_n hx hb dX3_work_6 rfl (lv_at hl 2 rfl) ?_
  refine g_Ri (As := [.int x1, .int x2]) (rest := [.int S.vals]) ⟨hx, hb, hml, hown, hts⟩ (c_X3_makes l D cI cJ a hd S x1 x2 hvx.2) (cwV 2 hts gX3_work_X3_makes rfl rfl rfl eeX3_makes ⟨Nat.le_of_ble_eq_true rfl, Nat.le_of_ble_eq_true rfl⟩) hK hN hP hI (va_recv hK hP (ci := 3) (q0 := 0) rfl rfl) hS rfl hl.1 rfl (Nat.le_of_ble_eq_true rfl) dX3_work_7 ⟨Nat.zero_le _, Nat.zero_le _⟩ (fun H locs hP hS => ?_)
  refine lv_iadd hx hb dX3_work_10 ?_
  refine lv_bipush (v := 60) hx hb dX3_work_11 (by decide) ?_
  refine lv_icmp_le (tgt := 22) hx hb dX3_work_13 (by decide) (fun c_13 => ?_) (fun c_13 => ?_)
  · skip
    refine lv_iload_n hx hb dX3_work_22 rfl (lv_at hl 1 rfl) ?_
    refine lv_iconst (v := 3) hx hb dX3_work_23 (by decide) ?_
    refine lv_icmp_ne (tgt := 35) hx hb dX3_work_24 (by decide) (fun c_24 => ?_) (fun c_24 => ?_)
    · skip
      refine lv_iload_n hx hb dX3_work_35 rfl (lv_at hl 1 rfl) ?_
      refine lv_iconst (v := 4) hx hb dX3_work_36 (by decide) ?_
      refine lv_icmp_ne (tgt := 49) hx hb dX3_work_37 (by decide) (fun c_37 => ?_) (fun c_37 => ?_)
      · skip
        refine lv_iload_n hx hb dX3_work_49 rfl (lv_at hl 1 rfl) ?_
        refine lv_bipush (v := 11) hx hb dX3_work_50 (by decide) ?_
        refine lv_icmp_ne (tgt := 82) hx hb dX3_work_52 (by decide) (fun c_52 => ?_) (fun c_52 => ?_)
        · skip
          refine lv_iload_n hx hb dX3_work_82 rfl (lv_at hl 1 rfl) ?_
          refine lv_bipush (v := 12) hx hb dX3_work_83 (by decide) ?_
          refine lv_icmp_ne (tgt := 123) hx hb dX3_work_85 (by decide) (fun c_85 => ?_) (fun c_85 => ?_)
          · skip
            refine lv_iload_n hx hb dX3_work_123 rfl (lv_at hl 2 rfl) ?_
            refine lv_iconst (v := (-1)) hx hb dX3_work_124 (by decide) ?_
            refine lv_icmp_ne (tgt := 145) hx hb dX3_work_125 (by decide) (fun c_125 => ?_) (fun c_125 => ?_)
            · skip
              exact w_X3_work_c145 hd C S x1 x2 x3 x4 ha hvx hy (by first | exact fun h => absurd h c_125 | exact fun _ => Or.inl c_131 | exact fun _ => Or.inr c_137) c_13 (⟨c_24, c_37, c_52, c_85⟩) _ _ _ hP hI hS (lv_sub hl [0, 1, 2, 3, 4] rfl) (by simp only [f_X3_work, if_pos c_13, if_neg c_24, if_neg c_37, if_neg c_52, if_neg c_85, if_neg c_125])
            · skip
              refine lv_iload_n hx hb dX3_work_128 rfl (lv_at hl 1 rfl) ?_
              refine lv_bipush (v := 7) hx hb dX3_work_129 (by decide) ?_
              refine lv_icmp_eq (tgt := 145) hx hb dX3_work_131 (by decide) (fun c_131 => ?_) (fun c_131 => ?_)
              · skip
                exact w_X3_work_c145 hd C S x1 x2 x3 x4 ha hvx hy (by first | exact fun h => absurd h c_125 | exact fun _ => Or.inl c_131 | exact fun _ => Or.inr c_137) c_13 (⟨c_24, c_37, c_52, c_85⟩) _ _ _ hP hI hS (lv_sub hl [0, 1, 2, 3, 4] rfl) (by simp only [f_X3_work, if_pos c_13, if_neg c_24, if_neg c_37, if_neg c_52, if_neg c_85, if_pos c_125, if_pos c_131])
              · skip
                refine lv_iload_n hx hb dX3_work_134 rfl (lv_at hl 1 rfl) ?_
                refine lv_bipush (v := 9) hx hb dX3_work_135 (by decide) ?_
                refine lv_icmp_eq (tgt := 145) hx hb dX3_work_137 (by decide) (fun c_137 => ?_) (fun c_137 => ?_)
                · skip
                  exact w_X3_work_c145 hd C S x1 x2 x3 x4 ha hvx hy (by first | exact fun h => absurd h c_125 | exact fun _ => Or.inl c_131 | exact fun _ => Or.inr c_137) c_13 (⟨c_24, c_37, c_52, c_85⟩) _ _ _ hP hI hS (lv_sub hl [0, 1, 2, 3, 4] rfl) (by simp only [f_X3_work, if_pos c_13, if_neg c_24, if_neg c_37, if_neg c_52, if_neg c_85, if_pos c_125, if_neg c_131, if_pos c_137])
                · skip
                  refine lv_iconst (v := 2) hx hb dX3_work_140 (by decide) ?_
                  refine g_Si (As := [.int 2]) (rest := []) ⟨hx, hb, hml, hown, hts⟩ (c_X3_with l 2) (va_cwS 1 hts gX3_work_X3_with rfl rfl rfl esX3_with ⟨Nat.le_of_ble_eq_true rfl, Nat.le_of_ble_eq_true rfl⟩) hP hS rfl hl.1 rfl (Nat.le_of_ble_eq_true rfl) dX3_work_141 ⟨Nat.zero_le _, Nat.zero_le _⟩ (fun H locs hP hS => ?_)
                  exact r_Wi hx hb hr hlocks hP hI hS (by simp only [f_X3_work, if_pos c_13, if_neg c_24, if_neg c_37, if_neg c_52, if_neg c_85, if_pos c_125, if_neg c_131, if_neg c_137]) dX3_work_144
          · skip
            refine lv_iload hx hb dX3_work_88 (lv_at hl 4 rfl) ?_
            refine lv_iconst (v := 0) hx hb dX3_work_90 (by decide) ?_
            refine lv_bipush (v := 11) hx hb dX3_work_91 (by decide) ?_
            refine g_Si (As := [.int x4, .int 0, .int 11]) (rest := []) ⟨hx, hb, hml, hown, hts⟩ (c_X3_isIn l x4 0 11) (va_cwS 3 hts gX3_work_X3_isIn rfl rfl rfl esX3_isIn ⟨Nat.le_of_ble_eq_true rfl, Nat.le_of_ble_eq_true rfl⟩) hP hS rfl hl.1 rfl (Nat.le_of_ble_eq_true rfl) dX3_work_93 ⟨Nat.zero_le _, Nat.zero_le _⟩ (fun H locs hP hS => ?_)
            refine lv_if_eq (tgt := 118) hx hb dX3_work_96 (by decide) (fun c_96 => ?_) (fun c_96 => ?_)
            · skip
              refine lv_iconst (v := 1) hx hb dX3_work_118 (by decide) ?_
              refine g_Si (As := [.int 1]) (rest := []) ⟨hx, hb, hml, hown, hts⟩ (c_X3_with l 1) (va_cwS 1 hts gX3_work_X3_with rfl rfl rfl esX3_with ⟨Nat.le_of_ble_eq_true rfl, Nat.le_of_ble_eq_true rfl⟩) hP hS rfl hl.1 rfl (Nat.le_of_ble_eq_true rfl) dX3_work_119 ⟨Nat.zero_le _, Nat.zero_le _⟩ (fun H locs hP hS => ?_)
              exact r_Wi hx hb hr hlocks hP hI hS (by simp only [f_X3_work, if_pos c_13, if_neg c_24, if_neg c_37, if_neg c_52, if_pos c_85, if_pos c_96]) dX3_work_122
            · skip
              refine lv_iload_n hx hb dX3_work_99 rfl (lv_at hl 2 rfl) ?_
              refine lv_iconst (v := (-1)) hx hb dX3_work_100 (by decide) ?_
              refine lv_icmp_eq (tgt := 114) hx hb dX3_work_101 (by decide) (fun c_101 => ?_) (fun c_101 => ?_)
              · skip
                refine lv_iload_n hx hb dX3_work_114 rfl (lv_at hl 2 rfl) ?_
                refine lv_goto (tgt := 122) hx hb dX3_work_115 (by decide) ?_
                exact r_Wi hx hb hr hlocks hP hI hS (by simp only [f_X3_work, if_pos c_13, if_neg c_24, if_neg c_37, if_neg c_52, if_pos c_85, if_neg c_96, if_pos c_101]) dX3_work_122
              · skip
                refine lv_aload_n hx hb dX3_work_104 rfl (lv_at hl 0 rfl) ?_
                refine lv_iload_n hx hb dX3_work_105 rfl (lv_at hl 2 rfl) ?_
                refine lv_iload hx hb dX3_work_106 (lv_at hl 4 rfl) ?_
                refine g_Ri (As := [.int x2, .int x4]) (rest := []) ⟨hx, hb, hml, hown, hts⟩ (c_X3_isOf l D cI cJ a hd S x2 x4 hvx.2) (cwV 2 hts gX3_work_X3_isOf rfl rfl rfl eeX3_isOf ⟨Nat.le_of_ble_eq_true rfl, Nat.le_of_ble_eq_true rfl⟩) hK hN hP hI (va_recv hK hP (ci := 3) (q0 := 0) rfl rfl) hS rfl hl.1 rfl (Nat.le_of_ble_eq_true rfl) dX3_work_108 ⟨Nat.zero_le _, Nat.zero_le _⟩ (fun H locs hP hS => ?_)
                refine lv_if_eq (tgt := 118) hx hb dX3_work_111 (by decide) (fun c_111 => ?_) (fun c_111 => ?_)
                · skip
                  refine lv_iconst (v := 1) hx hb dX3_work_118 (by decide) ?_
                  refine g_Si (As := [.int 1]) (rest := []) ⟨hx, hb, hml, hown, hts⟩ (c_X3_with l 1) (va_cwS 1 hts gX3_work_X3_with rfl rfl rfl esX3_with ⟨Nat.le_of_ble_eq_true rfl, Nat.le_of_ble_eq_true rfl⟩) hP hS rfl hl.1 rfl (Nat.le_of_ble_eq_true rfl) dX3_work_119 ⟨Nat.zero_le _, Nat.zero_le _⟩ (fun H locs hP hS => ?_)
                  exact r_Wi hx hb hr hlocks hP hI hS (by simp only [f_X3_work, if_pos c_13, if_neg c_24, if_neg c_37, if_neg c_52, if_pos c_85, if_neg c_96, if_neg c_101, if_pos c_111]) dX3_work_122
                · skip
                  refine lv_iload_n hx hb dX3_work_114 rfl (lv_at hl 2 rfl) ?_
                  refine lv_goto (tgt := 122) hx hb dX3_work_115 (by decide) ?_
                  exact r_Wi hx hb hr hlocks hP hI hS (by simp only [f_X3_work, if_pos c_13, if_neg c_24, if_neg c_37, if_neg c_52, if_pos c_85, if_neg c_96, if_neg c_101, if_neg c_111]) dX3_work_122
        · skip
          refine lv_iload hx hb dX3_work_55 (lv_at hl 4 rfl) ?_
          refine lv_iconst (v := 0) hx hb dX3_work_57 (by decide) ?_
          refine lv_bipush (v := 8) hx hb dX3_work_58 (by decide) ?_
          refine g_Si (As := [.int x4, .int 0, .int 8]) (rest := []) ⟨hx, hb, hml, hown, hts⟩ (c_X3_isIn l x4 0 8) (va_cwS 3 hts gX3_work_X3_isIn rfl rfl rfl esX3_isIn ⟨Nat.le_of_ble_eq_true rfl, Nat.le_of_ble_eq_true rfl⟩) hP hS rfl hl.1 rfl (Nat.le_of_ble_eq_true rfl) dX3_work_60 ⟨Nat.zero_le _, Nat.zero_le _⟩ (fun H locs hP hS => ?_)
          refine lv_if_eq (tgt := 77) hx hb dX3_work_63 (by decide) (fun c_63 => ?_) (fun c_63 => ?_)
          · skip
            refine lv_iconst (v := 5) hx hb dX3_work_77 (by decide) ?_
            refine g_Si (As := [.int 5]) (rest := []) ⟨hx, hb, hml, hown, hts⟩ (c_X3_with l 5) (va_cwS 1 hts gX3_work_X3_with rfl rfl rfl esX3_with ⟨Nat.le_of_ble_eq_true rfl, Nat.le_of_ble_eq_true rfl⟩) hP hS rfl hl.1 rfl (Nat.le_of_ble_eq_true rfl) dX3_work_78 ⟨Nat.zero_le _, Nat.zero_le _⟩ (fun H locs hP hS => ?_)
            exact r_Wi hx hb hr hlocks hP hI hS (by simp only [f_X3_work, if_pos c_13, if_neg c_24, if_neg c_37, if_pos c_52, if_pos c_63]) dX3_work_81
          · skip
            refine lv_aload_n hx hb dX3_work_66 rfl (lv_at hl 0 rfl) ?_
            refine lv_bipush (v := 6) hx hb dX3_work_67 (by decide) ?_
            refine lv_iload hx hb dX3_work_69 (lv_at hl 4 rfl) ?_
            refine g_Wi (As := [.int 6, .int x4]) (rest := []) ⟨hx, hb, hml, hown, hts⟩ (c_X3_make l D cI cJ a hd S 6 x4 (work_lt hI c_13 (by rw [c_52]; decide)) (isIn8 c_63)) (cwV 2 hts gX3_work_X3_make rfl rfl rfl eeX3_make ⟨Nat.le_of_ble_eq_true rfl, Nat.le_of_ble_eq_true rfl⟩) hK hN hP hI (va_recv hK hP (ci := 3) (q0 := 0) rfl rfl) hS rfl hl.1 rfl (Nat.le_of_ble_eq_true rfl) dX3_work_71 ⟨Nat.zero_le _, Nat.zero_le _⟩ (fun H locs hI hP hS => ?_)
            refine lv_goto (tgt := 81) hx hb dX3_work_74 (by decide) ?_
            exact r_Wi hx hb hr hlocks hP hI hS (by simp only [f_X3_work, if_pos c_13, if_neg c_24, if_neg c_37, if_pos c_52, if_neg c_63]) dX3_work_81
      · skip
        refine lv_aload_n hx hb dX3_work_40 rfl (lv_at hl 0 rfl) ?_
        refine lv_iload_n hx hb dX3_work_41 rfl (lv_at hl 2 rfl) ?_
        refine lv_iload_n hx hb dX3_work_42 rfl (lv_at hl 3 rfl) ?_
        refine lv_iload hx hb dX3_work_43 (lv_at hl 4 rfl) ?_
        refine g_Wi (As := [.int x2, .int x3, .int x4]) (rest := []) ⟨hx, hb, hml, hown, hts⟩ (c_X3_lay l D cI cJ a hd S x2 x3 x4 hvx hy) (cwV 3 hts gX3_work_X3_lay rfl rfl rfl eeX3_lay ⟨Nat.le_of_ble_eq_true rfl, Nat.le_of_ble_eq_true rfl⟩) hK hN hP hI (va_recv hK hP (ci := 3) (q0 := 0) rfl rfl) hS rfl hl.1 rfl (Nat.le_of_ble_eq_true rfl) dX3_work_45 ⟨Nat.zero_le _, Nat.zero_le _⟩ (fun H locs hI hP hS => ?_)
        exact r_Wi hx hb hr hlocks hP hI hS (by simp only [f_X3_work, if_pos c_13, if_neg c_24, if_pos c_37]) dX3_work_48
    · skip
      refine lv_aload_n hx hb dX3_work_27 rfl (lv_at hl 0 rfl) ?_
      refine lv_iload_n hx hb dX3_work_28 rfl (lv_at hl 2 rfl) ?_
      refine lv_iload hx hb dX3_work_29 (lv_at hl 4 rfl) ?_
      refine g_Ri (As := [.int x2, .int x4]) (rest := []) ⟨hx, hb, hml, hown, hts⟩ (c_X3_tap l D cI cJ a hd S x2 x4 hvx) (cwV 2 hts gX3_work_X3_tap rfl rfl rfl eeX3_tap ⟨Nat.le_of_ble_eq_true rfl, Nat.le_of_ble_eq_true rfl⟩) hK hN hP hI (va_recv hK hP (ci := 3) (q0 := 0) rfl rfl) hS rfl hl.1 rfl (Nat.le_of_ble_eq_true rfl) dX3_work_31 ⟨Nat.zero_le _, Nat.zero_le _⟩ (fun H locs hP hS => ?_)
      exact r_Wi hx hb hr hlocks hP hI hS (by simp only [f_X3_work, if_pos c_13, if_pos c_24]) dX3_work_34
  · skip
    refine lv_bipush (v := 6) hx hb dX3_work_16 (by decide) ?_
    refine g_Si (As := [.int 6]) (rest := []) ⟨hx, hb, hml, hown, hts⟩ (c_X3_with l 6) (va_cwS 1 hts gX3_work_X3_with rfl rfl rfl esX3_with ⟨Nat.le_of_ble_eq_true rfl, Nat.le_of_ble_eq_true rfl⟩) hP hS rfl hl.1 rfl (Nat.le_of_ble_eq_true rfl) dX3_work_18 ⟨Nat.zero_le _, Nat.zero_le _⟩ (fun H locs hP hS => ?_)
    exact r_Wi hx hb hr hlocks hP hI hS (by simp only [f_X3_work, if_neg c_13]) dX3_work_21
abbrev rmX3_noted : Room := { frames := 0, cells := 0, slots := 0, locals := 0 }
theorem eeX3_noted : yX3_noted.cls = RX3 ∧ yX3_noted.cls ≠ "java/lang/invoke/MethodHandle" ∧ yX3_noted.cls ≠ "java/lang/invoke/VarHandle" ∧ (parseMethodDescriptor yX3_noted.desc).map (fun d => d.parameters.length) = some 1 := by decide +kernel
theorem iwX3_noted : ∀ w ∈ u_ws RX3 TX3 13, w ∈ wsX3_noted := by decide +kernel
theorem flX3_noted_119 : Cond.fieldLink RX3 119 "LoomPanelModel" "faults" "I" ∈ wsX3_noted := by decide +kernel
theorem flX3_noted_122 : Cond.fieldLink RX3 122 "LoomPanelModel" "latest" "I" ∈ wsX3_noted := by decide +kernel
def f_X3_noted (S : MS) (x1 : Int32) : Int32 × MS := if (-10) ≤ x1 then ((x1, S)) else ((x1, (S.set_faults (S.faults + 1)).set_latest ((-10) - x1)))
set_option maxHeartbeats 4000000 in
set_option maxRecDepth 100000 in
theorem c_X3_noted (l : Launch) (D : va_G) (cI cJ : ClassId) (a : Nat → Nat) (hd : ∀ i j, i < 10 → j < 10 → a i = a j → i = j) (S : MS) (x1 : Int32) : GWi l yX3_noted wsX3_noted rmX3_noted [.ref (a 0), .int x1] D (mw_tys cI cJ) (mw cI cJ a) MInv (mA a) S (f_X3_noted S x1) := by
  refine GB_of (cc := cX3_noted) (maxL := 2) (ret := (some .int)) (by decide) rfl (Nat.le_of_ble_eq_true rfl) ?_
  intro p e s m below meth c C hP hI ls hl
  obtain ⟨hx, hb, hr, hlocks, hml, hown, hts, hK, hN⟩ := id C
  have hS : va_S (mA a) s.heap s.heap [] := va_S.rf
  have hl : lv_has ls 2 [(0, .ref (a 0)), (1, .int x1)] := hl
  refine lv_iload_n hx hb dX3_noted_0 rfl (lv_at hl 1 rfl) ?_
  refine lv_bipush (v := (-10)) hx hb dX3_noted_1 (by decide) ?_
  refine lv_icmp_ge (tgt := 24) hx hb dX3_noted_3 (by decide) (fun c_3 => ?_) (fun c_3 => ?_)
  · skip
    refine lv_iload_n hx hb dX3_noted_24 rfl (lv_at hl 1 rfl) ?_
    exact r_Wi hx hb hr hlocks hP hI hS (by simp only [f_X3_noted, if_pos c_3]) dX3_noted_25
  · skip
    refine lv_aload_n hx hb dX3_noted_6 rfl (lv_at hl 0 rfl) ?_
    refine lv_dup hx hb dX3_noted_7 rfl ?_
    refine va_get (D := D) (ci := 3) (v := .int S.faults) (C := RX3) (T := TX3) (N := 13) hx hb hts iwX3_noted hown hK hP 0 rfl rfl 10 (by decide) (hts (.fieldLink RX3 119 "LoomPanelModel" "faults" "I") flX3_noted_119) (fun _ h9 => h9) rfl dX3_noted_8 ?_
    refine lv_iconst (v := 1) hx hb dX3_noted_11 (by decide) ?_
    refine lv_iadd hx hb dX3_noted_12 ?_
    refine va_put (D := D) (ci := 3) (v := .int (S.faults + 1)) (ty := .int) (C := RX3) (T := TX3) (N := 13) hx hb hts iwX3_noted tyX3 tyX3_ok nmX3 hown hK hP (mw_D hd) hS 0 rfl rfl 10 (by decide) (hts (.fieldLink RX3 119 "LoomPanelModel" "faults" "I") flX3_noted_119) (fun _ h9 => h9) rfl (by decide +kernel) rfl rfl (Nat.le_of_ble_eq_true rfl) dX3_noted_13 (fun H locs hP _ hS => ?_)
    have hP : va_P D vwCl (mw cI cJ a (S.set_faults (S.faults + 1))) H := by rw [← mw_set_faults]; exact hP
    have hI : MInv (S.set_faults (S.faults + 1)) := MInv_set_faults hI
    refine lv_aload_n hx hb dX3_noted_16 rfl (lv_at hl 0 rfl) ?_
    refine lv_bipush (v := (-10)) hx hb dX3_noted_17 (by decide) ?_
    refine lv_iload_n hx hb dX3_noted_19 rfl (lv_at hl 1 rfl) ?_
    refine lv_isub hx hb dX3_noted_20 ?_
    refine va_put (D := D) (ci := 3) (v := .int ((-10) - x1)) (ty := .int) (C := RX3) (T := TX3) (N := 13) hx hb hts iwX3_noted tyX3 tyX3_ok nmX3 hown hK hP (mw_D hd) hS 0 rfl rfl 11 (by decide) (hts (.fieldLink RX3 122 "LoomPanelModel" "latest" "I") flX3_noted_122) (fun _ h9 => h9) rfl (by decide +kernel) rfl rfl (Nat.le_of_ble_eq_true rfl) dX3_noted_21 (fun H locs hP _ hS => ?_)
    have hP : va_P D vwCl (mw cI cJ a ((S.set_faults (S.faults + 1)).set_latest ((-10) - x1))) H := by rw [← mw_set_latest]; exact hP
    have hI : MInv ((S.set_faults (S.faults + 1)).set_latest ((-10) - x1)) := MInv_set_latest hI
    refine lv_iload_n hx hb dX3_noted_24 rfl (lv_at hl 1 rfl) ?_
    exact r_Wi hx hb hr hlocks hP hI hS (by simp only [f_X3_noted, if_neg c_3]) dX3_noted_25
abbrev rmX3_act : Room := { frames := 5, cells := 0, slots := 0, locals := 117 }
theorem eeX3_act : yX3_act.cls = RX3 ∧ yX3_act.cls ≠ "java/lang/invoke/MethodHandle" ∧ yX3_act.cls ≠ "java/lang/invoke/VarHandle" ∧ (parseMethodDescriptor yX3_act.desc).map (fun d => d.parameters.length) = some 4 := by decide +kernel
def f_X3_act (S : MS) (x1 : Int32) (x2 : Int32) (x3 : Int32) (x4 : Int32) : Int32 × MS := if (f_X3_isIn x1 0 12) = 0 then (((-3), S)) else (if (f_X3_mayBe S x2) = 0 then (((-3), S)) else (if (f_X3_mayBe S x3) = 0 then (((-3), S)) else (((f_X3_noted ((f_X3_work S x1 x2 x3 x4).2) ((f_X3_work S x1 x2 x3 x4).1)).1, (f_X3_noted ((f_X3_work S x1 x2 x3 x4).2) ((f_X3_work S x1 x2 x3 x4).1)).2))))
set_option maxHeartbeats 4000000 in
set_option maxRecDepth 100000 in
theorem c_X3_act (l : Launch) (D : va_G) (cI cJ : ClassId) (a : Nat → Nat) (hd : ∀ i j, i < 10 → j < 10 → a i = a j → i = j) (S : MS) (x1 : Int32) (x2 : Int32) (x3 : Int32) (x4 : Int32) : GWi l yX3_act wsX3_act rmX3_act [.ref (a 0), .int x1, .int x2, .int x3, .int x4] D (mw_tys cI cJ) (mw cI cJ a) MInv (mA a) S (f_X3_act S x1 x2 x3 x4) := by
  refine GB_of (cc := cX3_act) (maxL := 5) (ret := (some .int)) (by decide) rfl (Nat.le_of_ble_eq_true rfl) ?_
  intro p e s m below meth c C hP hI ls hl
  obtain ⟨hx, hb, hr, hlocks, hml, hown, hts, hK, hN⟩ := id C
  have hS : va_S (mA a) s.heap s.heap [] := va_S.rf
  have hl : lv_has ls 5 [(0, .ref (a 0)), (1, .int x1), (2, .int x2), (3, .int x3), (4, .int x4)] := hl
  refine lv_iload_n hx hb dX3_act_0 rfl (lv_at hl 1 rfl) ?_
  refine lv_iconst (v := 0) hx hb dX3_act_1 (by decide) ?_
  refine lv_bipush (v := 12) hx hb dX3_act_2 (by decide) ?_
  refine g_Si (As := [.int x1, .int 0, .int 12]) (rest := []) ⟨hx, hb, hml, hown, hts⟩ (c_X3_isIn l x1 0 12) (va_cwS 3 hts gX3_act_X3_isIn rfl rfl rfl esX3_isIn ⟨Nat.le_of_ble_eq_true rfl, Nat.le_of_ble_eq_true rfl⟩) hP hS rfl hl.1 rfl (Nat.le_of_ble_eq_true rfl) dX3_act_4 ⟨Nat.zero_le _, Nat.zero_le _⟩ (fun H locs hP hS => ?_)
  refine lv_if_eq (tgt := 26) hx hb dX3_act_7 (by decide) (fun c_7 => ?_) (fun c_7 => ?_)
  · skip
    refine lv_bipush (v := (-3)) hx hb dX3_act_26 (by decide) ?_
    exact r_Wi hx hb hr hlocks hP hI hS (by simp only [f_X3_act, if_pos c_7]) dX3_act_28
  · skip
    refine lv_aload_n hx hb dX3_act_10 rfl (lv_at hl 0 rfl) ?_
    refine lv_iload_n hx hb dX3_act_11 rfl (lv_at hl 2 rfl) ?_
    refine g_Ri (As := [.int x2]) (rest := []) ⟨hx, hb, hml, hown, hts⟩ (c_X3_mayBe l D cI cJ a hd S x2 ) (cwV 1 hts gX3_act_X3_mayBe rfl rfl rfl eeX3_mayBe ⟨Nat.le_of_ble_eq_true rfl, Nat.le_of_ble_eq_true rfl⟩) hK hN hP hI (va_recv hK hP (ci := 3) (q0 := 0) rfl rfl) hS rfl hl.1 rfl (Nat.le_of_ble_eq_true rfl) dX3_act_12 ⟨Nat.zero_le _, Nat.zero_le _⟩ (fun H locs hP hS => ?_)
    refine lv_if_eq (tgt := 26) hx hb dX3_act_15 (by decide) (fun c_15 => ?_) (fun c_15 => ?_)
    · skip
      refine lv_bipush (v := (-3)) hx hb dX3_act_26 (by decide) ?_
      exact r_Wi hx hb hr hlocks hP hI hS (by simp only [f_X3_act, if_neg c_7, if_pos c_15]) dX3_act_28
    · skip
      refine lv_aload_n hx hb dX3_act_18 rfl (lv_at hl 0 rfl) ?_
      refine lv_iload_n hx hb dX3_act_19 rfl (lv_at hl 3 rfl) ?_
      refine g_Ri (As := [.int x3]) (rest := []) ⟨hx, hb, hml, hown, hts⟩ (c_X3_mayBe l D cI cJ a hd S x3 ) (cwV 1 hts gX3_act_X3_mayBe rfl rfl rfl eeX3_mayBe ⟨Nat.le_of_ble_eq_true rfl, Nat.le_of_ble_eq_true rfl⟩) hK hN hP hI (va_recv hK hP (ci := 3) (q0 := 0) rfl rfl) hS rfl hl.1 rfl (Nat.le_of_ble_eq_true rfl) dX3_act_20 ⟨Nat.zero_le _, Nat.zero_le _⟩ (fun H locs hP hS => ?_)
      refine lv_if_ne (tgt := 29) hx hb dX3_act_23 (by decide) (fun c_23 => ?_) (fun c_23 => ?_)
      · skip
        refine lv_aload_n hx hb dX3_act_29 rfl (lv_at hl 0 rfl) ?_
        refine lv_aload_n hx hb dX3_act_30 rfl (lv_at hl 0 rfl) ?_
        refine lv_iload_n hx hb dX3_act_31 rfl (lv_at hl 1 rfl) ?_
        refine lv_iload_n hx hb dX3_act_32 rfl (lv_at hl 2 rfl) ?_
        refine lv_iload_n hx hb dX3_act_33 rfl (lv_at hl 3 rfl) ?_
        refine lv_iload hx hb dX3_act_34 (lv_at hl 4 rfl) ?_
        refine g_Wi (As := [.int x1, .int x2, .int x3, .int x4]) (rest := [.ref (a 0)]) ⟨hx, hb, hml, hown, hts⟩ (c_X3_work l D cI cJ a hd S x1 x2 x3 x4 (isIn_in c_7) (mayBe_in hI c_15) (mayBe_in hI c_23)) (cwV 4 hts gX3_act_X3_work rfl rfl rfl eeX3_work ⟨Nat.le_of_ble_eq_true rfl, Nat.le_of_ble_eq_true rfl⟩) hK hN hP hI (va_recv hK hP (ci := 3) (q0 := 0) rfl rfl) hS rfl hl.1 rfl (Nat.le_of_ble_eq_true rfl) dX3_act_36 ⟨Nat.zero_le _, Nat.zero_le _⟩ (fun H locs hI hP hS => ?_)
        refine g_Wi (As := [.int ((f_X3_work S x1 x2 x3 x4).1)]) (rest := []) ⟨hx, hb, hml, hown, hts⟩ (c_X3_noted l D cI cJ a hd ((f_X3_work S x1 x2 x3 x4).2) ((f_X3_work S x1 x2 x3 x4).1) ) (cwV 1 hts gX3_act_X3_noted rfl rfl rfl eeX3_noted ⟨Nat.le_of_ble_eq_true rfl, Nat.le_of_ble_eq_true rfl⟩) hK hN hP hI (va_recv hK hP (ci := 3) (q0 := 0) rfl rfl) hS rfl hl.1 rfl (Nat.le_of_ble_eq_true rfl) dX3_act_39 ⟨Nat.zero_le _, Nat.zero_le _⟩ (fun H locs hI hP hS => ?_)
        exact r_Wi hx hb hr hlocks hP hI hS (by simp only [f_X3_act, if_neg c_7, if_neg c_15, if_neg c_23]) dX3_act_42
      · skip
        refine lv_bipush (v := (-3)) hx hb dX3_act_26 (by decide) ?_
        exact r_Wi hx hb hr hlocks hP hI hS (by simp only [f_X3_act, if_neg c_7, if_neg c_15, if_pos c_23]) dX3_act_28
theorem steps_lt {S : MS} {k : Nat} (hI : MInv S) (h : ¬ S.steps k = 12) : (S.steps k).toInt < 12 := by
  have h1 := hI.2.2.2.1 k
  have : ¬ (S.steps k).toInt = 12 := fun e => h (Int32.toInt_inj.mp (e.trans (by decide)))
  omega
theorem steps_set {S : MS} {k : Nat} {v : Int32} (hI : MInv S) (h : 0 ≤ v.toInt ∧ v.toInt ≤ 12) : MInv (S.set_steps (upd S.steps k v)) := by
  refine ⟨hI.1, hI.2.1, hI.2.2.1, fun i => ?_, hI.2.2.2.2⟩
  show 0 ≤ (upd S.steps k v i).toInt ∧ (upd S.steps k v i).toInt ≤ 12
  by_cases hh : i = k
  · subst hh; rw [pk_us]; exact h
  · rw [pk_un hh]; exact hI.2.2.2.1 i
theorem steps_up {S : MS} {k j : Nat} (hI : MInv S) (h1 : (S.steps j).toInt < 12) : MInv (S.set_steps (upd S.steps k (S.steps j + 1))) := by
  have h := add1 (hI.2.2.2.1 j).1 h1 (by decide)
  exact steps_set hI ⟨by have := hI.2.2.2.1 j; omega, by omega⟩
theorem soth_set {S : MS} {k : Nat} {v : Int32} (hI : MInv S) (h : -2 ≤ v.toInt ∧ v.toInt < 60) : MInv (S.set_soth (upd S.soth k v)) := by
  refine ⟨hI.1, hI.2.1, hI.2.2.1, hI.2.2.2.1, fun i => ?_, hI.2.2.2.2.2⟩
  show -2 ≤ (upd S.soth k v i).toInt ∧ (upd S.soth k v i).toInt < 60
  by_cases hh : i = k
  · subst hh; rw [pk_us]; exact h
  · rw [pk_un hh]; exact hI.2.2.2.2.1 i
theorem sact_set {S : MS} {k : Nat} {v : Int32} (hI : MInv S) (h : 0 ≤ v.toInt ∧ v.toInt ≤ 12) : MInv (S.set_sact (upd S.sact k v)) := by
  refine ⟨hI.1, hI.2.1, hI.2.2.1, hI.2.2.2.1, hI.2.2.2.2.1, fun i => ?_⟩
  show 0 ≤ (upd S.sact k v i).toInt ∧ (upd S.sact k v i).toInt ≤ 12
  by_cases hh : i = k
  · subst hh; rw [pk_us]; exact h
  · rw [pk_un hh]; exact hI.2.2.2.2.2 i
theorem oth_ok {S : MS} {x : Int32} (hI : MInv S) (h : x = -2 ∨ ¬ f_X3_mayBe S x = 0) : -2 ≤ x.toInt ∧ x.toInt < 60 := by
  rcases h with h | h
  · subst h; decide
  · have := mayBe_in hI h
    exact ⟨by have := this.1; omega, this.2⟩
abbrev rmX3_step : Room := { frames := 2, cells := 0, slots := 0, locals := 43 }
theorem eeX3_step : yX3_step.cls = RX3 ∧ yX3_step.cls ≠ "java/lang/invoke/MethodHandle" ∧ yX3_step.cls ≠ "java/lang/invoke/VarHandle" ∧ (parseMethodDescriptor yX3_step.desc).map (fun d => d.parameters.length) = some 4 := by decide +kernel
theorem iwX3_step : ∀ w ∈ u_ws RX3 TX3 13, w ∈ wsX3_step := by decide +kernel
theorem flX3_step_26 : Cond.fieldLink RX3 26 "LoomPanelModel" "steps" "[I" ∈ wsX3_step := by decide +kernel
theorem flX3_step_29 : Cond.fieldLink RX3 29 "LoomPanelModel" "stepAct" "[I" ∈ wsX3_step := by decide +kernel
theorem flX3_step_32 : Cond.fieldLink RX3 32 "LoomPanelModel" "stepOther" "[I" ∈ wsX3_step := by decide +kernel
theorem flX3_step_35 : Cond.fieldLink RX3 35 "LoomPanelModel" "stepNumber" "[I" ∈ wsX3_step := by decide +kernel
def f_X3_step (S : MS) (x1 : Int32) (x2 : Int32) (x3 : Int32) (x4 : Int32) : Int32 × MS := if (f_X3_isIn x1 0 5) = 0 then (((-3), S)) else (if (f_X3_isIn x2 0 12) = 0 then (((-3), S)) else (if x3 = (-2) then (if (S.steps x1.toNatClampNeg) = 12 then (((-4), S)) else (((((((S.set_sact (upd S.sact ((12 * x1) + (S.steps x1.toNatClampNeg)).toNatClampNeg x2)).set_soth (upd ((S.set_sact (upd S.sact ((12 * x1) + (S.steps x1.toNatClampNeg)).toNatClampNeg x2)).soth) ((12 * x1) + (S.steps x1.toNatClampNeg)).toNatClampNeg x3)).set_snum (upd (((S.set_sact (upd S.sact ((12 * x1) + (S.steps x1.toNatClampNeg)).toNatClampNeg x2)).set_soth (upd ((S.set_sact (upd S.sact ((12 * x1) + (S.steps x1.toNatClampNeg)).toNatClampNeg x2)).soth) ((12 * x1) + (S.steps x1.toNatClampNeg)).toNatClampNeg x3)).snum) ((12 * x1) + (S.steps x1.toNatClampNeg)).toNatClampNeg x4)).set_steps (upd ((((S.set_sact (upd S.sact ((12 * x1) + (S.steps x1.toNatClampNeg)).toNatClampNeg x2)).set_soth (upd ((S.set_sact (upd S.sact ((12 * x1) + (S.steps x1.toNatClampNeg)).toNatClampNeg x2)).soth) ((12 * x1) + (S.steps x1.toNatClampNeg)).toNatClampNeg x3)).set_snum (upd (((S.set_sact (upd S.sact ((12 * x1) + (S.steps x1.toNatClampNeg)).toNatClampNeg x2)).set_soth (upd ((S.set_sact (upd S.sact ((12 * x1) + (S.steps x1.toNatClampNeg)).toNatClampNeg x2)).soth) ((12 * x1) + (S.steps x1.toNatClampNeg)).toNatClampNeg x3)).snum) ((12 * x1) + (S.steps x1.toNatClampNeg)).toNatClampNeg x4)).steps) x1.toNatClampNeg ((((((S.set_sact (upd S.sact ((12 * x1) + (S.steps x1.toNatClampNeg)).toNatClampNeg x2)).set_soth (upd ((S.set_sact (upd S.sact ((12 * x1) + (S.steps x1.toNatClampNeg)).toNatClampNeg x2)).soth) ((12 * x1) + (S.steps x1.toNatClampNeg)).toNatClampNeg x3)).set_snum (upd (((S.set_sact (upd S.sact ((12 * x1) + (S.steps x1.toNatClampNeg)).toNatClampNeg x2)).set_soth (upd ((S.set_sact (upd S.sact ((12 * x1) + (S.steps x1.toNatClampNeg)).toNatClampNeg x2)).soth) ((12 * x1) + (S.steps x1.toNatClampNeg)).toNatClampNeg x3)).snum) ((12 * x1) + (S.steps x1.toNatClampNeg)).toNatClampNeg x4)).steps) x1.toNatClampNeg) + 1))).steps) x1.toNatClampNeg, (((S.set_sact (upd S.sact ((12 * x1) + (S.steps x1.toNatClampNeg)).toNatClampNeg x2)).set_soth (upd ((S.set_sact (upd S.sact ((12 * x1) + (S.steps x1.toNatClampNeg)).toNatClampNeg x2)).soth) ((12 * x1) + (S.steps x1.toNatClampNeg)).toNatClampNeg x3)).set_snum (upd (((S.set_sact (upd S.sact ((12 * x1) + (S.steps x1.toNatClampNeg)).toNatClampNeg x2)).set_soth (upd ((S.set_sact (upd S.sact ((12 * x1) + (S.steps x1.toNatClampNeg)).toNatClampNeg x2)).soth) ((12 * x1) + (S.steps x1.toNatClampNeg)).toNatClampNeg x3)).snum) ((12 * x1) + (S.steps x1.toNatClampNeg)).toNatClampNeg x4)).set_steps (upd ((((S.set_sact (upd S.sact ((12 * x1) + (S.steps x1.toNatClampNeg)).toNatClampNeg x2)).set_soth (upd ((S.set_sact (upd S.sact ((12 * x1) + (S.steps x1.toNatClampNeg)).toNatClampNeg x2)).soth) ((12 * x1) + (S.steps x1.toNatClampNeg)).toNatClampNeg x3)).set_snum (upd (((S.set_sact (upd S.sact ((12 * x1) + (S.steps x1.toNatClampNeg)).toNatClampNeg x2)).set_soth (upd ((S.set_sact (upd S.sact ((12 * x1) + (S.steps x1.toNatClampNeg)).toNatClampNeg x2)).soth) ((12 * x1) + (S.steps x1.toNatClampNeg)).toNatClampNeg x3)).snum) ((12 * x1) + (S.steps x1.toNatClampNeg)).toNatClampNeg x4)).steps) x1.toNatClampNeg ((((((S.set_sact (upd S.sact ((12 * x1) + (S.steps x1.toNatClampNeg)).toNatClampNeg x2)).set_soth (upd ((S.set_sact (upd S.sact ((12 * x1) + (S.steps x1.toNatClampNeg)).toNatClampNeg x2)).soth) ((12 * x1) + (S.steps x1.toNatClampNeg)).toNatClampNeg x3)).set_snum (upd (((S.set_sact (upd S.sact ((12 * x1) + (S.steps x1.toNatClampNeg)).toNatClampNeg x2)).set_soth (upd ((S.set_sact (upd S.sact ((12 * x1) + (S.steps x1.toNatClampNeg)).toNatClampNeg x2)).soth) ((12 * x1) + (S.steps x1.toNatClampNeg)).toNatClampNeg x3)).snum) ((12 * x1) + (S.steps x1.toNatClampNeg)).toNatClampNeg x4)).steps) x1.toNatClampNeg) + 1))))) else (if (f_X3_mayBe S x3) = 0 then (((-3), S)) else (if (S.steps x1.toNatClampNeg) = 12 then (((-4), S)) else (((((((S.set_sact (upd S.sact ((12 * x1) + (S.steps x1.toNatClampNeg)).toNatClampNeg x2)).set_soth (upd ((S.set_sact (upd S.sact ((12 * x1) + (S.steps x1.toNatClampNeg)).toNatClampNeg x2)).soth) ((12 * x1) + (S.steps x1.toNatClampNeg)).toNatClampNeg x3)).set_snum (upd (((S.set_sact (upd S.sact ((12 * x1) + (S.steps x1.toNatClampNeg)).toNatClampNeg x2)).set_soth (upd ((S.set_sact (upd S.sact ((12 * x1) + (S.steps x1.toNatClampNeg)).toNatClampNeg x2)).soth) ((12 * x1) + (S.steps x1.toNatClampNeg)).toNatClampNeg x3)).snum) ((12 * x1) + (S.steps x1.toNatClampNeg)).toNatClampNeg x4)).set_steps (upd ((((S.set_sact (upd S.sact ((12 * x1) + (S.steps x1.toNatClampNeg)).toNatClampNeg x2)).set_soth (upd ((S.set_sact (upd S.sact ((12 * x1) + (S.steps x1.toNatClampNeg)).toNatClampNeg x2)).soth) ((12 * x1) + (S.steps x1.toNatClampNeg)).toNatClampNeg x3)).set_snum (upd (((S.set_sact (upd S.sact ((12 * x1) + (S.steps x1.toNatClampNeg)).toNatClampNeg x2)).set_soth (upd ((S.set_sact (upd S.sact ((12 * x1) + (S.steps x1.toNatClampNeg)).toNatClampNeg x2)).soth) ((12 * x1) + (S.steps x1.toNatClampNeg)).toNatClampNeg x3)).snum) ((12 * x1) + (S.steps x1.toNatClampNeg)).toNatClampNeg x4)).steps) x1.toNatClampNeg ((((((S.set_sact (upd S.sact ((12 * x1) + (S.steps x1.toNatClampNeg)).toNatClampNeg x2)).set_soth (upd ((S.set_sact (upd S.sact ((12 * x1) + (S.steps x1.toNatClampNeg)).toNatClampNeg x2)).soth) ((12 * x1) + (S.steps x1.toNatClampNeg)).toNatClampNeg x3)).set_snum (upd (((S.set_sact (upd S.sact ((12 * x1) + (S.steps x1.toNatClampNeg)).toNatClampNeg x2)).set_soth (upd ((S.set_sact (upd S.sact ((12 * x1) + (S.steps x1.toNatClampNeg)).toNatClampNeg x2)).soth) ((12 * x1) + (S.steps x1.toNatClampNeg)).toNatClampNeg x3)).snum) ((12 * x1) + (S.steps x1.toNatClampNeg)).toNatClampNeg x4)).steps) x1.toNatClampNeg) + 1))).steps) x1.toNatClampNeg, (((S.set_sact (upd S.sact ((12 * x1) + (S.steps x1.toNatClampNeg)).toNatClampNeg x2)).set_soth (upd ((S.set_sact (upd S.sact ((12 * x1) + (S.steps x1.toNatClampNeg)).toNatClampNeg x2)).soth) ((12 * x1) + (S.steps x1.toNatClampNeg)).toNatClampNeg x3)).set_snum (upd (((S.set_sact (upd S.sact ((12 * x1) + (S.steps x1.toNatClampNeg)).toNatClampNeg x2)).set_soth (upd ((S.set_sact (upd S.sact ((12 * x1) + (S.steps x1.toNatClampNeg)).toNatClampNeg x2)).soth) ((12 * x1) + (S.steps x1.toNatClampNeg)).toNatClampNeg x3)).snum) ((12 * x1) + (S.steps x1.toNatClampNeg)).toNatClampNeg x4)).set_steps (upd ((((S.set_sact (upd S.sact ((12 * x1) + (S.steps x1.toNatClampNeg)).toNatClampNeg x2)).set_soth (upd ((S.set_sact (upd S.sact ((12 * x1) + (S.steps x1.toNatClampNeg)).toNatClampNeg x2)).soth) ((12 * x1) + (S.steps x1.toNatClampNeg)).toNatClampNeg x3)).set_snum (upd (((S.set_sact (upd S.sact ((12 * x1) + (S.steps x1.toNatClampNeg)).toNatClampNeg x2)).set_soth (upd ((S.set_sact (upd S.sact ((12 * x1) + (S.steps x1.toNatClampNeg)).toNatClampNeg x2)).soth) ((12 * x1) + (S.steps x1.toNatClampNeg)).toNatClampNeg x3)).snum) ((12 * x1) + (S.steps x1.toNatClampNeg)).toNatClampNeg x4)).steps) x1.toNatClampNeg ((((((S.set_sact (upd S.sact ((12 * x1) + (S.steps x1.toNatClampNeg)).toNatClampNeg x2)).set_soth (upd ((S.set_sact (upd S.sact ((12 * x1) + (S.steps x1.toNatClampNeg)).toNatClampNeg x2)).soth) ((12 * x1) + (S.steps x1.toNatClampNeg)).toNatClampNeg x3)).set_snum (upd (((S.set_sact (upd S.sact ((12 * x1) + (S.steps x1.toNatClampNeg)).toNatClampNeg x2)).set_soth (upd ((S.set_sact (upd S.sact ((12 * x1) + (S.steps x1.toNatClampNeg)).toNatClampNeg x2)).soth) ((12 * x1) + (S.steps x1.toNatClampNeg)).toNatClampNeg x3)).snum) ((12 * x1) + (S.steps x1.toNatClampNeg)).toNatClampNeg x4)).steps) x1.toNatClampNeg) + 1))))))))
set_option maxHeartbeats 4000000 in
set_option maxRecDepth 100000 in
theorem c_X3_step (l : Launch) (D : va_G) (cI cJ : ClassId) (a : Nat → Nat) (hd : ∀ i j, i < 10 → j < 10 → a i = a j → i = j) (S : MS) (x1 : Int32) (x2 : Int32) (x3 : Int32) (x4 : Int32) : GWi l yX3_step wsX3_step rmX3_step [.ref (a 0), .int x1, .int x2, .int x3, .int x4] D (mw_tys cI cJ) (mw cI cJ a) MInv (mA a) S (f_X3_step S x1 x2 x3 x4) := by
  refine GB_of (cc := cX3_step) (maxL := 6) (ret := (some .int)) (by decide) rfl (Nat.le_of_ble_eq_true rfl) ?_
  intro p e s m below meth c C hP hI ls hl
  obtain ⟨hx, hb, hr, hlocks, hml, hown, hts, hK, hN⟩ := id C
  have hS : va_S (mA a) s.heap s.heap [] := va_S.rf
  have hl : lv_has ls 6 [(0, .ref (a 0)), (1, .int x1), (2, .int x2), (3, .int x3), (4, .int x4)] := hl
  refine lv_iload_n hx hb dX3_step_0 rfl (lv_at hl 1 rfl) ?_
  refine lv_iconst (v := 0) hx hb dX3_step_1 (by decide) ?_
  refine lv_iconst (v := 5) hx hb dX3_step_2 (by decide) ?_
  refine g_Si (As := [.int x1, .int 0, .int 5]) (rest := []) ⟨hx, hb, hml, hown, hts⟩ (c_X3_isIn l x1 0 5) (va_cwS 3 hts gX3_step_X3_isIn rfl rfl rfl esX3_isIn ⟨Nat.le_of_ble_eq_true rfl, Nat.le_of_ble_eq_true rfl⟩) hP hS rfl hl.1 rfl (Nat.le_of_ble_eq_true rfl) dX3_step_3 ⟨Nat.zero_le _, Nat.zero_le _⟩ (fun H locs hP hS => ?_)
  refine lv_if_eq (tgt := 33) hx hb dX3_step_6 (by decide) (fun c_6 => ?_) (fun c_6 => ?_)
  · skip
    refine lv_bipush (v := (-3)) hx hb dX3_step_33 (by decide) ?_
    exact r_Wi hx hb hr hlocks hP hI hS (by simp only [f_X3_step, if_pos c_6]) dX3_step_35
  · skip
    refine lv_iload_n hx hb dX3_step_9 rfl (lv_at hl 2 rfl) ?_
    refine lv_iconst (v := 0) hx hb dX3_step_10 (by decide) ?_
    refine lv_bipush (v := 12) hx hb dX3_step_11 (by decide) ?_
    refine g_Si (As := [.int x2, .int 0, .int 12]) (rest := []) ⟨hx, hb, hml, hown, hts⟩ (c_X3_isIn l x2 0 12) (va_cwS 3 hts gX3_step_X3_isIn rfl rfl rfl esX3_isIn ⟨Nat.le_of_ble_eq_true rfl, Nat.le_of_ble_eq_true rfl⟩) hP hS rfl hl.1 rfl (Nat.le_of_ble_eq_true rfl) dX3_step_13 ⟨Nat.zero_le _, Nat.zero_le _⟩ (fun H locs hP hS => ?_)
    refine lv_if_eq (tgt := 33) hx hb dX3_step_16 (by decide) (fun c_16 => ?_) (fun c_16 => ?_)
    · skip
      refine lv_bipush (v := (-3)) hx hb dX3_step_33 (by decide) ?_
      exact r_Wi hx hb hr hlocks hP hI hS (by simp only [f_X3_step, if_neg c_6, if_pos c_16]) dX3_step_35
    · skip
      refine lv_iload_n hx hb dX3_step_19 rfl (lv_at hl 3 rfl) ?_
      refine lv_bipush (v := (-2)) hx hb dX3_step_20 (by decide) ?_
      refine lv_icmp_eq (tgt := 36) hx hb dX3_step_22 (by decide) (fun c_22 => ?_) (fun c_22 => ?_)
      · skip
        have hth : -2 ≤ x3.toInt ∧ x3.toInt < 60 := by first | exact oth_ok hI (Or.inl c_22) | exact oth_ok hI (Or.inr c_30)
        refine lv_aload_n hx hb dX3_step_36 rfl (lv_at hl 0 rfl) ?_
        refine va_get (D := D) (ci := 3) (v := .ref (a 6)) (C := RX3) (T := TX3) (N := 13) hx hb hts iwX3_step hown hK hP 0 rfl rfl 6 (by decide) (hts (.fieldLink RX3 26 "LoomPanelModel" "steps" "[I") flX3_step_26) (fun _ h9 => h9) rfl dX3_step_37 ?_
        refine lv_iload_n hx hb dX3_step_40 rfl (lv_at hl 1 rfl) ?_
        refine va_iald hx hb hK hP 6 0 (f := S.steps) rfl rfl (isIn5 c_6) dX3_step_41 ?_
        refine lv_bipush (v := 12) hx hb dX3_step_42 (by decide) ?_
        refine lv_icmp_ne (tgt := 50) hx hb dX3_step_44 (by decide) (fun c_44 => ?_) (fun c_44 => ?_)
        · skip
          have hidx := ix12' (isIn5 c_6) (in2 (hI.2.2.2.1 _).1 (steps_lt hI c_44))
          refine lv_bipush (v := 12) hx hb dX3_step_50 (by decide) ?_
          refine lv_iload_n hx hb dX3_step_52 rfl (lv_at hl 1 rfl) ?_
          refine lv_imul hx hb dX3_step_53 ?_
          refine lv_aload_n hx hb dX3_step_54 rfl (lv_at hl 0 rfl) ?_
          refine va_get (D := D) (ci := 3) (v := .ref (a 6)) (C := RX3) (T := TX3) (N := 13) hx hb hts iwX3_step hown hK hP 0 rfl rfl 6 (by decide) (hts (.fieldLink RX3 26 "LoomPanelModel" "steps" "[I") flX3_step_26) (fun _ h9 => h9) rfl dX3_step_55 ?_
          refine lv_iload_n hx hb dX3_step_58 rfl (lv_at hl 1 rfl) ?_
          refine va_iald hx hb hK hP 6 0 (f := S.steps) rfl rfl (isIn5 c_6) dX3_step_59 ?_
          refine lv_iadd hx hb dX3_step_60 ?_
          refine lv_istore (lv' := [(5, .int ((12 * x1) + (S.steps x1.toNatClampNeg))), (0, .ref (a 0)), (1, .int x1), (2, .int x2), (3, .int x3), (4, .int x4)]) hx hb dX3_step_61 hl (by decide) rfl (fun ls hl => ?_)
          refine lv_aload_n hx hb dX3_step_63 rfl (lv_at hl 1 rfl) ?_
          refine va_get (D := D) (ci := 3) (v := .ref (a 7)) (C := RX3) (T := TX3) (N := 13) hx hb hts iwX3_step hown hK hP 0 rfl rfl 7 (by decide) (hts (.fieldLink RX3 29 "LoomPanelModel" "stepAct" "[I") flX3_step_29) (fun _ h9 => h9) rfl dX3_step_64 ?_
          refine lv_iload hx hb dX3_step_67 (lv_at hl 0 rfl) ?_
          refine lv_iload_n hx hb dX3_step_69 rfl (lv_at hl 3 rfl) ?_
          refine va_iast hx hb hK hP (mw_D hd) hS 7 0 (f := S.sact) rfl rfl hidx dX3_step_70 (fun H locs hP _ hS => ?_)
          have hP : va_P D vwCl (mw cI cJ a (S.set_sact (upd S.sact ((12 * x1) + (S.steps x1.toNatClampNeg)).toNatClampNeg x2))) H := by rw [← mw_set_sact]; exact hP
          have hI : MInv (S.set_sact (upd S.sact ((12 * x1) + (S.steps x1.toNatClampNeg)).toNatClampNeg x2)) := sact_set hI (isIn_in c_16)
          refine lv_aload_n hx hb dX3_step_71 rfl (lv_at hl 1 rfl) ?_
          refine va_get (D := D) (ci := 3) (v := .ref (a 8)) (C := RX3) (T := TX3) (N := 13) hx hb hts iwX3_step hown hK hP 0 rfl rfl 8 (by decide) (hts (.fieldLink RX3 32 "LoomPanelModel" "stepOther" "[I") flX3_step_32) (fun _ h9 => h9) rfl dX3_step_72 ?_
          refine lv_iload hx hb dX3_step_75 (lv_at hl 0 rfl) ?_
          refine lv_iload_n hx hb dX3_step_77 rfl (lv_at hl 4 rfl) ?_
          refine va_iast hx hb hK hP (mw_D hd) hS 8 0 (f := (S.set_sact (upd S.sact ((12 * x1) + (S.steps x1.toNatClampNeg)).toNatClampNeg x2)).soth) rfl rfl hidx dX3_step_78 (fun H locs hP _ hS => ?_)
          have hP : va_P D vwCl (mw cI cJ a ((S.set_sact (upd S.sact ((12 * x1) + (S.steps x1.toNatClampNeg)).toNatClampNeg x2)).set_soth (upd ((S.set_sact (upd S.sact ((12 * x1) + (S.steps x1.toNatClampNeg)).toNatClampNeg x2)).soth) ((12 * x1) + (S.steps x1.toNatClampNeg)).toNatClampNeg x3))) H := by rw [← mw_set_soth]; exact hP
          have hI : MInv ((S.set_sact (upd S.sact ((12 * x1) + (S.steps x1.toNatClampNeg)).toNatClampNeg x2)).set_soth (upd ((S.set_sact (upd S.sact ((12 * x1) + (S.steps x1.toNatClampNeg)).toNatClampNeg x2)).soth) ((12 * x1) + (S.steps x1.toNatClampNeg)).toNatClampNeg x3)) := soth_set hI hth
          refine lv_aload_n hx hb dX3_step_79 rfl (lv_at hl 1 rfl) ?_
          refine va_get (D := D) (ci := 3) (v := .ref (a 9)) (C := RX3) (T := TX3) (N := 13) hx hb hts iwX3_step hown hK hP 0 rfl rfl 9 (by decide) (hts (.fieldLink RX3 35 "LoomPanelModel" "stepNumber" "[I") flX3_step_35) (fun _ h9 => h9) rfl dX3_step_80 ?_
          refine lv_iload hx hb dX3_step_83 (lv_at hl 0 rfl) ?_
          refine lv_iload hx hb dX3_step_85 (lv_at hl 5 rfl) ?_
          refine va_iast hx hb hK hP (mw_D hd) hS 9 0 (f := ((S.set_sact (upd S.sact ((12 * x1) + (S.steps x1.toNatClampNeg)).toNatClampNeg x2)).set_soth (upd ((S.set_sact (upd S.sact ((12 * x1) + (S.steps x1.toNatClampNeg)).toNatClampNeg x2)).soth) ((12 * x1) + (S.steps x1.toNatClampNeg)).toNatClampNeg x3)).snum) rfl rfl hidx dX3_step_87 (fun H locs hP _ hS => ?_)
          have hP : va_P D vwCl (mw cI cJ a (((S.set_sact (upd S.sact ((12 * x1) + (S.steps x1.toNatClampNeg)).toNatClampNeg x2)).set_soth (upd ((S.set_sact (upd S.sact ((12 * x1) + (S.steps x1.toNatClampNeg)).toNatClampNeg x2)).soth) ((12 * x1) + (S.steps x1.toNatClampNeg)).toNatClampNeg x3)).set_snum (upd (((S.set_sact (upd S.sact ((12 * x1) + (S.steps x1.toNatClampNeg)).toNatClampNeg x2)).set_soth (upd ((S.set_sact (upd S.sact ((12 * x1) + (S.steps x1.toNatClampNeg)).toNatClampNeg x2)).soth) ((12 * x1) + (S.steps x1.toNatClampNeg)).toNatClampNeg x3)).snum) ((12 * x1) + (S.steps x1.toNatClampNeg)).toNatClampNeg x4))) H := by rw [← mw_set_snum]; exact hP
          have hI : MInv (((S.set_sact (upd S.sact ((12 * x1) + (S.steps x1.toNatClampNeg)).toNatClampNeg x2)).set_soth (upd ((S.set_sact (upd S.sact ((12 * x1) + (S.steps x1.toNatClampNeg)).toNatClampNeg x2)).soth) ((12 * x1) + (S.steps x1.toNatClampNeg)).toNatClampNeg x3)).set_snum (upd (((S.set_sact (upd S.sact ((12 * x1) + (S.steps x1.toNatClampNeg)).toNatClampNeg x2)).set_soth (upd ((S.set_sact (upd S.sact ((12 * x1) + (S.steps x1.toNatClampNeg)).toNatClampNeg x2)).soth) ((12 * x1) + (S.steps x1.toNatClampNeg)).toNatClampNeg x3)).snum) ((12 * x1) + (S.steps x1.toNatClampNeg)).toNatClampNeg x4)) := MInv_set_snum hI
          refine lv_aload_n hx hb dX3_step_88 rfl (lv_at hl 1 rfl) ?_
          refine va_get (D := D) (ci := 3) (v := .ref (a 6)) (C := RX3) (T := TX3) (N := 13) hx hb hts iwX3_step hown hK hP 0 rfl rfl 6 (by decide) (hts (.fieldLink RX3 26 "LoomPanelModel" "steps" "[I") flX3_step_26) (fun _ h9 => h9) rfl dX3_step_89 ?_
          refine lv_iload_n hx hb dX3_step_92 rfl (lv_at hl 2 rfl) ?_
          refine lv_dup2_11 hx hb dX3_step_93 rfl rfl ?_
          refine va_iald hx hb hK hP 6 0 (f := (((S.set_sact (upd S.sact ((12 * x1) + (S.steps x1.toNatClampNeg)).toNatClampNeg x2)).set_soth (upd ((S.set_sact (upd S.sact ((12 * x1) + (S.steps x1.toNatClampNeg)).toNatClampNeg x2)).soth) ((12 * x1) + (S.steps x1.toNatClampNeg)).toNatClampNeg x3)).set_snum (upd (((S.set_sact (upd S.sact ((12 * x1) + (S.steps x1.toNatClampNeg)).toNatClampNeg x2)).set_soth (upd ((S.set_sact (upd S.sact ((12 * x1) + (S.steps x1.toNatClampNeg)).toNatClampNeg x2)).soth) ((12 * x1) + (S.steps x1.toNatClampNeg)).toNatClampNeg x3)).snum) ((12 * x1) + (S.steps x1.toNatClampNeg)).toNatClampNeg x4)).steps) rfl rfl (isIn5 c_6) dX3_step_94 ?_
          refine lv_iconst (v := 1) hx hb dX3_step_95 (by decide) ?_
          refine lv_iadd hx hb dX3_step_96 ?_
          refine va_iast hx hb hK hP (mw_D hd) hS 6 0 (f := (((S.set_sact (upd S.sact ((12 * x1) + (S.steps x1.toNatClampNeg)).toNatClampNeg x2)).set_soth (upd ((S.set_sact (upd S.sact ((12 * x1) + (S.steps x1.toNatClampNeg)).toNatClampNeg x2)).soth) ((12 * x1) + (S.steps x1.toNatClampNeg)).toNatClampNeg x3)).set_snum (upd (((S.set_sact (upd S.sact ((12 * x1) + (S.steps x1.toNatClampNeg)).toNatClampNeg x2)).set_soth (upd ((S.set_sact (upd S.sact ((12 * x1) + (S.steps x1.toNatClampNeg)).toNatClampNeg x2)).soth) ((12 * x1) + (S.steps x1.toNatClampNeg)).toNatClampNeg x3)).snum) ((12 * x1) + (S.steps x1.toNatClampNeg)).toNatClampNeg x4)).steps) rfl rfl (isIn5 c_6) dX3_step_97 (fun H locs hP _ hS => ?_)
          have hP : va_P D vwCl (mw cI cJ a ((((S.set_sact (upd S.sact ((12 * x1) + (S.steps x1.toNatClampNeg)).toNatClampNeg x2)).set_soth (upd ((S.set_sact (upd S.sact ((12 * x1) + (S.steps x1.toNatClampNeg)).toNatClampNeg x2)).soth) ((12 * x1) + (S.steps x1.toNatClampNeg)).toNatClampNeg x3)).set_snum (upd (((S.set_sact (upd S.sact ((12 * x1) + (S.steps x1.toNatClampNeg)).toNatClampNeg x2)).set_soth (upd ((S.set_sact (upd S.sact ((12 * x1) + (S.steps x1.toNatClampNeg)).toNatClampNeg x2)).soth) ((12 * x1) + (S.steps x1.toNatClampNeg)).toNatClampNeg x3)).snum) ((12 * x1) + (S.steps x1.toNatClampNeg)).toNatClampNeg x4)).set_steps (upd ((((S.set_sact (upd S.sact ((12 * x1) + (S.steps x1.toNatClampNeg)).toNatClampNeg x2)).set_soth (upd ((S.set_sact (upd S.sact ((12 * x1) + (S.steps x1.toNatClampNeg)).toNatClampNeg x2)).soth) ((12 * x1) + (S.steps x1.toNatClampNeg)).toNatClampNeg x3)).set_snum (upd (((S.set_sact (upd S.sact ((12 * x1) + (S.steps x1.toNatClampNeg)).toNatClampNeg x2)).set_soth (upd ((S.set_sact (upd S.sact ((12 * x1) + (S.steps x1.toNatClampNeg)).toNatClampNeg x2)).soth) ((12 * x1) + (S.steps x1.toNatClampNeg)).toNatClampNeg x3)).snum) ((12 * x1) + (S.steps x1.toNatClampNeg)).toNatClampNeg x4)).steps) x1.toNatClampNeg ((((((S.set_sact (upd S.sact ((12 * x1) + (S.steps x1.toNatClampNeg)).toNatClampNeg x2)).set_soth (upd ((S.set_sact (upd S.sact ((12 * x1) + (S.steps x1.toNatClampNeg)).toNatClampNeg x2)).soth) ((12 * x1) + (S.steps x1.toNatClampNeg)).toNatClampNeg x3)).set_snum (upd (((S.set_sact (upd S.sact ((12 * x1) + (S.steps x1.toNatClampNeg)).toNatClampNeg x2)).set_soth (upd ((S.set_sact (upd S.sact ((12 * x1) + (S.steps x1.toNatClampNeg)).toNatClampNeg x2)).soth) ((12 * x1) + (S.steps x1.toNatClampNeg)).toNatClampNeg x3)).snum) ((12 * x1) + (S.steps x1.toNatClampNeg)).toNatClampNeg x4)).steps) x1.toNatClampNeg) + 1)))) H := by rw [← mw_set_steps]; exact hP
          have hI : MInv ((((S.set_sact (upd S.sact ((12 * x1) + (S.steps x1.toNatClampNeg)).toNatClampNeg x2)).set_soth (upd ((S.set_sact (upd S.sact ((12 * x1) + (S.steps x1.toNatClampNeg)).toNatClampNeg x2)).soth) ((12 * x1) + (S.steps x1.toNatClampNeg)).toNatClampNeg x3)).set_snum (upd (((S.set_sact (upd S.sact ((12 * x1) + (S.steps x1.toNatClampNeg)).toNatClampNeg x2)).set_soth (upd ((S.set_sact (upd S.sact ((12 * x1) + (S.steps x1.toNatClampNeg)).toNatClampNeg x2)).soth) ((12 * x1) + (S.steps x1.toNatClampNeg)).toNatClampNeg x3)).snum) ((12 * x1) + (S.steps x1.toNatClampNeg)).toNatClampNeg x4)).set_steps (upd ((((S.set_sact (upd S.sact ((12 * x1) + (S.steps x1.toNatClampNeg)).toNatClampNeg x2)).set_soth (upd ((S.set_sact (upd S.sact ((12 * x1) + (S.steps x1.toNatClampNeg)).toNatClampNeg x2)).soth) ((12 * x1) + (S.steps x1.toNatClampNeg)).toNatClampNeg x3)).set_snum (upd (((S.set_sact (upd S.sact ((12 * x1) + (S.steps x1.toNatClampNeg)).toNatClampNeg x2)).set_soth (upd ((S.set_sact (upd S.sact ((12 * x1) + (S.steps x1.toNatClampNeg)).toNatClampNeg x2)).soth) ((12 * x1) + (S.steps x1.toNatClampNeg)).toNatClampNeg x3)).snum) ((12 * x1) + (S.steps x1.toNatClampNeg)).toNatClampNeg x4)).steps) x1.toNatClampNeg ((((((S.set_sact (upd S.sact ((12 * x1) + (S.steps x1.toNatClampNeg)).toNatClampNeg x2)).set_soth (upd ((S.set_sact (upd S.sact ((12 * x1) + (S.steps x1.toNatClampNeg)).toNatClampNeg x2)).soth) ((12 * x1) + (S.steps x1.toNatClampNeg)).toNatClampNeg x3)).set_snum (upd (((S.set_sact (upd S.sact ((12 * x1) + (S.steps x1.toNatClampNeg)).toNatClampNeg x2)).set_soth (upd ((S.set_sact (upd S.sact ((12 * x1) + (S.steps x1.toNatClampNeg)).toNatClampNeg x2)).soth) ((12 * x1) + (S.steps x1.toNatClampNeg)).toNatClampNeg x3)).snum) ((12 * x1) + (S.steps x1.toNatClampNeg)).toNatClampNeg x4)).steps) x1.toNatClampNeg) + 1))) := steps_up hI (steps_lt hI (by simp only [MS.steps_set_snum, MS.steps_set_soth, MS.steps_set_sact]; exact c_44))
          refine lv_aload_n hx hb dX3_step_98 rfl (lv_at hl 1 rfl) ?_
          refine va_get (D := D) (ci := 3) (v := .ref (a 6)) (C := RX3) (T := TX3) (N := 13) hx hb hts iwX3_step hown hK hP 0 rfl rfl 6 (by decide) (hts (.fieldLink RX3 26 "LoomPanelModel" "steps" "[I") flX3_step_26) (fun _ h9 => h9) rfl dX3_step_99 ?_
          refine lv_iload_n hx hb dX3_step_102 rfl (lv_at hl 2 rfl) ?_
          refine va_iald hx hb hK hP 6 0 (f := ((((S.set_sact (upd S.sact ((12 * x1) + (S.steps x1.toNatClampNeg)).toNatClampNeg x2)).set_soth (upd ((S.set_sact (upd S.sact ((12 * x1) + (S.steps x1.toNatClampNeg)).toNatClampNeg x2)).soth) ((12 * x1) + (S.steps x1.toNatClampNeg)).toNatClampNeg x3)).set_snum (upd (((S.set_sact (upd S.sact ((12 * x1) + (S.steps x1.toNatClampNeg)).toNatClampNeg x2)).set_soth (upd ((S.set_sact (upd S.sact ((12 * x1) + (S.steps x1.toNatClampNeg)).toNatClampNeg x2)).soth) ((12 * x1) + (S.steps x1.toNatClampNeg)).toNatClampNeg x3)).snum) ((12 * x1) + (S.steps x1.toNatClampNeg)).toNatClampNeg x4)).set_steps (upd ((((S.set_sact (upd S.sact ((12 * x1) + (S.steps x1.toNatClampNeg)).toNatClampNeg x2)).set_soth (upd ((S.set_sact (upd S.sact ((12 * x1) + (S.steps x1.toNatClampNeg)).toNatClampNeg x2)).soth) ((12 * x1) + (S.steps x1.toNatClampNeg)).toNatClampNeg x3)).set_snum (upd (((S.set_sact (upd S.sact ((12 * x1) + (S.steps x1.toNatClampNeg)).toNatClampNeg x2)).set_soth (upd ((S.set_sact (upd S.sact ((12 * x1) + (S.steps x1.toNatClampNeg)).toNatClampNeg x2)).soth) ((12 * x1) + (S.steps x1.toNatClampNeg)).toNatClampNeg x3)).snum) ((12 * x1) + (S.steps x1.toNatClampNeg)).toNatClampNeg x4)).steps) x1.toNatClampNeg ((((((S.set_sact (upd S.sact ((12 * x1) + (S.steps x1.toNatClampNeg)).toNatClampNeg x2)).set_soth (upd ((S.set_sact (upd S.sact ((12 * x1) + (S.steps x1.toNatClampNeg)).toNatClampNeg x2)).soth) ((12 * x1) + (S.steps x1.toNatClampNeg)).toNatClampNeg x3)).set_snum (upd (((S.set_sact (upd S.sact ((12 * x1) + (S.steps x1.toNatClampNeg)).toNatClampNeg x2)).set_soth (upd ((S.set_sact (upd S.sact ((12 * x1) + (S.steps x1.toNatClampNeg)).toNatClampNeg x2)).soth) ((12 * x1) + (S.steps x1.toNatClampNeg)).toNatClampNeg x3)).snum) ((12 * x1) + (S.steps x1.toNatClampNeg)).toNatClampNeg x4)).steps) x1.toNatClampNeg) + 1))).steps) rfl rfl (isIn5 c_6) dX3_step_103 ?_
          exact r_Wi hx hb hr hlocks hP hI hS (by simp only [f_X3_step, if_neg c_6, if_neg c_16, if_pos c_22, if_neg c_44]) dX3_step_104
        · skip
          refine lv_bipush (v := (-4)) hx hb dX3_step_47 (by decide) ?_
          exact r_Wi hx hb hr hlocks hP hI hS (by simp only [f_X3_step, if_neg c_6, if_neg c_16, if_pos c_22, if_pos c_44]) dX3_step_49
      · skip
        refine lv_aload_n hx hb dX3_step_25 rfl (lv_at hl 0 rfl) ?_
        refine lv_iload_n hx hb dX3_step_26 rfl (lv_at hl 3 rfl) ?_
        refine g_Ri (As := [.int x3]) (rest := []) ⟨hx, hb, hml, hown, hts⟩ (c_X3_mayBe l D cI cJ a hd S x3 ) (cwV 1 hts gX3_step_X3_mayBe rfl rfl rfl eeX3_mayBe ⟨Nat.le_of_ble_eq_true rfl, Nat.le_of_ble_eq_true rfl⟩) hK hN hP hI (va_recv hK hP (ci := 3) (q0 := 0) rfl rfl) hS rfl hl.1 rfl (Nat.le_of_ble_eq_true rfl) dX3_step_27 ⟨Nat.zero_le _, Nat.zero_le _⟩ (fun H locs hP hS => ?_)
        refine lv_if_ne (tgt := 36) hx hb dX3_step_30 (by decide) (fun c_30 => ?_) (fun c_30 => ?_)
        · skip
          have hth : -2 ≤ x3.toInt ∧ x3.toInt < 60 := by first | exact oth_ok hI (Or.inl c_22) | exact oth_ok hI (Or.inr c_30)
          refine lv_aload_n hx hb dX3_step_36 rfl (lv_at hl 0 rfl) ?_
          refine va_get (D := D) (ci := 3) (v := .ref (a 6)) (C := RX3) (T := TX3) (N := 13) hx hb hts iwX3_step hown hK hP 0 rfl rfl 6 (by decide) (hts (.fieldLink RX3 26 "LoomPanelModel" "steps" "[I") flX3_step_26) (fun _ h9 => h9) rfl dX3_step_37 ?_
          refine lv_iload_n hx hb dX3_step_40 rfl (lv_at hl 1 rfl) ?_
          refine va_iald hx hb hK hP 6 0 (f := S.steps) rfl rfl (isIn5 c_6) dX3_step_41 ?_
          refine lv_bipush (v := 12) hx hb dX3_step_42 (by decide) ?_
          refine lv_icmp_ne (tgt := 50) hx hb dX3_step_44 (by decide) (fun c_44 => ?_) (fun c_44 => ?_)
          · skip
            have hidx := ix12' (isIn5 c_6) (in2 (hI.2.2.2.1 _).1 (steps_lt hI c_44))
            refine lv_bipush (v := 12) hx hb dX3_step_50 (by decide) ?_
            refine lv_iload_n hx hb dX3_step_52 rfl (lv_at hl 1 rfl) ?_
            refine lv_imul hx hb dX3_step_53 ?_
            refine lv_aload_n hx hb dX3_step_54 rfl (lv_at hl 0 rfl) ?_
            refine va_get (D := D) (ci := 3) (v := .ref (a 6)) (C := RX3) (T := TX3) (N := 13) hx hb hts iwX3_step hown hK hP 0 rfl rfl 6 (by decide) (hts (.fieldLink RX3 26 "LoomPanelModel" "steps" "[I") flX3_step_26) (fun _ h9 => h9) rfl dX3_step_55 ?_
            refine lv_iload_n hx hb dX3_step_58 rfl (lv_at hl 1 rfl) ?_
            refine va_iald hx hb hK hP 6 0 (f := S.steps) rfl rfl (isIn5 c_6) dX3_step_59 ?_
            refine lv_iadd hx hb dX3_step_60 ?_
            refine lv_istore (lv' := [(5, .int ((12 * x1) + (S.steps x1.toNatClampNeg))), (0, .ref (a 0)), (1, .int x1), (2, .int x2), (3, .int x3), (4, .int x4)]) hx hb dX3_step_61 hl (by decide) rfl (fun ls hl => ?_)
            refine lv_aload_n hx hb dX3_step_63 rfl (lv_at hl 1 rfl) ?_
            refine va_get (D := D) (ci := 3) (v := .ref (a 7)) (C := RX3) (T := TX3) (N := 13) hx hb hts iwX3_step hown hK hP 0 rfl rfl 7 (by decide) (hts (.fieldLink RX3 29 "LoomPanelModel" "stepAct" "[I") flX3_step_29) (fun _ h9 => h9) rfl dX3_step_64 ?_
            refine lv_iload hx hb dX3_step_67 (lv_at hl 0 rfl) ?_
            refine lv_iload_n hx hb dX3_step_69 rfl (lv_at hl 3 rfl) ?_
            refine va_iast hx hb hK hP (mw_D hd) hS 7 0 (f := S.sact) rfl rfl hidx dX3_step_70 (fun H locs hP _ hS => ?_)
            have hP : va_P D vwCl (mw cI cJ a (S.set_sact (upd S.sact ((12 * x1) + (S.steps x1.toNatClampNeg)).toNatClampNeg x2))) H := by rw [← mw_set_sact]; exact hP
            have hI : MInv (S.set_sact (upd S.sact ((12 * x1) + (S.steps x1.toNatClampNeg)).toNatClampNeg x2)) := sact_set hI (isIn_in c_16)
            refine lv_aload_n hx hb dX3_step_71 rfl (lv_at hl 1 rfl) ?_
            refine va_get (D := D) (ci := 3) (v := .ref (a 8)) (C := RX3) (T := TX3) (N := 13) hx hb hts iwX3_step hown hK hP 0 rfl rfl 8 (by decide) (hts (.fieldLink RX3 32 "LoomPanelModel" "stepOther" "[I") flX3_step_32) (fun _ h9 => h9) rfl dX3_step_72 ?_
            refine lv_iload hx hb dX3_step_75 (lv_at hl 0 rfl) ?_
            refine lv_iload_n hx hb dX3_step_77 rfl (lv_at hl 4 rfl) ?_
            refine va_iast hx hb hK hP (mw_D hd) hS 8 0 (f := (S.set_sact (upd S.sact ((12 * x1) + (S.steps x1.toNatClampNeg)).toNatClampNeg x2)).soth) rfl rfl hidx dX3_step_78 (fun H locs hP _ hS => ?_)
            have hP : va_P D vwCl (mw cI cJ a ((S.set_sact (upd S.sact ((12 * x1) + (S.steps x1.toNatClampNeg)).toNatClampNeg x2)).set_soth (upd ((S.set_sact (upd S.sact ((12 * x1) + (S.steps x1.toNatClampNeg)).toNatClampNeg x2)).soth) ((12 * x1) + (S.steps x1.toNatClampNeg)).toNatClampNeg x3))) H := by rw [← mw_set_soth]; exact hP
            have hI : MInv ((S.set_sact (upd S.sact ((12 * x1) + (S.steps x1.toNatClampNeg)).toNatClampNeg x2)).set_soth (upd ((S.set_sact (upd S.sact ((12 * x1) + (S.steps x1.toNatClampNeg)).toNatClampNeg x2)).soth) ((12 * x1) + (S.steps x1.toNatClampNeg)).toNatClampNeg x3)) := soth_set hI hth
            refine lv_aload_n hx hb dX3_step_79 rfl (lv_at hl 1 rfl) ?_
            refine va_get (D := D) (ci := 3) (v := .ref (a 9)) (C := RX3) (T := TX3) (N := 13) hx hb hts iwX3_step hown hK hP 0 rfl rfl 9 (by decide) (hts (.fieldLink RX3 35 "LoomPanelModel" "stepNumber" "[I") flX3_step_35) (fun _ h9 => h9) rfl dX3_step_80 ?_
            refine lv_iload hx hb dX3_step_83 (lv_at hl 0 rfl) ?_
            refine lv_iload hx hb dX3_step_85 (lv_at hl 5 rfl) ?_
            refine va_iast hx hb hK hP (mw_D hd) hS 9 0 (f := ((S.set_sact (upd S.sact ((12 * x1) + (S.steps x1.toNatClampNeg)).toNatClampNeg x2)).set_soth (upd ((S.set_sact (upd S.sact ((12 * x1) + (S.steps x1.toNatClampNeg)).toNatClampNeg x2)).soth) ((12 * x1) + (S.steps x1.toNatClampNeg)).toNatClampNeg x3)).snum) rfl rfl hidx dX3_step_87 (fun H locs hP _ hS => ?_)
            have hP : va_P D vwCl (mw cI cJ a (((S.set_sact (upd S.sact ((12 * x1) + (S.steps x1.toNatClampNeg)).toNatClampNeg x2)).set_soth (upd ((S.set_sact (upd S.sact ((12 * x1) + (S.steps x1.toNatClampNeg)).toNatClampNeg x2)).soth) ((12 * x1) + (S.steps x1.toNatClampNeg)).toNatClampNeg x3)).set_snum (upd (((S.set_sact (upd S.sact ((12 * x1) + (S.steps x1.toNatClampNeg)).toNatClampNeg x2)).set_soth (upd ((S.set_sact (upd S.sact ((12 * x1) + (S.steps x1.toNatClampNeg)).toNatClampNeg x2)).soth) ((12 * x1) + (S.steps x1.toNatClampNeg)).toNatClampNeg x3)).snum) ((12 * x1) + (S.steps x1.toNatClampNeg)).toNatClampNeg x4))) H := by rw [← mw_set_snum]; exact hP
            have hI : MInv (((S.set_sact (upd S.sact ((12 * x1) + (S.steps x1.toNatClampNeg)).toNatClampNeg x2)).set_soth (upd ((S.set_sact (upd S.sact ((12 * x1) + (S.steps x1.toNatClampNeg)).toNatClampNeg x2)).soth) ((12 * x1) + (S.steps x1.toNatClampNeg)).toNatClampNeg x3)).set_snum (upd (((S.set_sact (upd S.sact ((12 * x1) + (S.steps x1.toNatClampNeg)).toNatClampNeg x2)).set_soth (upd ((S.set_sact (upd S.sact ((12 * x1) + (S.steps x1.toNatClampNeg)).toNatClampNeg x2)).soth) ((12 * x1) + (S.steps x1.toNatClampNeg)).toNatClampNeg x3)).snum) ((12 * x1) + (S.steps x1.toNatClampNeg)).toNatClampNeg x4)) := MInv_set_snum hI
            refine lv_aload_n hx hb dX3_step_88 rfl (lv_at hl 1 rfl) ?_
            refine va_get (D := D) (ci := 3) (v := .ref (a 6)) (C := RX3) (T := TX3) (N := 13) hx hb hts iwX3_step hown hK hP 0 rfl rfl 6 (by decide) (hts (.fieldLink RX3 26 "LoomPanelModel" "steps" "[I") flX3_step_26) (fun _ h9 => h9) rfl dX3_step_89 ?_
            refine lv_iload_n hx hb dX3_step_92 rfl (lv_at hl 2 rfl) ?_
            refine lv_dup2_11 hx hb dX3_step_93 rfl rfl ?_
            refine va_iald hx hb hK hP 6 0 (f := (((S.set_sact (upd S.sact ((12 * x1) + (S.steps x1.toNatClampNeg)).toNatClampNeg x2)).set_soth (upd ((S.set_sact (upd S.sact ((12 * x1) + (S.steps x1.toNatClampNeg)).toNatClampNeg x2)).soth) ((12 * x1) + (S.steps x1.toNatClampNeg)).toNatClampNeg x3)).set_snum (upd (((S.set_sact (upd S.sact ((12 * x1) + (S.steps x1.toNatClampNeg)).toNatClampNeg x2)).set_soth (upd ((S.set_sact (upd S.sact ((12 * x1) + (S.steps x1.toNatClampNeg)).toNatClampNeg x2)).soth) ((12 * x1) + (S.steps x1.toNatClampNeg)).toNatClampNeg x3)).snum) ((12 * x1) + (S.steps x1.toNatClampNeg)).toNatClampNeg x4)).steps) rfl rfl (isIn5 c_6) dX3_step_94 ?_
            refine lv_iconst (v := 1) hx hb dX3_step_95 (by decide) ?_
            refine lv_iadd hx hb dX3_step_96 ?_
            refine va_iast hx hb hK hP (mw_D hd) hS 6 0 (f := (((S.set_sact (upd S.sact ((12 * x1) + (S.steps x1.toNatClampNeg)).toNatClampNeg x2)).set_soth (upd ((S.set_sact (upd S.sact ((12 * x1) + (S.steps x1.toNatClampNeg)).toNatClampNeg x2)).soth) ((12 * x1) + (S.steps x1.toNatClampNeg)).toNatClampNeg x3)).set_snum (upd (((S.set_sact (upd S.sact ((12 * x1) + (S.steps x1.toNatClampNeg)).toNatClampNeg x2)).set_soth (upd ((S.set_sact (upd S.sact ((12 * x1) + (S.steps x1.toNatClampNeg)).toNatClampNeg x2)).soth) ((12 * x1) + (S.steps x1.toNatClampNeg)).toNatClampNeg x3)).snum) ((12 * x1) + (S.steps x1.toNatClampNeg)).toNatClampNeg x4)).steps) rfl rfl (isIn5 c_6) dX3_step_97 (fun H locs hP _ hS => ?_)
            have hP : va_P D vwCl (mw cI cJ a ((((S.set_sact (upd S.sact ((12 * x1) + (S.steps x1.toNatClampNeg)).toNatClampNeg x2)).set_soth (upd ((S.set_sact (upd S.sact ((12 * x1) + (S.steps x1.toNatClampNeg)).toNatClampNeg x2)).soth) ((12 * x1) + (S.steps x1.toNatClampNeg)).toNatClampNeg x3)).set_snum (upd (((S.set_sact (upd S.sact ((12 * x1) + (S.steps x1.toNatClampNeg)).toNatClampNeg x2)).set_soth (upd ((S.set_sact (upd S.sact ((12 * x1) + (S.steps x1.toNatClampNeg)).toNatClampNeg x2)).soth) ((12 * x1) + (S.steps x1.toNatClampNeg)).toNatClampNeg x3)).snum) ((12 * x1) + (S.steps x1.toNatClampNeg)).toNatClampNeg x4)).set_steps (upd ((((S.set_sact (upd S.sact ((12 * x1) + (S.steps x1.toNatClampNeg)).toNatClampNeg x2)).set_soth (upd ((S.set_sact (upd S.sact ((12 * x1) + (S.steps x1.toNatClampNeg)).toNatClampNeg x2)).soth) ((12 * x1) + (S.steps x1.toNatClampNeg)).toNatClampNeg x3)).set_snum (upd (((S.set_sact (upd S.sact ((12 * x1) + (S.steps x1.toNatClampNeg)).toNatClampNeg x2)).set_soth (upd ((S.set_sact (upd S.sact ((12 * x1) + (S.steps x1.toNatClampNeg)).toNatClampNeg x2)).soth) ((12 * x1) + (S.steps x1.toNatClampNeg)).toNatClampNeg x3)).snum) ((12 * x1) + (S.steps x1.toNatClampNeg)).toNatClampNeg x4)).steps) x1.toNatClampNeg ((((((S.set_sact (upd S.sact ((12 * x1) + (S.steps x1.toNatClampNeg)).toNatClampNeg x2)).set_soth (upd ((S.set_sact (upd S.sact ((12 * x1) + (S.steps x1.toNatClampNeg)).toNatClampNeg x2)).soth) ((12 * x1) + (S.steps x1.toNatClampNeg)).toNatClampNeg x3)).set_snum (upd (((S.set_sact (upd S.sact ((12 * x1) + (S.steps x1.toNatClampNeg)).toNatClampNeg x2)).set_soth (upd ((S.set_sact (upd S.sact ((12 * x1) + (S.steps x1.toNatClampNeg)).toNatClampNeg x2)).soth) ((12 * x1) + (S.steps x1.toNatClampNeg)).toNatClampNeg x3)).snum) ((12 * x1) + (S.steps x1.toNatClampNeg)).toNatClampNeg x4)).steps) x1.toNatClampNeg) + 1)))) H := by rw [← mw_set_steps]; exact hP
            have hI : MInv ((((S.set_sact (upd S.sact ((12 * x1) + (S.steps x1.toNatClampNeg)).toNatClampNeg x2)).set_soth (upd ((S.set_sact (upd S.sact ((12 * x1) + (S.steps x1.toNatClampNeg)).toNatClampNeg x2)).soth) ((12 * x1) + (S.steps x1.toNatClampNeg)).toNatClampNeg x3)).set_snum (upd (((S.set_sact (upd S.sact ((12 * x1) + (S.steps x1.toNatClampNeg)).toNatClampNeg x2)).set_soth (upd ((S.set_sact (upd S.sact ((12 * x1) + (S.steps x1.toNatClampNeg)).toNatClampNeg x2)).soth) ((12 * x1) + (S.steps x1.toNatClampNeg)).toNatClampNeg x3)).snum) ((12 * x1) + (S.steps x1.toNatClampNeg)).toNatClampNeg x4)).set_steps (upd ((((S.set_sact (upd S.sact ((12 * x1) + (S.steps x1.toNatClampNeg)).toNatClampNeg x2)).set_soth (upd ((S.set_sact (upd S.sact ((12 * x1) + (S.steps x1.toNatClampNeg)).toNatClampNeg x2)).soth) ((12 * x1) + (S.steps x1.toNatClampNeg)).toNatClampNeg x3)).set_snum (upd (((S.set_sact (upd S.sact ((12 * x1) + (S.steps x1.toNatClampNeg)).toNatClampNeg x2)).set_soth (upd ((S.set_sact (upd S.sact ((12 * x1) + (S.steps x1.toNatClampNeg)).toNatClampNeg x2)).soth) ((12 * x1) + (S.steps x1.toNatClampNeg)).toNatClampNeg x3)).snum) ((12 * x1) + (S.steps x1.toNatClampNeg)).toNatClampNeg x4)).steps) x1.toNatClampNeg ((((((S.set_sact (upd S.sact ((12 * x1) + (S.steps x1.toNatClampNeg)).toNatClampNeg x2)).set_soth (upd ((S.set_sact (upd S.sact ((12 * x1) + (S.steps x1.toNatClampNeg)).toNatClampNeg x2)).soth) ((12 * x1) + (S.steps x1.toNatClampNeg)).toNatClampNeg x3)).set_snum (upd (((S.set_sact (upd S.sact ((12 * x1) + (S.steps x1.toNatClampNeg)).toNatClampNeg x2)).set_soth (upd ((S.set_sact (upd S.sact ((12 * x1) + (S.steps x1.toNatClampNeg)).toNatClampNeg x2)).soth) ((12 * x1) + (S.steps x1.toNatClampNeg)).toNatClampNeg x3)).snum) ((12 * x1) + (S.steps x1.toNatClampNeg)).toNatClampNeg x4)).steps) x1.toNatClampNeg) + 1))) := steps_up hI (steps_lt hI (by simp only [MS.steps_set_snum, MS.steps_set_soth, MS.steps_set_sact]; exact c_44))
            refine lv_aload_n hx hb dX3_step_98 rfl (lv_at hl 1 rfl) ?_
            refine va_get (D := D) (ci := 3) (v := .ref (a 6)) (C := RX3) (T := TX3) (N := 13) hx hb hts iwX3_step hown hK hP 0 rfl rfl 6 (by decide) (hts (.fieldLink RX3 26 "LoomPanelModel" "steps" "[I") flX3_step_26) (fun _ h9 => h9) rfl dX3_step_99 ?_
            refine lv_iload_n hx hb dX3_step_102 rfl (lv_at hl 2 rfl) ?_
            refine va_iald hx hb hK hP 6 0 (f := ((((S.set_sact (upd S.sact ((12 * x1) + (S.steps x1.toNatClampNeg)).toNatClampNeg x2)).set_soth (upd ((S.set_sact (upd S.sact ((12 * x1) + (S.steps x1.toNatClampNeg)).toNatClampNeg x2)).soth) ((12 * x1) + (S.steps x1.toNatClampNeg)).toNatClampNeg x3)).set_snum (upd (((S.set_sact (upd S.sact ((12 * x1) + (S.steps x1.toNatClampNeg)).toNatClampNeg x2)).set_soth (upd ((S.set_sact (upd S.sact ((12 * x1) + (S.steps x1.toNatClampNeg)).toNatClampNeg x2)).soth) ((12 * x1) + (S.steps x1.toNatClampNeg)).toNatClampNeg x3)).snum) ((12 * x1) + (S.steps x1.toNatClampNeg)).toNatClampNeg x4)).set_steps (upd ((((S.set_sact (upd S.sact ((12 * x1) + (S.steps x1.toNatClampNeg)).toNatClampNeg x2)).set_soth (upd ((S.set_sact (upd S.sact ((12 * x1) + (S.steps x1.toNatClampNeg)).toNatClampNeg x2)).soth) ((12 * x1) + (S.steps x1.toNatClampNeg)).toNatClampNeg x3)).set_snum (upd (((S.set_sact (upd S.sact ((12 * x1) + (S.steps x1.toNatClampNeg)).toNatClampNeg x2)).set_soth (upd ((S.set_sact (upd S.sact ((12 * x1) + (S.steps x1.toNatClampNeg)).toNatClampNeg x2)).soth) ((12 * x1) + (S.steps x1.toNatClampNeg)).toNatClampNeg x3)).snum) ((12 * x1) + (S.steps x1.toNatClampNeg)).toNatClampNeg x4)).steps) x1.toNatClampNeg ((((((S.set_sact (upd S.sact ((12 * x1) + (S.steps x1.toNatClampNeg)).toNatClampNeg x2)).set_soth (upd ((S.set_sact (upd S.sact ((12 * x1) + (S.steps x1.toNatClampNeg)).toNatClampNeg x2)).soth) ((12 * x1) + (S.steps x1.toNatClampNeg)).toNatClampNeg x3)).set_snum (upd (((S.set_sact (upd S.sact ((12 * x1) + (S.steps x1.toNatClampNeg)).toNatClampNeg x2)).set_soth (upd ((S.set_sact (upd S.sact ((12 * x1) + (S.steps x1.toNatClampNeg)).toNatClampNeg x2)).soth) ((12 * x1) + (S.steps x1.toNatClampNeg)).toNatClampNeg x3)).snum) ((12 * x1) + (S.steps x1.toNatClampNeg)).toNatClampNeg x4)).steps) x1.toNatClampNeg) + 1))).steps) rfl rfl (isIn5 c_6) dX3_step_103 ?_
            exact r_Wi hx hb hr hlocks hP hI hS (by simp only [f_X3_step, if_neg c_6, if_neg c_16, if_neg c_22, if_neg c_30, if_neg c_44]) dX3_step_104
          · skip
            refine lv_bipush (v := (-4)) hx hb dX3_step_47 (by decide) ?_
            exact r_Wi hx hb hr hlocks hP hI hS (by simp only [f_X3_step, if_neg c_6, if_neg c_16, if_neg c_22, if_neg c_30, if_pos c_44]) dX3_step_49
        · skip
          refine lv_bipush (v := (-3)) hx hb dX3_step_33 (by decide) ?_
          exact r_Wi hx hb hr hlocks hP hI hS (by simp only [f_X3_step, if_neg c_6, if_neg c_16, if_neg c_22, if_pos c_30]) dX3_step_35
/-! what the reference's work gives: a fault, or a value's number or none -/
def RV (r : Int32) : Prop := -10 ≤ r → NV r
theorem rv_w {c : Int32} (h : ¬ -10 ≤ f_X3_with c) : RV (f_X3_with c) := fun q => absurd q h
theorem rv_n {r : Int32} (h : NV r) : RV r := fun _ => h
theorem nv_0 : NV 0 := by unfold NV; decide
theorem nv_vals {S : MS} (hI : MInv S) (hm : S.vals.toInt < 60) : NV S.vals := ⟨by have := hI.1; omega, hm⟩
theorem nv_make {S : MS} {f k : Int32} (hI : MInv S) (hm : S.vals.toInt < 60) : NV (f_X3_make S f k).1 := by rw [make_fst]; exact nv_vals hI hm
theorem fillL_nv : ∀ (n : Nat) (f : Nat → Int32) (x : Int32) (j : Nat), (∀ i, NV (f i)) → ∀ i, NV (fillL n f x j i) := by
  intro n
  induction n with
  | zero => intro f x j h; exact h
  | succ n ih =>
    intro f x j h
    simp only [fillL]
    split
    · exact h
    · refine ih _ _ _ (fun i => ?_)
      by_cases hh : i = ((8 * x) + nI j).toNatClampNeg
      · subst hh; rw [pk_us]; exact nv_m1
      · rw [pk_un hh]; exact h i
theorem sizes_set' {S : MS} {F : Nat → Int32} (hI : MInv S) (h : ∀ i, 0 ≤ (F i).toInt ∧ (F i).toInt ≤ 8) : MInv (S.set_sizes F) := ⟨hI.1, h, hI.2.2⟩
theorem lies_set' {S : MS} {F : Nat → Int32} (hI : MInv S) (h : ∀ i, NV (F i)) : MInv (S.set_lies F) := ⟨hI.1, hI.2.1, h, hI.2.2.2⟩
theorem MInv_make {S : MS} {f k : Int32} (hI : MInv S) (hm : S.vals.toInt < 60) (h2 : 0 ≤ k.toInt ∧ k.toInt ≤ 8) : MInv (f_X3_make S f k).2 := by
  rw [make_eq]
  show MInv (made S f k)
  unfold made
  refine lies_set' (MInv_set_nums (MInv_set_levels (sizes_set' (MInv_set_forms (vals_up hI hm)) (fun i => ?_)))) (fillL_nv 9 _ _ _ hI.2.2.1)
  by_cases hh : i = S.vals.toNatClampNeg
  · subst hh; rw [pk_us]; exact h2
  · rw [pk_un hh]; exact hI.2.1 i
theorem sum_c60_nv : ∀ (n : Nat) (S : MS) (x1 x2 : Int32) (j : Nat), NV x2 → NV (f_X3_sum_c60 n S x1 x2 j).1 := by
  intro n
  induction n with
  | zero => intro S x1 x2 j h; exact nv_0
  | succ n ih =>
    intro S x1 x2 j h
    simp only [f_X3_sum_c60]
    split
    · exact h
    · split
      · exact ih _ _ _ _ h
      · exact ih _ _ _ _ h
theorem turned_c47_nv : ∀ (n : Nat) (S : MS) (x1 x3 x4 : Int32) (j : Nat), NV x4 → NV (f_X3_turned_c47 n S x1 x3 x4 j).1 := by
  intro n
  induction n with
  | zero => intro S x1 x3 x4 j h; exact nv_0
  | succ n ih =>
    intro S x1 x3 x4 j h
    simp only [f_X3_turned_c47]
    split
    · exact h
    · exact ih _ _ _ _ _ h
theorem levelsOf_c15_nv : ∀ (n : Nat) (S : MS) (x1 x2 x3 : Int32) (j : Nat), NV x3 → NV (f_X3_levelsOf_c15 n S x1 x2 x3 j).1 := by
  intro n
  induction n with
  | zero => intro S x1 x2 x3 j h; exact nv_0
  | succ n ih =>
    intro S x1 x2 x3 j h
    simp only [f_X3_levelsOf_c15]
    split
    · exact h
    · split
      · exact ih _ _ _ _ _ h
      · exact ih _ _ _ _ _ h
theorem drive_c102_nv : ∀ (n : Nat) (S : MS) (x1 x3 x4 : Int32) (j : Nat), NV x4 → NV (f_X3_drive_c102 n S x1 x3 x4 j).1 := by
  intro n
  induction n with
  | zero => intro S x1 x3 x4 j h; exact nv_0
  | succ n ih =>
    intro S x1 x3 x4 j h
    simp only [f_X3_drive_c102]
    split
    · exact h
    · exact ih _ _ _ _ _ h
theorem drive_c23_nv : ∀ (n : Nat) (S : MS) (x1 x2 x3 : Int32) (j : Nat), MInv S → S.vals.toInt < 60 → S.vals.toInt + (S.sizes x1.toNatClampNeg).toInt < 60 + j → (0 ≤ x3.toInt ∧ x3.toInt + j = S.vals.toInt) → j ≤ 8 → NV (f_X3_drive_c23 n S x1 x2 x3 j).1 := by
  intro n
  induction n with
  | zero => intro S x1 x2 x3 j h1 h2 h3 h4 h5; exact nv_0
  | succ n ih =>
    intro S x1 x2 x3 j hI hm hqq h3 hj
    simp only [f_X3_drive_c23]
    split
    · split
      · exact drive_c102_nv _ _ _ _ _ _ (nv_make hI hm)
      · exact drive_c102_nv _ _ _ _ _ _ (nv_make hI hm)
    · rename_i c
      have hlj := lt_j hj c
      have hj8 := jl8 c (hI.2.1 _).2 hj
      split
      · have hb := fun v => drv_back (v := v) hqq h3 hlj (make_vals_i hI hm 4 0) (make_sizes_0 hI 4 x1.toNatClampNeg)
        exact ih _ _ _ _ _ (MInv_set_levels (MInv_make hI hm (by decide))) (hb _).1 (hb _).2.1 (hb _).2.2 hj8
      · have hb := fun v => drv_back (v := v) hqq h3 hlj (make_vals_i hI hm 5 0) (make_sizes_0 hI 5 x1.toNatClampNeg)
        exact ih _ _ _ _ _ (MInv_set_levels (MInv_make hI hm (by decide))) (hb _).1 (hb _).2.1 (hb _).2.2 hj8
theorem join_c184_nv : ∀ (n : Nat) (S : MS) (x1 x2 x4 x5 x6 : Int32) (j : Nat), NV x6 → NV (f_X3_join_c184 n S x1 x2 x4 x5 x6 j).1 := by
  intro n
  induction n with
  | zero => intro S x1 x2 x4 x5 x6 j h; exact nv_0
  | succ n ih =>
    intro S x1 x2 x4 x5 x6 j h
    simp only [f_X3_join_c184]
    split
    · exact h
    · split
      · exact ih _ _ _ _ _ _ _ h
      · exact ih _ _ _ _ _ _ _ h
theorem join_c112_rv : ∀ (n : Nat) (S : MS) (x1 x2 x3 x4 x5 : Int32) (j : Nat), MInv S → S.vals.toInt < 60 → RV (f_X3_join_c112 n S x1 x2 x3 x4 x5 j).1 := by
  intro n
  induction n with
  | zero => intro S x1 x2 x3 x4 x5 j hI hm; exact rv_n nv_0
  | succ n ih =>
    intro S x1 x2 x3 x4 x5 j hI hm
    simp only [f_X3_join_c112, f_X3_join_c164]
    split
    · exact rv_n (join_c184_nv _ _ _ _ _ _ _ _ (nv_make hI hm))
    · split
      · exact rv_n (join_c184_nv _ _ _ _ _ _ _ _ (nv_make hI hm))
      · split
        · exact ih _ _ _ _ _ _ _ hI hm
        · split
          · exact rv_w (by decide)
          · exact ih _ _ _ _ _ _ _ hI hm
theorem copy_c33_nv : ∀ (n : Nat) (S : MS) (x1 x2 : Int32) (j : Nat), NV x2 → NV (f_X3_copy_c33 n S x1 x2 j).1 := by
  intro n
  induction n with
  | zero => intro S x1 x2 j h; exact nv_0
  | succ n ih =>
    intro S x1 x2 j h
    simp only [f_X3_copy_c33]
    split
    · exact h
    · exact ih _ _ _ _ h
theorem sum_rv {S : MS} {x : Int32} (hI : MInv S) (hm : S.vals.toInt < 60) : RV (f_X3_sum S x).1 := by
  simp only [f_X3_sum]
  split
  · split
    · exact rv_n (sum_c60_nv _ _ _ _ _ (nv_make hI hm))
    · exact rv_w (by decide)
  · (try dsimp only); exact rv_n (nv_make hI hm)
theorem turned_rv {S : MS} {x y : Int32} (hI : MInv S) (hm : S.vals.toInt < 60) : RV (f_X3_turned S x y).1 := by
  simp only [f_X3_turned]
  split
  · exact rv_w (by decide)
  · split
    · exact rv_w (by decide)
    · exact rv_n (turned_c47_nv _ _ _ _ _ _ (nv_make hI hm))
theorem levelsOf_rv {S : MS} {x y : Int32} (hI : MInv S) (hm : S.vals.toInt < 60) : RV (f_X3_levelsOf S x y).1 := by
  simp only [f_X3_levelsOf]
  exact rv_n (levelsOf_c15_nv _ _ _ _ _ _ (nv_make hI hm))
theorem drive_rv {S : MS} {x y : Int32} (hI : MInv S) (hm : S.vals.toInt < 60) (hrm : S.forms x.toNatClampNeg = 1 → S.vals.toInt + (S.sizes x.toNatClampNeg).toInt < 60) : RV (f_X3_drive S x y).1 := by
  simp only [f_X3_drive]
  split
  · rename_i c
    exact rv_n (drive_c23_nv _ _ _ _ _ _ hI hm (by have := hrm c; omega) ⟨hI.1.1, by omega⟩ (by decide))
  · exact rv_w (by decide)
theorem pair_rv {S : MS} {x y k : Int32} (hI : MInv S) (hm : S.vals.toInt < 60) : RV (f_X3_pair S x y k).1 := by
  have h48 : RV (f_X3_pair_c48 S x y k).1 := by
    simp only [f_X3_pair_c48]
    split
    · exact rv_w (by decide)
    · split
      · exact rv_w (by decide)
      · split
        · (try dsimp only); exact rv_n (nv_make hI hm)
        · (try dsimp only); exact rv_n (nv_make hI hm)
  have h28 : ∀ q, RV (f_X3_pair_c28 S x y k q).1 := by
    intro q
    simp only [f_X3_pair_c28]
    split
    · exact h48
    · split
      · exact rv_w (by decide)
      · exact h48
  have h13 : ∀ q, RV (f_X3_pair_c13 S x y k q).1 := by
    intro q
    simp only [f_X3_pair_c13]
    split
    · exact h28 q
    · split
      · exact rv_w (by decide)
      · exact h28 q
  simp only [f_X3_pair]
  split
  · exact h13 _
  · exact h13 _
theorem power_rv {S : MS} {x : Int32} (hI : MInv S) (hm : S.vals.toInt < 60) : RV (f_X3_power S x).1 := by
  simp only [f_X3_power]
  split
  · (try dsimp only); exact rv_n (nv_make hI hm)
  · split
    · exact rv_w (by decide)
    · (try dsimp only); exact levelsOf_rv hI hm
theorem join_rv {S : MS} {x y : Int32} (hI : MInv S) (hm : S.vals.toInt < 60) : RV (f_X3_join S x y).1 := by
  have h63 : ∀ q, RV (f_X3_join_c63 S x y q).1 := by
    intro q
    simp only [f_X3_join_c63]
    split
    · exact rv_w (by decide)
    · split
      · exact rv_w (by decide)
      · split
        · exact join_c112_rv _ _ _ _ _ _ _ _ hI hm
        · exact rv_w (by decide)
  have h25 : ∀ q, RV (f_X3_join_c25 S x y q).1 := by
    intro q
    simp only [f_X3_join_c25]
    split
    · exact h63 q
    · split
      · split
        · split
          · exact rv_w (by decide)
          · exact h63 q
        · split
          · exact rv_w (by decide)
          · exact h63 q
      · split
        · exact rv_w (by decide)
        · exact h63 q
  simp only [f_X3_join]
  split
  · exact h25 _
  · split
    · split
      · exact rv_w (by decide)
      · exact h25 _
    · exact h25 _
theorem copy_rv {S : MS} {x : Int32} (hI : MInv S) (hm : S.vals.toInt < 60) : RV (f_X3_copy S x).1 := by
  simp only [f_X3_copy]
  split
  · exact rv_n (copy_c33_nv _ _ _ _ _ (nv_make hI hm))
  · exact rv_w (by decide)
theorem tap_rv {S : MS} {x y : Int32} (hI : MInv S) : RV (f_X3_tap S x y) := by
  simp only [f_X3_tap]
  split
  · exact rv_w (by decide)
  · split
    · exact rv_w (by decide)
    · split
      · exact rv_w (by decide)
      · split
        · exact rv_w (by decide)
        · exact rv_n (hI.2.2.1 _)
theorem lay_rv {S : MS} {x y k : Int32} (hx : NV x) : RV (f_X3_lay S x y k).1 := by
  have h77 : RV (f_X3_lay_c77 S x y k).1 := by
    simp only [f_X3_lay_c77]
    split
    · exact rv_w (by decide)
    · split
      · exact rv_w (by decide)
      · split
        · exact rv_w (by decide)
        · split
          · exact rv_n hx
          · split
            · exact rv_w (by decide)
            · exact rv_n hx
  have h57 : ∀ q, RV (f_X3_lay_c57 S x y k q).1 := by
    intro q
    simp only [f_X3_lay_c57]
    split
    · exact h77
    · split
      · exact rv_w (by decide)
      · exact h77
  simp only [f_X3_lay]
  split
  · exact h57 _
  · split
    · exact h57 _
    · split
      · split
        · exact h57 _
        · exact h57 _
      · exact h57 _
theorem work_c145_rv {S : MS} {a x y k : Int32} (hI : MInv S) (ha : 0 ≤ a.toInt ∧ a.toInt ≤ 12) (hx : NV x) (hz : x = -1 → a = 7 ∨ a = 9) (hc : S.vals + f_X3_makes S a x ≤ 60) (hb : ¬ a = 3 ∧ ¬ a = 4 ∧ ¬ a = 11 ∧ ¬ a = 12) : RV (f_X3_work_c145 S a x y k).1 := by
  simp only [f_X3_work_c145]
  by_cases c0 : a = 0
  · rw [if_pos c0]; (try dsimp only); exact sum_rv hI (work_lt hI hc (by rw [c0]; decide))
  rw [if_neg c0]
  by_cases c1 : a = 1
  · rw [if_pos c1]; (try dsimp only); exact turned_rv hI (work_lt hI hc (by rw [c1]; decide))
  rw [if_neg c1]
  by_cases c2 : a = 2
  · rw [if_pos c2]; (try dsimp only); exact turned_rv hI (work_lt hI hc (by rw [c2]; decide))
  rw [if_neg c2]
  by_cases c5 : a = 5
  · rw [if_pos c5]
    have h := fun y => levelsOf_rv (x := x) (y := y) hI (work_lt hI hc (by rw [c5]; decide))
    split
    · split
      · exact rv_w (by decide)
      · (try dsimp only); exact h _
    · (try dsimp only); exact h _
  rw [if_neg c5]
  by_cases c6 : a = 6
  · rw [if_pos c6]; (try dsimp only); exact drive_rv hI (work_lt hI hc (by rw [c6]; decide)) (work_drive hI (wx hx hz c6 (by decide) (by decide)) hc c6)
  rw [if_neg c6]
  by_cases c7 : a = 7
  · rw [if_pos c7]; (try dsimp only); exact pair_rv hI (work_lt hI hc (by rw [c7]; decide))
  rw [if_neg c7]
  by_cases c8 : a = 8
  · rw [if_pos c8]; (try dsimp only); exact power_rv hI (work_lt hI hc (by rw [c8]; decide))
  rw [if_neg c8]
  by_cases c9 : a = 9
  · rw [if_pos c9]; (try dsimp only); exact join_rv hI (work_lt hI hc (by rw [c9]; decide))
  rw [if_neg c9]
  have h10 := act10 ha hb c0 c1 c2 c5 c6 c7 c8 c9
  (try dsimp only)
  exact copy_rv hI (work_lt hI hc (by rw [h10]; decide))
theorem work_nv {S : MS} {a x y k : Int32} (hI : MInv S) (ha : 0 ≤ a.toInt ∧ a.toInt ≤ 12) (hx : NV x) (hy : NV y) : RV (f_X3_work S a x y k).1 := by
  simp only [f_X3_work]
  by_cases hcn : ¬ S.vals + f_X3_makes S a x ≤ 60
  · rw [if_neg hcn]; exact rv_w (by decide)
  have hc : S.vals + f_X3_makes S a x ≤ 60 := Decidable.not_not.mp hcn
  rw [if_pos hc]
  by_cases c3 : a = 3
  · rw [if_pos c3]; (try dsimp only); exact tap_rv hI
  rw [if_neg c3]
  by_cases c4 : a = 4
  · rw [if_pos c4]; (try dsimp only); exact lay_rv hx
  rw [if_neg c4]
  by_cases c11 : a = 11
  · rw [if_pos c11]
    split
    · exact rv_w (by decide)
    · (try dsimp only); exact rv_n (nv_make hI (work_lt hI hc (by rw [c11]; decide)))
  rw [if_neg c11]
  by_cases c12 : a = 12
  · rw [if_pos c12]
    split
    · exact rv_w (by decide)
    · split
      · exact rv_n hx
      · split
        · exact rv_w (by decide)
        · exact rv_n hx
  rw [if_neg c12]
  by_cases cn : x = -1
  · rw [if_pos cn]
    by_cases c7 : a = 7
    · rw [if_pos c7]; (try dsimp only); exact work_c145_rv hI ha hx (fun _ => Or.inl c7) hc ⟨c3, c4, c11, c12⟩
    rw [if_neg c7]
    by_cases c9 : a = 9
    · rw [if_pos c9]; (try dsimp only); exact work_c145_rv hI ha hx (fun _ => Or.inr c9) hc ⟨c3, c4, c11, c12⟩
    rw [if_neg c9]
    exact rv_w (by decide)
  · rw [if_neg cn]; exact work_c145_rv hI ha hx (fun h => absurd h cn) hc ⟨c3, c4, c11, c12⟩
theorem nI_m1 {j : Nat} (h : j < 12) : ¬ nI j = -1 := fun e => by
  have h1 := congrArg Int32.toInt e
  rw [nI_toInt (by omega), show (-1 : Int32).toInt = -1 by decide] at h1
  omega
theorem soth_nv {S : MS} {k : Nat} (hI : MInv S) (c : ¬ S.soth k = -2) : NV (S.soth k) := by
  have h1 := hI.2.2.2.2.1 k
  have : ¬ (S.soth k).toInt = -2 := fun e => c (Int32.toInt_inj.mp (e.trans (by decide)))
  exact ⟨by omega, h1.2⟩
theorem noted_fst (S : MS) (r : Int32) : (f_X3_noted S r).1 = r := by
  unfold f_X3_noted
  split <;> rfl
theorem noted_nv {S : MS} {r : Int32} (h : RV r) (c : -10 ≤ (f_X3_noted S r).1) : NV (f_X3_noted S r).1 := by
  rw [noted_fst] at c ⊢
  exact h c

abbrev rmX3_play : Room := { frames := 5, cells := 0, slots := 0, locals := 117 }
theorem eeX3_play : yX3_play.cls = RX3 ∧ yX3_play.cls ≠ "java/lang/invoke/MethodHandle" ∧ yX3_play.cls ≠ "java/lang/invoke/VarHandle" ∧ (parseMethodDescriptor yX3_play.desc).map (fun d => d.parameters.length) = some 2 := by decide +kernel
theorem iwX3_play : ∀ w ∈ u_ws RX3 TX3 13, w ∈ wsX3_play := by decide +kernel
theorem flX3_play_26 : Cond.fieldLink RX3 26 "LoomPanelModel" "steps" "[I" ∈ wsX3_play := by decide +kernel
theorem flX3_play_29 : Cond.fieldLink RX3 29 "LoomPanelModel" "stepAct" "[I" ∈ wsX3_play := by decide +kernel
theorem flX3_play_32 : Cond.fieldLink RX3 32 "LoomPanelModel" "stepOther" "[I" ∈ wsX3_play := by decide +kernel
theorem flX3_play_35 : Cond.fieldLink RX3 35 "LoomPanelModel" "stepNumber" "[I" ∈ wsX3_play := by decide +kernel
theorem flX3_play_38 : Cond.fieldLink RX3 38 "LoomPanelModel" "stopped" "I" ∈ wsX3_play := by decide +kernel
def f_X3_play_c30 : Nat → MS → Int32 → Int32 → Int32 → Nat → Int32 × MS
  | 0, S, _, _, _, _ => (0, S)
  | n + 1, S, x1, x2, x3, j => if (S.steps x1.toNatClampNeg) ≤ (nI j) then ((x3, S)) else (if S.stop = (-1) then (if (S.soth ((12 * x1) + (nI j)).toNatClampNeg) = (-2) then (if (-10) ≤ ((f_X3_noted ((f_X3_work S (S.sact ((12 * x1) + (nI j)).toNatClampNeg) x3 x2 (S.snum ((12 * x1) + (nI j)).toNatClampNeg)).2) ((f_X3_work S (S.sact ((12 * x1) + (nI j)).toNatClampNeg) x3 x2 (S.snum ((12 * x1) + (nI j)).toNatClampNeg)).1)).1) then (f_X3_play_c30 n (((f_X3_noted ((f_X3_work S (S.sact ((12 * x1) + (nI j)).toNatClampNeg) x3 x2 (S.snum ((12 * x1) + (nI j)).toNatClampNeg)).2) ((f_X3_work S (S.sact ((12 * x1) + (nI j)).toNatClampNeg) x3 x2 (S.snum ((12 * x1) + (nI j)).toNatClampNeg)).1)).2).set_stop (-1)) x1 x2 ((f_X3_noted ((f_X3_work S (S.sact ((12 * x1) + (nI j)).toNatClampNeg) x3 x2 (S.snum ((12 * x1) + (nI j)).toNatClampNeg)).2) ((f_X3_work S (S.sact ((12 * x1) + (nI j)).toNatClampNeg) x3 x2 (S.snum ((12 * x1) + (nI j)).toNatClampNeg)).1)).1) (j + 1)) else (f_X3_play_c30 n (((f_X3_noted ((f_X3_work S (S.sact ((12 * x1) + (nI j)).toNatClampNeg) x3 x2 (S.snum ((12 * x1) + (nI j)).toNatClampNeg)).2) ((f_X3_work S (S.sact ((12 * x1) + (nI j)).toNatClampNeg) x3 x2 (S.snum ((12 * x1) + (nI j)).toNatClampNeg)).1)).2).set_stop (nI j)) x1 x2 ((f_X3_noted ((f_X3_work S (S.sact ((12 * x1) + (nI j)).toNatClampNeg) x3 x2 (S.snum ((12 * x1) + (nI j)).toNatClampNeg)).2) ((f_X3_work S (S.sact ((12 * x1) + (nI j)).toNatClampNeg) x3 x2 (S.snum ((12 * x1) + (nI j)).toNatClampNeg)).1)).1) (j + 1))) else (if (-10) ≤ ((f_X3_noted ((f_X3_work S (S.sact ((12 * x1) + (nI j)).toNatClampNeg) x3 (S.soth ((12 * x1) + (nI j)).toNatClampNeg) (S.snum ((12 * x1) + (nI j)).toNatClampNeg)).2) ((f_X3_work S (S.sact ((12 * x1) + (nI j)).toNatClampNeg) x3 (S.soth ((12 * x1) + (nI j)).toNatClampNeg) (S.snum ((12 * x1) + (nI j)).toNatClampNeg)).1)).1) then (f_X3_play_c30 n (((f_X3_noted ((f_X3_work S (S.sact ((12 * x1) + (nI j)).toNatClampNeg) x3 (S.soth ((12 * x1) + (nI j)).toNatClampNeg) (S.snum ((12 * x1) + (nI j)).toNatClampNeg)).2) ((f_X3_work S (S.sact ((12 * x1) + (nI j)).toNatClampNeg) x3 (S.soth ((12 * x1) + (nI j)).toNatClampNeg) (S.snum ((12 * x1) + (nI j)).toNatClampNeg)).1)).2).set_stop (-1)) x1 x2 ((f_X3_noted ((f_X3_work S (S.sact ((12 * x1) + (nI j)).toNatClampNeg) x3 (S.soth ((12 * x1) + (nI j)).toNatClampNeg) (S.snum ((12 * x1) + (nI j)).toNatClampNeg)).2) ((f_X3_work S (S.sact ((12 * x1) + (nI j)).toNatClampNeg) x3 (S.soth ((12 * x1) + (nI j)).toNatClampNeg) (S.snum ((12 * x1) + (nI j)).toNatClampNeg)).1)).1) (j + 1)) else (f_X3_play_c30 n (((f_X3_noted ((f_X3_work S (S.sact ((12 * x1) + (nI j)).toNatClampNeg) x3 (S.soth ((12 * x1) + (nI j)).toNatClampNeg) (S.snum ((12 * x1) + (nI j)).toNatClampNeg)).2) ((f_X3_work S (S.sact ((12 * x1) + (nI j)).toNatClampNeg) x3 (S.soth ((12 * x1) + (nI j)).toNatClampNeg) (S.snum ((12 * x1) + (nI j)).toNatClampNeg)).1)).2).set_stop (nI j)) x1 x2 ((f_X3_noted ((f_X3_work S (S.sact ((12 * x1) + (nI j)).toNatClampNeg) x3 (S.soth ((12 * x1) + (nI j)).toNatClampNeg) (S.snum ((12 * x1) + (nI j)).toNatClampNeg)).2) ((f_X3_work S (S.sact ((12 * x1) + (nI j)).toNatClampNeg) x3 (S.soth ((12 * x1) + (nI j)).toNatClampNeg) (S.snum ((12 * x1) + (nI j)).toNatClampNeg)).1)).1) (j + 1)))) else ((x3, S)))
set_option maxHeartbeats 4000000 in
set_option maxRecDepth 100000 in
theorem w_X3_play_c30 {l : Launch} {D : va_G} {cI cJ : ClassId} {a : Nat → Nat} (hd : ∀ i j, i < 10 → j < 10 → a i = a j → i = j) {p : Program} {e : Env} {s : State} {m : MethodId} {args : Array Value} {below : List Frame} {meth : Method} {c : Code} (C : GC p s m meth c cX3_play (some .int) 7 RX3 wsX3_play args D (mw_tys cI cJ)) {v : Int32 × MS} : ∀ (n : Nat) (S : MS) (x1 : Int32) (x2 : Int32) (x3 : Int32) (j : Nat) (hp : vp_in x1 6) (h2 : NV x2) (h3 : S.stop = -1 → NV x3) (hj : j ≤ 12) (hn : j + n = 13) (H : Heap) (locs : List Loc) (ls : Array Slot), va_P D vwCl (mw cI cJ a S) H → MInv S → va_S (mA a) s.heap H locs → lv_has ls 7 [(0, .ref (a 0)), (1, .int x1), (2, .int x2), (3, .int x3), (4, .int (nI j))] → v = f_X3_play_c30 n S x1 x2 x3 j → W p l e rmX3_play s m args below meth c H locs 0 0 (MQ below (va_Qi (fun r u => v = (r, u)) (GE D (mw cI cJ a) MInv) (mA a)) args s 0 0 (mA a)) (F0 m 30 ls []) := by
  obtain ⟨hx, hb, hr, hlocks, hml, hown, hts, hK, hN⟩ := id C
  intro n
  induction n with
  | zero =>
    intro S x1 x2 x3 j hp h2 h3 hj hn H locs ls hP hI hS hl hq
    exact absurd hn (by omega)
  | succ n ih =>
    intro S x1 x2 x3 j hp h2 h3 hj hn H locs ls hP hI hS hl hq
    refine lv_iload hx hb dX3_play_30 (lv_at hl 4 rfl) ?_
    refine lv_aload_n hx hb dX3_play_32 rfl (lv_at hl 0 rfl) ?_
    refine va_get (D := D) (ci := 3) (v := .ref (a 6)) (C := RX3) (T := TX3) (N := 13) hx hb hts iwX3_play hown hK hP 0 rfl rfl 6 (by decide) (hts (.fieldLink RX3 26 "LoomPanelModel" "steps" "[I") flX3_play_26) (fun _ h9 => h9) rfl dX3_play_33 ?_
    refine lv_iload_n hx hb dX3_play_36 rfl (lv_at hl 1 rfl) ?_
    refine va_iald hx hb hK hP 6 0 (f := S.steps) rfl rfl hp dX3_play_37 ?_
    refine lv_icmp_ge (tgt := 131) hx hb dX3_play_38 (by decide) (fun c_38 => ?_) (fun c_38 => ?_)
    · skip
      refine lv_iload_n hx hb dX3_play_131 rfl (lv_at hl 3 rfl) ?_
      exact r_Wi hx hb hr hlocks hP hI hS (hq.trans (by simp only [f_X3_play_c30, if_pos c_38])) dX3_play_132
    · skip
      refine lv_aload_n hx hb dX3_play_41 rfl (lv_at hl 0 rfl) ?_
      refine va_get (D := D) (ci := 3) (v := .int S.stop) (C := RX3) (T := TX3) (N := 13) hx hb hts iwX3_play hown hK hP 0 rfl rfl 12 (by decide) (hts (.fieldLink RX3 38 "LoomPanelModel" "stopped" "I") flX3_play_38) (fun _ h9 => h9) rfl dX3_play_42 ?_
      refine lv_iconst (v := (-1)) hx hb dX3_play_45 (by decide) ?_
      refine lv_icmp_ne (tgt := 131) hx hb dX3_play_46 (by decide) (fun c_46 => ?_) (fun c_46 => ?_)
      · skip
        refine lv_iload_n hx hb dX3_play_131 rfl (lv_at hl 3 rfl) ?_
        exact r_Wi hx hb hr hlocks hP hI hS (hq.trans (by simp only [f_X3_play_c30, if_neg c_38, if_neg c_46])) dX3_play_132
      · skip
        have hj12 := jl12 c_38 (hI.2.2.2.1 _).2 hj
        refine lv_bipush (v := 12) hx hb dX3_play_49 (by decide) ?_
        refine lv_iload_n hx hb dX3_play_51 rfl (lv_at hl 1 rfl) ?_
        refine lv_imul hx hb dX3_play_52 ?_
        refine lv_iload hx hb dX3_play_53 (lv_at hl 4 rfl) ?_
        refine lv_iadd hx hb dX3_play_55 ?_
        refine lv_istore (lv' := [(5, .int ((12 * x1) + (nI j))), (0, .ref (a 0)), (1, .int x1), (2, .int x2), (3, .int x3), (4, .int (nI j))]) hx hb dX3_play_56 hl (by decide) rfl (fun ls hl => ?_)
        refine lv_aload_n hx hb dX3_play_58 rfl (lv_at hl 1 rfl) ?_
        refine va_get (D := D) (ci := 3) (v := .ref (a 8)) (C := RX3) (T := TX3) (N := 13) hx hb hts iwX3_play hown hK hP 0 rfl rfl 8 (by decide) (hts (.fieldLink RX3 32 "LoomPanelModel" "stepOther" "[I") flX3_play_32) (fun _ h9 => h9) rfl dX3_play_59 ?_
        refine lv_iload hx hb dX3_play_62 (lv_at hl 0 rfl) ?_
        refine va_iald hx hb hK hP 8 0 (f := S.soth) rfl rfl (ix12' hp (jin (jl12 c_38 (hI.2.2.2.1 _).2 hj) (by decide))) dX3_play_64 ?_
        refine lv_bipush (v := (-2)) hx hb dX3_play_65 (by decide) ?_
        refine lv_icmp_ne (tgt := 74) hx hb dX3_play_67 (by decide) (fun c_67 => ?_) (fun c_67 => ?_)
        · skip
          have hyy := soth_nv hI c_67
          refine lv_aload_n hx hb dX3_play_74 rfl (lv_at hl 1 rfl) ?_
          refine va_get (D := D) (ci := 3) (v := .ref (a 8)) (C := RX3) (T := TX3) (N := 13) hx hb hts iwX3_play hown hK hP 0 rfl rfl 8 (by decide) (hts (.fieldLink RX3 32 "LoomPanelModel" "stepOther" "[I") flX3_play_32) (fun _ h9 => h9) rfl dX3_play_75 ?_
          refine lv_iload hx hb dX3_play_78 (lv_at hl 0 rfl) ?_
          refine va_iald hx hb hK hP 8 0 (f := S.soth) rfl rfl (ix12' hp (jin (jl12 c_38 (hI.2.2.2.1 _).2 hj) (by decide))) dX3_play_80 ?_
          refine lv_istore (lv' := [(6, .int (S.soth ((12 * x1) + (nI j)).toNatClampNeg)), (5, .int ((12 * x1) + (nI j))), (0, .ref (a 0)), (1, .int x1), (2, .int x2), (3, .int x3), (4, .int (nI j))]) hx hb dX3_play_81 hl (by decide) rfl (fun ls hl => ?_)
          have hwk := work_nv (a := S.sact ((12 * x1) + nI j).toNatClampNeg) (k := S.snum ((12 * x1) + nI j).toNatClampNeg) hI (hI.2.2.2.2.2 _) (h3 c_46) hyy
          refine lv_aload_n hx hb dX3_play_83 rfl (lv_at hl 2 rfl) ?_
          refine lv_aload_n hx hb dX3_play_84 rfl (lv_at hl 2 rfl) ?_
          refine lv_aload_n hx hb dX3_play_85 rfl (lv_at hl 2 rfl) ?_
          refine va_get (D := D) (ci := 3) (v := .ref (a 7)) (C := RX3) (T := TX3) (N := 13) hx hb hts iwX3_play hown hK hP 0 rfl rfl 7 (by decide) (hts (.fieldLink RX3 29 "LoomPanelModel" "stepAct" "[I") flX3_play_29) (fun _ h9 => h9) rfl dX3_play_86 ?_
          refine lv_iload hx hb dX3_play_89 (lv_at hl 1 rfl) ?_
          refine va_iald hx hb hK hP 7 0 (f := S.sact) rfl rfl (ix12' hp (jin (jl12 c_38 (hI.2.2.2.1 _).2 hj) (by decide))) dX3_play_91 ?_
          refine lv_iload_n hx hb dX3_play_92 rfl (lv_at hl 5 rfl) ?_
          refine lv_iload hx hb dX3_play_93 (lv_at hl 0 rfl) ?_
          refine lv_aload_n hx hb dX3_play_95 rfl (lv_at hl 2 rfl) ?_
          refine va_get (D := D) (ci := 3) (v := .ref (a 9)) (C := RX3) (T := TX3) (N := 13) hx hb hts iwX3_play hown hK hP 0 rfl rfl 9 (by decide) (hts (.fieldLink RX3 35 "LoomPanelModel" "stepNumber" "[I") flX3_play_35) (fun _ h9 => h9) rfl dX3_play_96 ?_
          refine lv_iload hx hb dX3_play_99 (lv_at hl 1 rfl) ?_
          refine va_iald hx hb hK hP 9 0 (f := S.snum) rfl rfl (ix12' hp (jin (jl12 c_38 (hI.2.2.2.1 _).2 hj) (by decide))) dX3_play_101 ?_
          refine g_Wi (As := [.int (S.sact ((12 * x1) + (nI j)).toNatClampNeg), .int x3, .int (S.soth ((12 * x1) + (nI j)).toNatClampNeg), .int (S.snum ((12 * x1) + (nI j)).toNatClampNeg)]) (rest := [.ref (a 0)]) ⟨hx, hb, hml, hown, hts⟩ (c_X3_work l D cI cJ a hd S (S.sact ((12 * x1) + (nI j)).toNatClampNeg) x3 (S.soth ((12 * x1) + (nI j)).toNatClampNeg) (S.snum ((12 * x1) + (nI j)).toNatClampNeg) (hI.2.2.2.2.2 _) (h3 c_46) hyy) (cwV 4 hts gX3_play_X3_work rfl rfl rfl eeX3_work ⟨Nat.le_of_ble_eq_true rfl, Nat.le_of_ble_eq_true rfl⟩) hK hN hP hI (va_recv hK hP (ci := 3) (q0 := 0) rfl rfl) hS rfl hl.1 rfl (Nat.le_of_ble_eq_true rfl) dX3_play_102 ⟨Nat.zero_le _, Nat.zero_le _⟩ (fun H locs hI hP hS => ?_)
          refine g_Wi (As := [.int ((f_X3_work S (S.sact ((12 * x1) + (nI j)).toNatClampNeg) x3 (S.soth ((12 * x1) + (nI j)).toNatClampNeg) (S.snum ((12 * x1) + (nI j)).toNatClampNeg)).1)]) (rest := []) ⟨hx, hb, hml, hown, hts⟩ (c_X3_noted l D cI cJ a hd ((f_X3_work S (S.sact ((12 * x1) + (nI j)).toNatClampNeg) x3 (S.soth ((12 * x1) + (nI j)).toNatClampNeg) (S.snum ((12 * x1) + (nI j)).toNatClampNeg)).2) ((f_X3_work S (S.sact ((12 * x1) + (nI j)).toNatClampNeg) x3 (S.soth ((12 * x1) + (nI j)).toNatClampNeg) (S.snum ((12 * x1) + (nI j)).toNatClampNeg)).1) ) (cwV 1 hts gX3_play_X3_noted rfl rfl rfl eeX3_noted ⟨Nat.le_of_ble_eq_true rfl, Nat.le_of_ble_eq_true rfl⟩) hK hN hP hI (va_recv hK hP (ci := 3) (q0 := 0) rfl rfl) hS rfl hl.1 rfl (Nat.le_of_ble_eq_true rfl) dX3_play_105 ⟨Nat.zero_le _, Nat.zero_le _⟩ (fun H locs hI hP hS => ?_)
          refine lv_istore_n (lv' := [(3, .int ((f_X3_noted ((f_X3_work S (S.sact ((12 * x1) + (nI j)).toNatClampNeg) x3 (S.soth ((12 * x1) + (nI j)).toNatClampNeg) (S.snum ((12 * x1) + (nI j)).toNatClampNeg)).2) ((f_X3_work S (S.sact ((12 * x1) + (nI j)).toNatClampNeg) x3 (S.soth ((12 * x1) + (nI j)).toNatClampNeg) (S.snum ((12 * x1) + (nI j)).toNatClampNeg)).1)).1)), (6, .int (S.soth ((12 * x1) + (nI j)).toNatClampNeg)), (5, .int ((12 * x1) + (nI j))), (0, .ref (a 0)), (1, .int x1), (2, .int x2), (4, .int (nI j))]) hx hb dX3_play_108 rfl hl (by decide) rfl (fun ls hl => ?_)
          refine lv_aload_n hx hb dX3_play_109 rfl (lv_at hl 3 rfl) ?_
          refine lv_iload_n hx hb dX3_play_110 rfl (lv_at hl 0 rfl) ?_
          refine lv_bipush (v := (-10)) hx hb dX3_play_111 (by decide) ?_
          refine lv_icmp_ge (tgt := 121) hx hb dX3_play_113 (by decide) (fun c_113 => ?_) (fun c_113 => ?_)
          · skip
            have hnv := noted_nv hwk c_113
            have hb3 := fun {Sx : MS} (_ : (Sx.set_stop (-1)).stop = -1) => hnv
            refine lv_iconst (v := (-1)) hx hb dX3_play_121 (by decide) ?_
            refine va_put (D := D) (ci := 3) (v := .int (-1)) (ty := .int) (C := RX3) (T := TX3) (N := 13) hx hb hts iwX3_play tyX3 tyX3_ok nmX3 hown hK hP (mw_D hd) hS 0 rfl rfl 12 (by decide) (hts (.fieldLink RX3 38 "LoomPanelModel" "stopped" "I") flX3_play_38) (fun _ h9 => h9) rfl (by decide +kernel) rfl rfl (Nat.le_of_ble_eq_true rfl) dX3_play_122 (fun H locs hP _ hS => ?_)
            have hP : va_P D vwCl (mw cI cJ a (((f_X3_noted ((f_X3_work S (S.sact ((12 * x1) + (nI j)).toNatClampNeg) x3 (S.soth ((12 * x1) + (nI j)).toNatClampNeg) (S.snum ((12 * x1) + (nI j)).toNatClampNeg)).2) ((f_X3_work S (S.sact ((12 * x1) + (nI j)).toNatClampNeg) x3 (S.soth ((12 * x1) + (nI j)).toNatClampNeg) (S.snum ((12 * x1) + (nI j)).toNatClampNeg)).1)).2).set_stop (-1))) H := by rw [← mw_set_stop]; exact hP
            have hI : MInv (((f_X3_noted ((f_X3_work S (S.sact ((12 * x1) + (nI j)).toNatClampNeg) x3 (S.soth ((12 * x1) + (nI j)).toNatClampNeg) (S.snum ((12 * x1) + (nI j)).toNatClampNeg)).2) ((f_X3_work S (S.sact ((12 * x1) + (nI j)).toNatClampNeg) x3 (S.soth ((12 * x1) + (nI j)).toNatClampNeg) (S.snum ((12 * x1) + (nI j)).toNatClampNeg)).1)).2).set_stop (-1)) := MInv_set_stop hI
            refine lv_iinc (v := nI (j + 1)) (lv' := [(4, .int (nI (j + 1))), (3, .int ((f_X3_noted ((f_X3_work S (S.sact ((12 * x1) + (nI j)).toNatClampNeg) x3 (S.soth ((12 * x1) + (nI j)).toNatClampNeg) (S.snum ((12 * x1) + (nI j)).toNatClampNeg)).2) ((f_X3_work S (S.sact ((12 * x1) + (nI j)).toNatClampNeg) x3 (S.soth ((12 * x1) + (nI j)).toNatClampNeg) (S.snum ((12 * x1) + (nI j)).toNatClampNeg)).1)).1)), (6, .int (S.soth ((12 * x1) + (nI j)).toNatClampNeg)), (5, .int ((12 * x1) + (nI j))), (0, .ref (a 0)), (1, .int x1), (2, .int x2)]) hx hb dX3_play_125 hl (k := 6) rfl (nI_1 _) (by decide) rfl (fun ls hl => ?_)
            refine lv_goto (tgt := 30) hx hb dX3_play_128 (by decide) ?_
            exact ih (((f_X3_noted ((f_X3_work S (S.sact ((12 * x1) + (nI j)).toNatClampNeg) x3 (S.soth ((12 * x1) + (nI j)).toNatClampNeg) (S.snum ((12 * x1) + (nI j)).toNatClampNeg)).2) ((f_X3_work S (S.sact ((12 * x1) + (nI j)).toNatClampNeg) x3 (S.soth ((12 * x1) + (nI j)).toNatClampNeg) (S.snum ((12 * x1) + (nI j)).toNatClampNeg)).1)).2).set_stop (-1)) x1 x2 ((f_X3_noted ((f_X3_work S (S.sact ((12 * x1) + (nI j)).toNatClampNeg) x3 (S.soth ((12 * x1) + (nI j)).toNatClampNeg) (S.snum ((12 * x1) + (nI j)).toNatClampNeg)).2) ((f_X3_work S (S.sact ((12 * x1) + (nI j)).toNatClampNeg) x3 (S.soth ((12 * x1) + (nI j)).toNatClampNeg) (S.snum ((12 * x1) + (nI j)).toNatClampNeg)).1)).1) (j + 1) hp h2 hb3 hj12 (by omega) _ _ _ hP hI hS (lv_sub hl [4, 5, 6, 1, 0] rfl) (hq.trans (by simp only [f_X3_play_c30, if_neg c_38, if_pos c_46, if_neg c_67, if_pos c_113]))
          · skip
            have hb3 : ∀ {Sx : MS} {r : Int32}, (Sx.set_stop (nI j)).stop = -1 → NV r := fun h => absurd h (nI_m1 hj12)
            refine lv_iload hx hb dX3_play_116 (lv_at hl 6 rfl) ?_
            refine lv_goto (tgt := 122) hx hb dX3_play_118 (by decide) ?_
            refine va_put (D := D) (ci := 3) (v := .int (nI j)) (ty := .int) (C := RX3) (T := TX3) (N := 13) hx hb hts iwX3_play tyX3 tyX3_ok nmX3 hown hK hP (mw_D hd) hS 0 rfl rfl 12 (by decide) (hts (.fieldLink RX3 38 "LoomPanelModel" "stopped" "I") flX3_play_38) (fun _ h9 => h9) rfl (by decide +kernel) rfl rfl (Nat.le_of_ble_eq_true rfl) dX3_play_122 (fun H locs hP _ hS => ?_)
            have hP : va_P D vwCl (mw cI cJ a (((f_X3_noted ((f_X3_work S (S.sact ((12 * x1) + (nI j)).toNatClampNeg) x3 (S.soth ((12 * x1) + (nI j)).toNatClampNeg) (S.snum ((12 * x1) + (nI j)).toNatClampNeg)).2) ((f_X3_work S (S.sact ((12 * x1) + (nI j)).toNatClampNeg) x3 (S.soth ((12 * x1) + (nI j)).toNatClampNeg) (S.snum ((12 * x1) + (nI j)).toNatClampNeg)).1)).2).set_stop (nI j))) H := by rw [← mw_set_stop]; exact hP
            have hI : MInv (((f_X3_noted ((f_X3_work S (S.sact ((12 * x1) + (nI j)).toNatClampNeg) x3 (S.soth ((12 * x1) + (nI j)).toNatClampNeg) (S.snum ((12 * x1) + (nI j)).toNatClampNeg)).2) ((f_X3_work S (S.sact ((12 * x1) + (nI j)).toNatClampNeg) x3 (S.soth ((12 * x1) + (nI j)).toNatClampNeg) (S.snum ((12 * x1) + (nI j)).toNatClampNeg)).1)).2).set_stop (nI j)) := MInv_set_stop hI
            refine lv_iinc (v := nI (j + 1)) (lv' := [(4, .int (nI (j + 1))), (3, .int ((f_X3_noted ((f_X3_work S (S.sact ((12 * x1) + (nI j)).toNatClampNeg) x3 (S.soth ((12 * x1) + (nI j)).toNatClampNeg) (S.snum ((12 * x1) + (nI j)).toNatClampNeg)).2) ((f_X3_work S (S.sact ((12 * x1) + (nI j)).toNatClampNeg) x3 (S.soth ((12 * x1) + (nI j)).toNatClampNeg) (S.snum ((12 * x1) + (nI j)).toNatClampNeg)).1)).1)), (6, .int (S.soth ((12 * x1) + (nI j)).toNatClampNeg)), (5, .int ((12 * x1) + (nI j))), (0, .ref (a 0)), (1, .int x1), (2, .int x2)]) hx hb dX3_play_125 hl (k := 6) rfl (nI_1 _) (by decide) rfl (fun ls hl => ?_)
            refine lv_goto (tgt := 30) hx hb dX3_play_128 (by decide) ?_
            exact ih (((f_X3_noted ((f_X3_work S (S.sact ((12 * x1) + (nI j)).toNatClampNeg) x3 (S.soth ((12 * x1) + (nI j)).toNatClampNeg) (S.snum ((12 * x1) + (nI j)).toNatClampNeg)).2) ((f_X3_work S (S.sact ((12 * x1) + (nI j)).toNatClampNeg) x3 (S.soth ((12 * x1) + (nI j)).toNatClampNeg) (S.snum ((12 * x1) + (nI j)).toNatClampNeg)).1)).2).set_stop (nI j)) x1 x2 ((f_X3_noted ((f_X3_work S (S.sact ((12 * x1) + (nI j)).toNatClampNeg) x3 (S.soth ((12 * x1) + (nI j)).toNatClampNeg) (S.snum ((12 * x1) + (nI j)).toNatClampNeg)).2) ((f_X3_work S (S.sact ((12 * x1) + (nI j)).toNatClampNeg) x3 (S.soth ((12 * x1) + (nI j)).toNatClampNeg) (S.snum ((12 * x1) + (nI j)).toNatClampNeg)).1)).1) (j + 1) hp h2 hb3 hj12 (by omega) _ _ _ hP hI hS (lv_sub hl [4, 5, 6, 1, 0] rfl) (hq.trans (by simp only [f_X3_play_c30, if_neg c_38, if_pos c_46, if_neg c_67, if_neg c_113]))
        · skip
          have hyy := h2
          refine lv_iload_n hx hb dX3_play_70 rfl (lv_at hl 3 rfl) ?_
          refine lv_goto (tgt := 81) hx hb dX3_play_71 (by decide) ?_
          refine lv_istore (lv' := [(6, .int x2), (5, .int ((12 * x1) + (nI j))), (0, .ref (a 0)), (1, .int x1), (2, .int x2), (3, .int x3), (4, .int (nI j))]) hx hb dX3_play_81 hl (by decide) rfl (fun ls hl => ?_)
          have hwk := work_nv (a := S.sact ((12 * x1) + nI j).toNatClampNeg) (k := S.snum ((12 * x1) + nI j).toNatClampNeg) hI (hI.2.2.2.2.2 _) (h3 c_46) hyy
          refine lv_aload_n hx hb dX3_play_83 rfl (lv_at hl 2 rfl) ?_
          refine lv_aload_n hx hb dX3_play_84 rfl (lv_at hl 2 rfl) ?_
          refine lv_aload_n hx hb dX3_play_85 rfl (lv_at hl 2 rfl) ?_
          refine va_get (D := D) (ci := 3) (v := .ref (a 7)) (C := RX3) (T := TX3) (N := 13) hx hb hts iwX3_play hown hK hP 0 rfl rfl 7 (by decide) (hts (.fieldLink RX3 29 "LoomPanelModel" "stepAct" "[I") flX3_play_29) (fun _ h9 => h9) rfl dX3_play_86 ?_
          refine lv_iload hx hb dX3_play_89 (lv_at hl 1 rfl) ?_
          refine va_iald hx hb hK hP 7 0 (f := S.sact) rfl rfl (ix12' hp (jin (jl12 c_38 (hI.2.2.2.1 _).2 hj) (by decide))) dX3_play_91 ?_
          refine lv_iload_n hx hb dX3_play_92 rfl (lv_at hl 5 rfl) ?_
          refine lv_iload hx hb dX3_play_93 (lv_at hl 0 rfl) ?_
          refine lv_aload_n hx hb dX3_play_95 rfl (lv_at hl 2 rfl) ?_
          refine va_get (D := D) (ci := 3) (v := .ref (a 9)) (C := RX3) (T := TX3) (N := 13) hx hb hts iwX3_play hown hK hP 0 rfl rfl 9 (by decide) (hts (.fieldLink RX3 35 "LoomPanelModel" "stepNumber" "[I") flX3_play_35) (fun _ h9 => h9) rfl dX3_play_96 ?_
          refine lv_iload hx hb dX3_play_99 (lv_at hl 1 rfl) ?_
          refine va_iald hx hb hK hP 9 0 (f := S.snum) rfl rfl (ix12' hp (jin (jl12 c_38 (hI.2.2.2.1 _).2 hj) (by decide))) dX3_play_101 ?_
          refine g_Wi (As := [.int (S.sact ((12 * x1) + (nI j)).toNatClampNeg), .int x3, .int x2, .int (S.snum ((12 * x1) + (nI j)).toNatClampNeg)]) (rest := [.ref (a 0)]) ⟨hx, hb, hml, hown, hts⟩ (c_X3_work l D cI cJ a hd S (S.sact ((12 * x1) + (nI j)).toNatClampNeg) x3 x2 (S.snum ((12 * x1) + (nI j)).toNatClampNeg) (hI.2.2.2.2.2 _) (h3 c_46) hyy) (cwV 4 hts gX3_play_X3_work rfl rfl rfl eeX3_work ⟨Nat.le_of_ble_eq_true rfl, Nat.le_of_ble_eq_true rfl⟩) hK hN hP hI (va_recv hK hP (ci := 3) (q0 := 0) rfl rfl) hS rfl hl.1 rfl (Nat.le_of_ble_eq_true rfl) dX3_play_102 ⟨Nat.zero_le _, Nat.zero_le _⟩ (fun H locs hI hP hS => ?_)
          refine g_Wi (As := [.int ((f_X3_work S (S.sact ((12 * x1) + (nI j)).toNatClampNeg) x3 x2 (S.snum ((12 * x1) + (nI j)).toNatClampNeg)).1)]) (rest := []) ⟨hx, hb, hml, hown, hts⟩ (c_X3_noted l D cI cJ a hd ((f_X3_work S (S.sact ((12 * x1) + (nI j)).toNatClampNeg) x3 x2 (S.snum ((12 * x1) + (nI j)).toNatClampNeg)).2) ((f_X3_work S (S.sact ((12 * x1) + (nI j)).toNatClampNeg) x3 x2 (S.snum ((12 * x1) + (nI j)).toNatClampNeg)).1) ) (cwV 1 hts gX3_play_X3_noted rfl rfl rfl eeX3_noted ⟨Nat.le_of_ble_eq_true rfl, Nat.le_of_ble_eq_true rfl⟩) hK hN hP hI (va_recv hK hP (ci := 3) (q0 := 0) rfl rfl) hS rfl hl.1 rfl (Nat.le_of_ble_eq_true rfl) dX3_play_105 ⟨Nat.zero_le _, Nat.zero_le _⟩ (fun H locs hI hP hS => ?_)
          refine lv_istore_n (lv' := [(3, .int ((f_X3_noted ((f_X3_work S (S.sact ((12 * x1) + (nI j)).toNatClampNeg) x3 x2 (S.snum ((12 * x1) + (nI j)).toNatClampNeg)).2) ((f_X3_work S (S.sact ((12 * x1) + (nI j)).toNatClampNeg) x3 x2 (S.snum ((12 * x1) + (nI j)).toNatClampNeg)).1)).1)), (6, .int x2), (5, .int ((12 * x1) + (nI j))), (0, .ref (a 0)), (1, .int x1), (2, .int x2), (4, .int (nI j))]) hx hb dX3_play_108 rfl hl (by decide) rfl (fun ls hl => ?_)
          refine lv_aload_n hx hb dX3_play_109 rfl (lv_at hl 3 rfl) ?_
          refine lv_iload_n hx hb dX3_play_110 rfl (lv_at hl 0 rfl) ?_
          refine lv_bipush (v := (-10)) hx hb dX3_play_111 (by decide) ?_
          refine lv_icmp_ge (tgt := 121) hx hb dX3_play_113 (by decide) (fun c_113 => ?_) (fun c_113 => ?_)
          · skip
            have hnv := noted_nv hwk c_113
            have hb3 := fun {Sx : MS} (_ : (Sx.set_stop (-1)).stop = -1) => hnv
            refine lv_iconst (v := (-1)) hx hb dX3_play_121 (by decide) ?_
            refine va_put (D := D) (ci := 3) (v := .int (-1)) (ty := .int) (C := RX3) (T := TX3) (N := 13) hx hb hts iwX3_play tyX3 tyX3_ok nmX3 hown hK hP (mw_D hd) hS 0 rfl rfl 12 (by decide) (hts (.fieldLink RX3 38 "LoomPanelModel" "stopped" "I") flX3_play_38) (fun _ h9 => h9) rfl (by decide +kernel) rfl rfl (Nat.le_of_ble_eq_true rfl) dX3_play_122 (fun H locs hP _ hS => ?_)
            have hP : va_P D vwCl (mw cI cJ a (((f_X3_noted ((f_X3_work S (S.sact ((12 * x1) + (nI j)).toNatClampNeg) x3 x2 (S.snum ((12 * x1) + (nI j)).toNatClampNeg)).2) ((f_X3_work S (S.sact ((12 * x1) + (nI j)).toNatClampNeg) x3 x2 (S.snum ((12 * x1) + (nI j)).toNatClampNeg)).1)).2).set_stop (-1))) H := by rw [← mw_set_stop]; exact hP
            have hI : MInv (((f_X3_noted ((f_X3_work S (S.sact ((12 * x1) + (nI j)).toNatClampNeg) x3 x2 (S.snum ((12 * x1) + (nI j)).toNatClampNeg)).2) ((f_X3_work S (S.sact ((12 * x1) + (nI j)).toNatClampNeg) x3 x2 (S.snum ((12 * x1) + (nI j)).toNatClampNeg)).1)).2).set_stop (-1)) := MInv_set_stop hI
            refine lv_iinc (v := nI (j + 1)) (lv' := [(4, .int (nI (j + 1))), (3, .int ((f_X3_noted ((f_X3_work S (S.sact ((12 * x1) + (nI j)).toNatClampNeg) x3 x2 (S.snum ((12 * x1) + (nI j)).toNatClampNeg)).2) ((f_X3_work S (S.sact ((12 * x1) + (nI j)).toNatClampNeg) x3 x2 (S.snum ((12 * x1) + (nI j)).toNatClampNeg)).1)).1)), (6, .int x2), (5, .int ((12 * x1) + (nI j))), (0, .ref (a 0)), (1, .int x1), (2, .int x2)]) hx hb dX3_play_125 hl (k := 6) rfl (nI_1 _) (by decide) rfl (fun ls hl => ?_)
            refine lv_goto (tgt := 30) hx hb dX3_play_128 (by decide) ?_
            exact ih (((f_X3_noted ((f_X3_work S (S.sact ((12 * x1) + (nI j)).toNatClampNeg) x3 x2 (S.snum ((12 * x1) + (nI j)).toNatClampNeg)).2) ((f_X3_work S (S.sact ((12 * x1) + (nI j)).toNatClampNeg) x3 x2 (S.snum ((12 * x1) + (nI j)).toNatClampNeg)).1)).2).set_stop (-1)) x1 x2 ((f_X3_noted ((f_X3_work S (S.sact ((12 * x1) + (nI j)).toNatClampNeg) x3 x2 (S.snum ((12 * x1) + (nI j)).toNatClampNeg)).2) ((f_X3_work S (S.sact ((12 * x1) + (nI j)).toNatClampNeg) x3 x2 (S.snum ((12 * x1) + (nI j)).toNatClampNeg)).1)).1) (j + 1) hp h2 hb3 hj12 (by omega) _ _ _ hP hI hS (lv_sub hl [4, 5, 6, 1, 0] rfl) (hq.trans (by simp only [f_X3_play_c30, if_neg c_38, if_pos c_46, if_pos c_67, if_pos c_113]))
          · skip
            have hb3 : ∀ {Sx : MS} {r : Int32}, (Sx.set_stop (nI j)).stop = -1 → NV r := fun h => absurd h (nI_m1 hj12)
            refine lv_iload hx hb dX3_play_116 (lv_at hl 6 rfl) ?_
            refine lv_goto (tgt := 122) hx hb dX3_play_118 (by decide) ?_
            refine va_put (D := D) (ci := 3) (v := .int (nI j)) (ty := .int) (C := RX3) (T := TX3) (N := 13) hx hb hts iwX3_play tyX3 tyX3_ok nmX3 hown hK hP (mw_D hd) hS 0 rfl rfl 12 (by decide) (hts (.fieldLink RX3 38 "LoomPanelModel" "stopped" "I") flX3_play_38) (fun _ h9 => h9) rfl (by decide +kernel) rfl rfl (Nat.le_of_ble_eq_true rfl) dX3_play_122 (fun H locs hP _ hS => ?_)
            have hP : va_P D vwCl (mw cI cJ a (((f_X3_noted ((f_X3_work S (S.sact ((12 * x1) + (nI j)).toNatClampNeg) x3 x2 (S.snum ((12 * x1) + (nI j)).toNatClampNeg)).2) ((f_X3_work S (S.sact ((12 * x1) + (nI j)).toNatClampNeg) x3 x2 (S.snum ((12 * x1) + (nI j)).toNatClampNeg)).1)).2).set_stop (nI j))) H := by rw [← mw_set_stop]; exact hP
            have hI : MInv (((f_X3_noted ((f_X3_work S (S.sact ((12 * x1) + (nI j)).toNatClampNeg) x3 x2 (S.snum ((12 * x1) + (nI j)).toNatClampNeg)).2) ((f_X3_work S (S.sact ((12 * x1) + (nI j)).toNatClampNeg) x3 x2 (S.snum ((12 * x1) + (nI j)).toNatClampNeg)).1)).2).set_stop (nI j)) := MInv_set_stop hI
            refine lv_iinc (v := nI (j + 1)) (lv' := [(4, .int (nI (j + 1))), (3, .int ((f_X3_noted ((f_X3_work S (S.sact ((12 * x1) + (nI j)).toNatClampNeg) x3 x2 (S.snum ((12 * x1) + (nI j)).toNatClampNeg)).2) ((f_X3_work S (S.sact ((12 * x1) + (nI j)).toNatClampNeg) x3 x2 (S.snum ((12 * x1) + (nI j)).toNatClampNeg)).1)).1)), (6, .int x2), (5, .int ((12 * x1) + (nI j))), (0, .ref (a 0)), (1, .int x1), (2, .int x2)]) hx hb dX3_play_125 hl (k := 6) rfl (nI_1 _) (by decide) rfl (fun ls hl => ?_)
            refine lv_goto (tgt := 30) hx hb dX3_play_128 (by decide) ?_
            exact ih (((f_X3_noted ((f_X3_work S (S.sact ((12 * x1) + (nI j)).toNatClampNeg) x3 x2 (S.snum ((12 * x1) + (nI j)).toNatClampNeg)).2) ((f_X3_work S (S.sact ((12 * x1) + (nI j)).toNatClampNeg) x3 x2 (S.snum ((12 * x1) + (nI j)).toNatClampNeg)).1)).2).set_stop (nI j)) x1 x2 ((f_X3_noted ((f_X3_work S (S.sact ((12 * x1) + (nI j)).toNatClampNeg) x3 x2 (S.snum ((12 * x1) + (nI j)).toNatClampNeg)).2) ((f_X3_work S (S.sact ((12 * x1) + (nI j)).toNatClampNeg) x3 x2 (S.snum ((12 * x1) + (nI j)).toNatClampNeg)).1)).1) (j + 1) hp h2 hb3 hj12 (by omega) _ _ _ hP hI hS (lv_sub hl [4, 5, 6, 1, 0] rfl) (hq.trans (by simp only [f_X3_play_c30, if_neg c_38, if_pos c_46, if_pos c_67, if_neg c_113]))
def f_X3_play (S : MS) (x1 : Int32) (x2 : Int32) : Int32 × MS := if (f_X3_isIn x1 0 5) = 0 then (((-3), S)) else (if (f_X3_mayBe S x2) = 0 then (((-3), S)) else (f_X3_play_c30 13 (S.set_stop (-1)) x1 x2 x2 0))
set_option maxHeartbeats 4000000 in
set_option maxRecDepth 100000 in
theorem c_X3_play (l : Launch) (D : va_G) (cI cJ : ClassId) (a : Nat → Nat) (hd : ∀ i j, i < 10 → j < 10 → a i = a j → i = j) (S : MS) (x1 : Int32) (x2 : Int32) : GWi l yX3_play wsX3_play rmX3_play [.ref (a 0), .int x1, .int x2] D (mw_tys cI cJ) (mw cI cJ a) MInv (mA a) S (f_X3_play S x1 x2) := by
  refine GB_of (cc := cX3_play) (maxL := 7) (ret := (some .int)) (by decide) rfl (Nat.le_of_ble_eq_true rfl) ?_
  intro p e s m below meth c C hP hI ls hl
  obtain ⟨hx, hb, hr, hlocks, hml, hown, hts, hK, hN⟩ := id C
  have hS : va_S (mA a) s.heap s.heap [] := va_S.rf
  have hl : lv_has ls 7 [(0, .ref (a 0)), (1, .int x1), (2, .int x2)] := hl
  refine lv_iload_n hx hb dX3_play_0 rfl (lv_at hl 1 rfl) ?_
  refine lv_iconst (v := 0) hx hb dX3_play_1 (by decide) ?_
  refine lv_iconst (v := 5) hx hb dX3_play_2 (by decide) ?_
  refine g_Si (As := [.int x1, .int 0, .int 5]) (rest := []) ⟨hx, hb, hml, hown, hts⟩ (c_X3_isIn l x1 0 5) (va_cwS 3 hts gX3_play_X3_isIn rfl rfl rfl esX3_isIn ⟨Nat.le_of_ble_eq_true rfl, Nat.le_of_ble_eq_true rfl⟩) hP hS rfl hl.1 rfl (Nat.le_of_ble_eq_true rfl) dX3_play_3 ⟨Nat.zero_le _, Nat.zero_le _⟩ (fun H locs hP hS => ?_)
  refine lv_if_eq (tgt := 17) hx hb dX3_play_6 (by decide) (fun c_6 => ?_) (fun c_6 => ?_)
  · skip
    refine lv_bipush (v := (-3)) hx hb dX3_play_17 (by decide) ?_
    exact r_Wi hx hb hr hlocks hP hI hS (by simp only [f_X3_play, if_pos c_6]) dX3_play_19
  · skip
    refine lv_aload_n hx hb dX3_play_9 rfl (lv_at hl 0 rfl) ?_
    refine lv_iload_n hx hb dX3_play_10 rfl (lv_at hl 2 rfl) ?_
    refine g_Ri (As := [.int x2]) (rest := []) ⟨hx, hb, hml, hown, hts⟩ (c_X3_mayBe l D cI cJ a hd S x2 ) (cwV 1 hts gX3_play_X3_mayBe rfl rfl rfl eeX3_mayBe ⟨Nat.le_of_ble_eq_true rfl, Nat.le_of_ble_eq_true rfl⟩) hK hN hP hI (va_recv hK hP (ci := 3) (q0 := 0) rfl rfl) hS rfl hl.1 rfl (Nat.le_of_ble_eq_true rfl) dX3_play_11 ⟨Nat.zero_le _, Nat.zero_le _⟩ (fun H locs hP hS => ?_)
    refine lv_if_ne (tgt := 20) hx hb dX3_play_14 (by decide) (fun c_14 => ?_) (fun c_14 => ?_)
    · skip
      refine lv_aload_n hx hb dX3_play_20 rfl (lv_at hl 0 rfl) ?_
      refine lv_iconst (v := (-1)) hx hb dX3_play_21 (by decide) ?_
      refine va_put (D := D) (ci := 3) (v := .int (-1)) (ty := .int) (C := RX3) (T := TX3) (N := 13) hx hb hts iwX3_play tyX3 tyX3_ok nmX3 hown hK hP (mw_D hd) hS 0 rfl rfl 12 (by decide) (hts (.fieldLink RX3 38 "LoomPanelModel" "stopped" "I") flX3_play_38) (fun _ h9 => h9) rfl (by decide +kernel) rfl rfl (Nat.le_of_ble_eq_true rfl) dX3_play_22 (fun H locs hP _ hS => ?_)
      have hP : va_P D vwCl (mw cI cJ a (S.set_stop (-1))) H := by rw [← mw_set_stop]; exact hP
      have hI : MInv (S.set_stop (-1)) := MInv_set_stop hI
      refine lv_iload_n hx hb dX3_play_25 rfl (lv_at hl 2 rfl) ?_
      refine lv_istore_n (lv' := [(3, .int x2), (0, .ref (a 0)), (1, .int x1), (2, .int x2)]) hx hb dX3_play_26 rfl hl (by decide) rfl (fun ls hl => ?_)
      refine lv_iconst (v := 0) hx hb dX3_play_27 (by decide) ?_
      refine lv_istore (lv' := [(4, .int 0), (3, .int x2), (0, .ref (a 0)), (1, .int x1), (2, .int x2)]) hx hb dX3_play_28 hl (by decide) rfl (fun ls hl => ?_)
      exact w_X3_play_c30 hd C 13 (S.set_stop (-1)) x1 x2 x2 0 (isIn5 c_6) (mayBe_in hI c_14) (fun _ => mayBe_in hI c_14) (Nat.zero_le _) rfl _ _ _ hP hI hS (lv_sub hl [2, 3, 4, 1, 0] rfl) (by simp only [f_X3_play, if_neg c_6, if_neg c_14])
    · skip
      refine lv_bipush (v := (-3)) hx hb dX3_play_17 (by decide) ?_
      exact r_Wi hx hb hr hlocks hP hI hS (by simp only [f_X3_play, if_neg c_6, if_pos c_14]) dX3_play_19
abbrev rmX3_stopped : Room := { frames := 0, cells := 0, slots := 0, locals := 0 }
theorem eeX3_stopped : yX3_stopped.cls = RX3 ∧ yX3_stopped.cls ≠ "java/lang/invoke/MethodHandle" ∧ yX3_stopped.cls ≠ "java/lang/invoke/VarHandle" ∧ (parseMethodDescriptor yX3_stopped.desc).map (fun d => d.parameters.length) = some 0 := by decide +kernel
theorem iwX3_stopped : ∀ w ∈ u_ws RX3 TX3 13, w ∈ wsX3_stopped := by decide +kernel
theorem flX3_stopped_38 : Cond.fieldLink RX3 38 "LoomPanelModel" "stopped" "I" ∈ wsX3_stopped := by decide +kernel
def f_X3_stopped (S : MS)  : Int32 := S.stop
set_option maxHeartbeats 4000000 in
set_option maxRecDepth 100000 in
theorem c_X3_stopped (l : Launch) (D : va_G) (cI cJ : ClassId) (a : Nat → Nat) (hd : ∀ i j, i < 10 → j < 10 → a i = a j → i = j) (S : MS)  : GRi l yX3_stopped wsX3_stopped rmX3_stopped [.ref (a 0)] D (mw_tys cI cJ) (mw cI cJ a) MInv (mA a) S (f_X3_stopped S ) := by
  refine GB_of (cc := cX3_stopped) (maxL := 1) (ret := (some .int)) (by decide) rfl (Nat.le_of_ble_eq_true rfl) ?_
  intro p e s m below meth c C hP hI ls hl
  obtain ⟨hx, hb, hr, hlocks, hml, hown, hts, hK, hN⟩ := id C
  have hS : va_S (mA a) s.heap s.heap [] := va_S.rf
  have hl : lv_has ls 1 [(0, .ref (a 0))] := hl
  refine lv_aload_n hx hb dX3_stopped_0 rfl (lv_at hl 0 rfl) ?_
  refine va_get (D := D) (ci := 3) (v := .int S.stop) (C := RX3) (T := TX3) (N := 13) hx hb hts iwX3_stopped hown hK hP 0 rfl rfl 12 (by decide) (hts (.fieldLink RX3 38 "LoomPanelModel" "stopped" "I") flX3_stopped_38) (fun _ h9 => h9) rfl dX3_stopped_1 ?_
  exact r_Ri hx hb hr hlocks hP hI hS (by simp only [f_X3_stopped]) dX3_stopped_4
abbrev rmX3_empty : Room := { frames := 1, cells := 0, slots := 0, locals := 22 }
theorem eeX3_empty : yX3_empty.cls = RX3 ∧ yX3_empty.cls ≠ "java/lang/invoke/MethodHandle" ∧ yX3_empty.cls ≠ "java/lang/invoke/VarHandle" ∧ (parseMethodDescriptor yX3_empty.desc).map (fun d => d.parameters.length) = some 1 := by decide +kernel
theorem iwX3_empty : ∀ w ∈ u_ws RX3 TX3 13, w ∈ wsX3_empty := by decide +kernel
theorem flX3_empty_26 : Cond.fieldLink RX3 26 "LoomPanelModel" "steps" "[I" ∈ wsX3_empty := by decide +kernel
def f_X3_empty (S : MS) (x1 : Int32) : Int32 × MS := if (f_X3_isIn x1 0 5) = 0 then (((-3), S)) else ((S.steps x1.toNatClampNeg, S.set_steps (upd S.steps x1.toNatClampNeg 0)))
set_option maxHeartbeats 4000000 in
set_option maxRecDepth 100000 in
theorem c_X3_empty (l : Launch) (D : va_G) (cI cJ : ClassId) (a : Nat → Nat) (hd : ∀ i j, i < 10 → j < 10 → a i = a j → i = j) (S : MS) (x1 : Int32) : GWi l yX3_empty wsX3_empty rmX3_empty [.ref (a 0), .int x1] D (mw_tys cI cJ) (mw cI cJ a) MInv (mA a) S (f_X3_empty S x1) := by
  refine GB_of (cc := cX3_empty) (maxL := 3) (ret := (some .int)) (by decide) rfl (Nat.le_of_ble_eq_true rfl) ?_
  intro p e s m below meth c C hP hI ls hl
  obtain ⟨hx, hb, hr, hlocks, hml, hown, hts, hK, hN⟩ := id C
  have hS : va_S (mA a) s.heap s.heap [] := va_S.rf
  have hl : lv_has ls 3 [(0, .ref (a 0)), (1, .int x1)] := hl
  refine lv_iload_n hx hb dX3_empty_0 rfl (lv_at hl 1 rfl) ?_
  refine lv_iconst (v := 0) hx hb dX3_empty_1 (by decide) ?_
  refine lv_iconst (v := 5) hx hb dX3_empty_2 (by decide) ?_
  refine g_Si (As := [.int x1, .int 0, .int 5]) (rest := []) ⟨hx, hb, hml, hown, hts⟩ (c_X3_isIn l x1 0 5) (va_cwS 3 hts gX3_empty_X3_isIn rfl rfl rfl esX3_isIn ⟨Nat.le_of_ble_eq_true rfl, Nat.le_of_ble_eq_true rfl⟩) hP hS rfl hl.1 rfl (Nat.le_of_ble_eq_true rfl) dX3_empty_3 ⟨Nat.zero_le _, Nat.zero_le _⟩ (fun H locs hP hS => ?_)
  refine lv_if_ne (tgt := 12) hx hb dX3_empty_6 (by decide) (fun c_6 => ?_) (fun c_6 => ?_)
  · skip
    refine lv_aload_n hx hb dX3_empty_12 rfl (lv_at hl 0 rfl) ?_
    refine va_get (D := D) (ci := 3) (v := .ref (a 6)) (C := RX3) (T := TX3) (N := 13) hx hb hts iwX3_empty hown hK hP 0 rfl rfl 6 (by decide) (hts (.fieldLink RX3 26 "LoomPanelModel" "steps" "[I") flX3_empty_26) (fun _ h9 => h9) rfl dX3_empty_13 ?_
    refine lv_iload_n hx hb dX3_empty_16 rfl (lv_at hl 1 rfl) ?_
    refine va_iald hx hb hK hP 6 0 (f := S.steps) rfl rfl (isIn5 c_6) dX3_empty_17 ?_
    refine lv_istore_n (lv' := [(2, .int (S.steps x1.toNatClampNeg)), (0, .ref (a 0)), (1, .int x1)]) hx hb dX3_empty_18 rfl hl (by decide) rfl (fun ls hl => ?_)
    refine lv_aload_n hx hb dX3_empty_19 rfl (lv_at hl 1 rfl) ?_
    refine va_get (D := D) (ci := 3) (v := .ref (a 6)) (C := RX3) (T := TX3) (N := 13) hx hb hts iwX3_empty hown hK hP 0 rfl rfl 6 (by decide) (hts (.fieldLink RX3 26 "LoomPanelModel" "steps" "[I") flX3_empty_26) (fun _ h9 => h9) rfl dX3_empty_20 ?_
    refine lv_iload_n hx hb dX3_empty_23 rfl (lv_at hl 2 rfl) ?_
    refine lv_iconst (v := 0) hx hb dX3_empty_24 (by decide) ?_
    refine va_iast hx hb hK hP (mw_D hd) hS 6 0 (f := S.steps) rfl rfl (isIn5 c_6) dX3_empty_25 (fun H locs hP _ hS => ?_)
    have hP : va_P D vwCl (mw cI cJ a (S.set_steps (upd S.steps x1.toNatClampNeg 0))) H := by rw [← mw_set_steps]; exact hP
    have hI : MInv (S.set_steps (upd S.steps x1.toNatClampNeg 0)) := steps_set hI (by decide)
    refine lv_iload_n hx hb dX3_empty_26 rfl (lv_at hl 0 rfl) ?_
    exact r_Wi hx hb hr hlocks hP hI hS (by simp only [f_X3_empty, if_neg c_6]) dX3_empty_27
  · skip
    refine lv_bipush (v := (-3)) hx hb dX3_empty_9 (by decide) ?_
    exact r_Wi hx hb hr hlocks hP hI hS (by simp only [f_X3_empty, if_pos c_6]) dX3_empty_11
abbrev rmX3_is : Room := { frames := 2, cells := 0, slots := 0, locals := 43 }
theorem eeX3_is : yX3_is.cls = RX3 ∧ yX3_is.cls ≠ "java/lang/invoke/MethodHandle" ∧ yX3_is.cls ≠ "java/lang/invoke/VarHandle" ∧ (parseMethodDescriptor yX3_is.desc).map (fun d => d.parameters.length) = some 2 := by decide +kernel
def f_X3_is (S : MS) (x1 : Int32) (x2 : Int32) : Int32 := if (f_X3_isValue S x1) = 0 then ((-3)) else (if (f_X3_isIn x2 0 11) = 0 then ((-3)) else (if (f_X3_isOf S x1 x2) = 0 then (0) else (1)))
set_option maxHeartbeats 4000000 in
set_option maxRecDepth 100000 in
theorem c_X3_is (l : Launch) (D : va_G) (cI cJ : ClassId) (a : Nat → Nat) (hd : ∀ i j, i < 10 → j < 10 → a i = a j → i = j) (S : MS) (x1 : Int32) (x2 : Int32) : GRi l yX3_is wsX3_is rmX3_is [.ref (a 0), .int x1, .int x2] D (mw_tys cI cJ) (mw cI cJ a) MInv (mA a) S (f_X3_is S x1 x2) := by
  refine GB_of (cc := cX3_is) (maxL := 3) (ret := (some .int)) (by decide) rfl (Nat.le_of_ble_eq_true rfl) ?_
  intro p e s m below meth c C hP hI ls hl
  obtain ⟨hx, hb, hr, hlocks, hml, hown, hts, hK, hN⟩ := id C
  have hS : va_S (mA a) s.heap s.heap [] := va_S.rf
  have hl : lv_has ls 3 [(0, .ref (a 0)), (1, .int x1), (2, .int x2)] := hl
  refine lv_aload_n hx hb dX3_is_0 rfl (lv_at hl 0 rfl) ?_
  refine lv_iload_n hx hb dX3_is_1 rfl (lv_at hl 1 rfl) ?_
  refine g_Ri (As := [.int x1]) (rest := []) ⟨hx, hb, hml, hown, hts⟩ (c_X3_isValue l D cI cJ a hd S x1 ) (cwV 1 hts gX3_is_X3_isValue rfl rfl rfl eeX3_isValue ⟨Nat.le_of_ble_eq_true rfl, Nat.le_of_ble_eq_true rfl⟩) hK hN hP hI (va_recv hK hP (ci := 3) (q0 := 0) rfl rfl) hS rfl hl.1 rfl (Nat.le_of_ble_eq_true rfl) dX3_is_2 ⟨Nat.zero_le _, Nat.zero_le _⟩ (fun H locs hP hS => ?_)
  refine lv_if_eq (tgt := 18) hx hb dX3_is_5 (by decide) (fun c_5 => ?_) (fun c_5 => ?_)
  · skip
    refine lv_bipush (v := (-3)) hx hb dX3_is_18 (by decide) ?_
    exact r_Ri hx hb hr hlocks hP hI hS (by simp only [f_X3_is, if_pos c_5]) dX3_is_20
  · skip
    refine lv_iload_n hx hb dX3_is_8 rfl (lv_at hl 2 rfl) ?_
    refine lv_iconst (v := 0) hx hb dX3_is_9 (by decide) ?_
    refine lv_bipush (v := 11) hx hb dX3_is_10 (by decide) ?_
    refine g_Si (As := [.int x2, .int 0, .int 11]) (rest := []) ⟨hx, hb, hml, hown, hts⟩ (c_X3_isIn l x2 0 11) (va_cwS 3 hts gX3_is_X3_isIn rfl rfl rfl esX3_isIn ⟨Nat.le_of_ble_eq_true rfl, Nat.le_of_ble_eq_true rfl⟩) hP hS rfl hl.1 rfl (Nat.le_of_ble_eq_true rfl) dX3_is_12 ⟨Nat.zero_le _, Nat.zero_le _⟩ (fun H locs hP hS => ?_)
    refine lv_if_ne (tgt := 21) hx hb dX3_is_15 (by decide) (fun c_15 => ?_) (fun c_15 => ?_)
    · skip
      refine lv_aload_n hx hb dX3_is_21 rfl (lv_at hl 0 rfl) ?_
      refine lv_iload_n hx hb dX3_is_22 rfl (lv_at hl 1 rfl) ?_
      refine lv_iload_n hx hb dX3_is_23 rfl (lv_at hl 2 rfl) ?_
      refine g_Ri (As := [.int x1, .int x2]) (rest := []) ⟨hx, hb, hml, hown, hts⟩ (c_X3_isOf l D cI cJ a hd S x1 x2 ((isValue_in hI c_5).2.1)) (cwV 2 hts gX3_is_X3_isOf rfl rfl rfl eeX3_isOf ⟨Nat.le_of_ble_eq_true rfl, Nat.le_of_ble_eq_true rfl⟩) hK hN hP hI (va_recv hK hP (ci := 3) (q0 := 0) rfl rfl) hS rfl hl.1 rfl (Nat.le_of_ble_eq_true rfl) dX3_is_24 ⟨Nat.zero_le _, Nat.zero_le _⟩ (fun H locs hP hS => ?_)
      refine lv_if_eq (tgt := 34) hx hb dX3_is_27 (by decide) (fun c_27 => ?_) (fun c_27 => ?_)
      · skip
        refine lv_iconst (v := 0) hx hb dX3_is_34 (by decide) ?_
        exact r_Ri hx hb hr hlocks hP hI hS (by simp only [f_X3_is, if_neg c_5, if_neg c_15, if_pos c_27]) dX3_is_35
      · skip
        refine lv_iconst (v := 1) hx hb dX3_is_30 (by decide) ?_
        refine lv_goto (tgt := 35) hx hb dX3_is_31 (by decide) ?_
        exact r_Ri hx hb hr hlocks hP hI hS (by simp only [f_X3_is, if_neg c_5, if_neg c_15, if_neg c_27]) dX3_is_35
    · skip
      refine lv_bipush (v := (-3)) hx hb dX3_is_18 (by decide) ?_
      exact r_Ri hx hb hr hlocks hP hI hS (by simp only [f_X3_is, if_neg c_5, if_pos c_15]) dX3_is_20
theorem jl11 {j : Nat} (c : ¬ (11 : Int32) < nI j) (hj : j ≤ 12) : j + 1 ≤ 12 := by
  have h := nlt c
  rw [nI_toInt (by omega)] at h
  have : (11 : Int32).toInt = 11 := by decide
  omega
abbrev rmX3_views : Room := { frames := 2, cells := 0, slots := 0, locals := 43 }
theorem eeX3_views : yX3_views.cls = RX3 ∧ yX3_views.cls ≠ "java/lang/invoke/MethodHandle" ∧ yX3_views.cls ≠ "java/lang/invoke/VarHandle" ∧ (parseMethodDescriptor yX3_views.desc).map (fun d => d.parameters.length) = some 1 := by decide +kernel
def f_X3_views_c15 : Nat → MS → Int32 → Int32 → Nat → Int32
  | 0, S, _, _, _ => 0
  | n + 1, S, x1, x2, j => if 11 < (nI j) then (x2) else (if (f_X3_isOf S x1 (nI j)) = 0 then (f_X3_views_c15 n S x1 (x2 ||| 0) (j + 1)) else (f_X3_views_c15 n S x1 (x2 ||| (1 <<< ((nI j) &&& 31))) (j + 1)))
set_option maxHeartbeats 4000000 in
set_option maxRecDepth 100000 in
theorem w_X3_views_c15 {l : Launch} {D : va_G} {cI cJ : ClassId} {a : Nat → Nat} (hd : ∀ i j, i < 10 → j < 10 → a i = a j → i = j) {p : Program} {e : Env} {s : State} {m : MethodId} {args : Array Value} {below : List Frame} {meth : Method} {c : Code} (C : GC p s m meth c cX3_views (some .int) 4 RX3 wsX3_views args D (mw_tys cI cJ)) {v : Int32} : ∀ (n : Nat) (S : MS) (x1 : Int32) (x2 : Int32) (j : Nat) (hvx : x1.toInt < 60) (hj : j ≤ 12) (hn : j + n = 13) (H : Heap) (locs : List Loc) (ls : Array Slot), va_P D vwCl (mw cI cJ a S) H → MInv S → va_S (mA a) s.heap H locs → lv_has ls 4 [(0, .ref (a 0)), (1, .int x1), (2, .int x2), (3, .int (nI j))] → v = f_X3_views_c15 n S x1 x2 j → W p l e rmX3_views s m args below meth c H locs 0 0 (MQ below (va_Qi (fun r u => r = v ∧ u = S) (GE D (mw cI cJ a) MInv) (mA a)) args s 0 0 (mA a)) (F0 m 15 ls []) := by
  obtain ⟨hx, hb, hr, hlocks, hml, hown, hts, hK, hN⟩ := id C
  intro n
  induction n with
  | zero =>
    intro S x1 x2 j hvx hj hn H locs ls hP hI hS hl hq
    exact absurd hn (by omega)
  | succ n ih =>
    intro S x1 x2 j hvx hj hn H locs ls hP hI hS hl hq
    refine lv_iload_n hx hb dX3_views_15 rfl (lv_at hl 3 rfl) ?_
    refine lv_bipush (v := 11) hx hb dX3_views_16 (by decide) ?_
    refine lv_icmp_gt (tgt := 46) hx hb dX3_views_18 (by decide) (fun c_18 => ?_) (fun c_18 => ?_)
    · skip
      refine lv_iload_n hx hb dX3_views_46 rfl (lv_at hl 2 rfl) ?_
      exact r_Ri hx hb hr hlocks hP hI hS (hq.trans (by simp only [f_X3_views_c15, if_pos c_18])) dX3_views_47
    · skip
      refine lv_iload_n hx hb dX3_views_21 rfl (lv_at hl 2 rfl) ?_
      refine lv_aload_n hx hb dX3_views_22 rfl (lv_at hl 0 rfl) ?_
      refine lv_iload_n hx hb dX3_views_23 rfl (lv_at hl 1 rfl) ?_
      refine lv_iload_n hx hb dX3_views_24 rfl (lv_at hl 3 rfl) ?_
      refine g_Ri (As := [.int x1, .int (nI j)]) (rest := [.int x2]) ⟨hx, hb, hml, hown, hts⟩ (c_X3_isOf l D cI cJ a hd S x1 (nI j) hvx) (cwV 2 hts gX3_views_X3_isOf rfl rfl rfl eeX3_isOf ⟨Nat.le_of_ble_eq_true rfl, Nat.le_of_ble_eq_true rfl⟩) hK hN hP hI (va_recv hK hP (ci := 3) (q0 := 0) rfl rfl) hS rfl hl.1 rfl (Nat.le_of_ble_eq_true rfl) dX3_views_25 ⟨Nat.zero_le _, Nat.zero_le _⟩ (fun H locs hP hS => ?_)
      refine lv_if_eq (tgt := 37) hx hb dX3_views_28 (by decide) (fun c_28 => ?_) (fun c_28 => ?_)
      · skip
        refine lv_iconst (v := 0) hx hb dX3_views_37 (by decide) ?_
        refine lv_ior hx hb dX3_views_38 ?_
        refine lv_istore_n (lv' := [(2, .int (x2 ||| 0)), (0, .ref (a 0)), (1, .int x1), (3, .int (nI j))]) hx hb dX3_views_39 rfl hl (by decide) rfl (fun ls hl => ?_)
        refine lv_iinc (v := nI (j + 1)) (lv' := [(3, .int (nI (j + 1))), (2, .int (x2 ||| 0)), (0, .ref (a 0)), (1, .int x1)]) hx hb dX3_views_40 hl (k := 3) rfl (nI_1 _) (by decide) rfl (fun ls hl => ?_)
        refine lv_goto (tgt := 15) hx hb dX3_views_43 (by decide) ?_
        exact ih S x1 (x2 ||| 0) (j + 1) hvx (jl11 c_18 hj) (by omega) _ _ _ hP hI hS (lv_sub hl [2, 3, 1, 0] rfl) (hq.trans (by simp only [f_X3_views_c15, if_neg c_18, if_pos c_28]))
      · skip
        refine lv_iconst (v := 1) hx hb dX3_views_31 (by decide) ?_
        refine lv_iload_n hx hb dX3_views_32 rfl (lv_at hl 3 rfl) ?_
        refine lv_ishl hx hb dX3_views_33 ?_
        refine lv_goto (tgt := 38) hx hb dX3_views_34 (by decide) ?_
        refine lv_ior hx hb dX3_views_38 ?_
        refine lv_istore_n (lv' := [(2, .int (x2 ||| (1 <<< ((nI j) &&& 31)))), (0, .ref (a 0)), (1, .int x1), (3, .int (nI j))]) hx hb dX3_views_39 rfl hl (by decide) rfl (fun ls hl => ?_)
        refine lv_iinc (v := nI (j + 1)) (lv' := [(3, .int (nI (j + 1))), (2, .int (x2 ||| (1 <<< ((nI j) &&& 31)))), (0, .ref (a 0)), (1, .int x1)]) hx hb dX3_views_40 hl (k := 3) rfl (nI_1 _) (by decide) rfl (fun ls hl => ?_)
        refine lv_goto (tgt := 15) hx hb dX3_views_43 (by decide) ?_
        exact ih S x1 (x2 ||| (1 <<< ((nI j) &&& 31))) (j + 1) hvx (jl11 c_18 hj) (by omega) _ _ _ hP hI hS (lv_sub hl [2, 3, 1, 0] rfl) (hq.trans (by simp only [f_X3_views_c15, if_neg c_18, if_neg c_28]))
def f_X3_views (S : MS) (x1 : Int32) : Int32 := if (f_X3_isValue S x1) = 0 then ((-3)) else (f_X3_views_c15 13 S x1 0 0)
set_option maxHeartbeats 4000000 in
set_option maxRecDepth 100000 in
theorem c_X3_views (l : Launch) (D : va_G) (cI cJ : ClassId) (a : Nat → Nat) (hd : ∀ i j, i < 10 → j < 10 → a i = a j → i = j) (S : MS) (x1 : Int32) : GRi l yX3_views wsX3_views rmX3_views [.ref (a 0), .int x1] D (mw_tys cI cJ) (mw cI cJ a) MInv (mA a) S (f_X3_views S x1) := by
  refine GB_of (cc := cX3_views) (maxL := 4) (ret := (some .int)) (by decide) rfl (Nat.le_of_ble_eq_true rfl) ?_
  intro p e s m below meth c C hP hI ls hl
  obtain ⟨hx, hb, hr, hlocks, hml, hown, hts, hK, hN⟩ := id C
  have hS : va_S (mA a) s.heap s.heap [] := va_S.rf
  have hl : lv_has ls 4 [(0, .ref (a 0)), (1, .int x1)] := hl
  refine lv_aload_n hx hb dX3_views_0 rfl (lv_at hl 0 rfl) ?_
  refine lv_iload_n hx hb dX3_views_1 rfl (lv_at hl 1 rfl) ?_
  refine g_Ri (As := [.int x1]) (rest := []) ⟨hx, hb, hml, hown, hts⟩ (c_X3_isValue l D cI cJ a hd S x1 ) (cwV 1 hts gX3_views_X3_isValue rfl rfl rfl eeX3_isValue ⟨Nat.le_of_ble_eq_true rfl, Nat.le_of_ble_eq_true rfl⟩) hK hN hP hI (va_recv hK hP (ci := 3) (q0 := 0) rfl rfl) hS rfl hl.1 rfl (Nat.le_of_ble_eq_true rfl) dX3_views_2 ⟨Nat.zero_le _, Nat.zero_le _⟩ (fun H locs hP hS => ?_)
  refine lv_if_ne (tgt := 11) hx hb dX3_views_5 (by decide) (fun c_5 => ?_) (fun c_5 => ?_)
  · skip
    refine lv_iconst (v := 0) hx hb dX3_views_11 (by decide) ?_
    refine lv_istore_n (lv' := [(2, .int 0), (0, .ref (a 0)), (1, .int x1)]) hx hb dX3_views_12 rfl hl (by decide) rfl (fun ls hl => ?_)
    refine lv_iconst (v := 0) hx hb dX3_views_13 (by decide) ?_
    refine lv_istore_n (lv' := [(3, .int 0), (2, .int 0), (0, .ref (a 0)), (1, .int x1)]) hx hb dX3_views_14 rfl hl (by decide) rfl (fun ls hl => ?_)
    exact w_X3_views_c15 hd C 13 S x1 0 0 ((isValue_in hI c_5).2.1) (Nat.zero_le _) rfl _ _ _ hP hI hS (lv_sub hl [2, 3, 1, 0] rfl) (by simp only [f_X3_views, if_neg c_5])
  · skip
    refine lv_bipush (v := (-3)) hx hb dX3_views_8 (by decide) ?_
    exact r_Ri hx hb hr hlocks hP hI hS (by simp only [f_X3_views, if_pos c_5]) dX3_views_10
abbrev rmX3_size : Room := { frames := 2, cells := 0, slots := 0, locals := 43 }
theorem eeX3_size : yX3_size.cls = RX3 ∧ yX3_size.cls ≠ "java/lang/invoke/MethodHandle" ∧ yX3_size.cls ≠ "java/lang/invoke/VarHandle" ∧ (parseMethodDescriptor yX3_size.desc).map (fun d => d.parameters.length) = some 1 := by decide +kernel
theorem iwX3_size : ∀ w ∈ u_ws RX3 TX3 13, w ∈ wsX3_size := by decide +kernel
theorem flX3_size_13 : Cond.fieldLink RX3 13 "LoomPanelModel" "sizes" "[I" ∈ wsX3_size := by decide +kernel
def f_X3_size (S : MS) (x1 : Int32) : Int32 := if (f_X3_isValue S x1) = 0 then ((-3)) else (S.sizes x1.toNatClampNeg)
set_option maxHeartbeats 4000000 in
set_option maxRecDepth 100000 in
theorem c_X3_size (l : Launch) (D : va_G) (cI cJ : ClassId) (a : Nat → Nat) (hd : ∀ i j, i < 10 → j < 10 → a i = a j → i = j) (S : MS) (x1 : Int32) : GRi l yX3_size wsX3_size rmX3_size [.ref (a 0), .int x1] D (mw_tys cI cJ) (mw cI cJ a) MInv (mA a) S (f_X3_size S x1) := by
  refine GB_of (cc := cX3_size) (maxL := 2) (ret := (some .int)) (by decide) rfl (Nat.le_of_ble_eq_true rfl) ?_
  intro p e s m below meth c C hP hI ls hl
  obtain ⟨hx, hb, hr, hlocks, hml, hown, hts, hK, hN⟩ := id C
  have hS : va_S (mA a) s.heap s.heap [] := va_S.rf
  have hl : lv_has ls 2 [(0, .ref (a 0)), (1, .int x1)] := hl
  refine lv_aload_n hx hb dX3_size_0 rfl (lv_at hl 0 rfl) ?_
  refine lv_iload_n hx hb dX3_size_1 rfl (lv_at hl 1 rfl) ?_
  refine g_Ri (As := [.int x1]) (rest := []) ⟨hx, hb, hml, hown, hts⟩ (c_X3_isValue l D cI cJ a hd S x1 ) (cwV 1 hts gX3_size_X3_isValue rfl rfl rfl eeX3_isValue ⟨Nat.le_of_ble_eq_true rfl, Nat.le_of_ble_eq_true rfl⟩) hK hN hP hI (va_recv hK hP (ci := 3) (q0 := 0) rfl rfl) hS rfl hl.1 rfl (Nat.le_of_ble_eq_true rfl) dX3_size_2 ⟨Nat.zero_le _, Nat.zero_le _⟩ (fun H locs hP hS => ?_)
  refine lv_if_eq (tgt := 17) hx hb dX3_size_5 (by decide) (fun c_5 => ?_) (fun c_5 => ?_)
  · skip
    refine lv_bipush (v := (-3)) hx hb dX3_size_17 (by decide) ?_
    exact r_Ri hx hb hr hlocks hP hI hS (by simp only [f_X3_size, if_pos c_5]) dX3_size_19
  · skip
    refine lv_aload_n hx hb dX3_size_8 rfl (lv_at hl 0 rfl) ?_
    refine va_get (D := D) (ci := 3) (v := .ref (a 2)) (C := RX3) (T := TX3) (N := 13) hx hb hts iwX3_size hown hK hP 0 rfl rfl 2 (by decide) (hts (.fieldLink RX3 13 "LoomPanelModel" "sizes" "[I") flX3_size_13) (fun _ h9 => h9) rfl dX3_size_9 ?_
    refine lv_iload_n hx hb dX3_size_12 rfl (lv_at hl 1 rfl) ?_
    refine va_iald hx hb hK hP 2 0 (f := S.sizes) rfl rfl (in2 (isValue_in hI c_5).1 (isValue_in hI c_5).2.1) dX3_size_13 ?_
    refine lv_goto (tgt := 19) hx hb dX3_size_14 (by decide) ?_
    exact r_Ri hx hb hr hlocks hP hI hS (by simp only [f_X3_size, if_neg c_5]) dX3_size_19
abbrev rmX3_count : Room := { frames := 0, cells := 0, slots := 0, locals := 0 }
theorem eeX3_count : yX3_count.cls = RX3 ∧ yX3_count.cls ≠ "java/lang/invoke/MethodHandle" ∧ yX3_count.cls ≠ "java/lang/invoke/VarHandle" ∧ (parseMethodDescriptor yX3_count.desc).map (fun d => d.parameters.length) = some 1 := by decide +kernel
theorem iwX3_count : ∀ w ∈ u_ws RX3 TX3 13, w ∈ wsX3_count := by decide +kernel
theorem flX3_count_119 : Cond.fieldLink RX3 119 "LoomPanelModel" "faults" "I" ∈ wsX3_count := by decide +kernel
theorem flX3_count_122 : Cond.fieldLink RX3 122 "LoomPanelModel" "latest" "I" ∈ wsX3_count := by decide +kernel
theorem flX3_count_42 : Cond.fieldLink RX3 42 "LoomPanelModel" "values" "I" ∈ wsX3_count := by decide +kernel
def f_X3_count (S : MS) (x1 : Int32) : Int32 := if x1 = 0 then (S.vals) else (if x1 = 1 then (S.faults) else (if x1 = 2 then (S.latest) else ((-3))))
set_option maxHeartbeats 4000000 in
set_option maxRecDepth 100000 in
theorem c_X3_count (l : Launch) (D : va_G) (cI cJ : ClassId) (a : Nat → Nat) (hd : ∀ i j, i < 10 → j < 10 → a i = a j → i = j) (S : MS) (x1 : Int32) : GRi l yX3_count wsX3_count rmX3_count [.ref (a 0), .int x1] D (mw_tys cI cJ) (mw cI cJ a) MInv (mA a) S (f_X3_count S x1) := by
  refine GB_of (cc := cX3_count) (maxL := 2) (ret := (some .int)) (by decide) rfl (Nat.le_of_ble_eq_true rfl) ?_
  intro p e s m below meth c C hP hI ls hl
  obtain ⟨hx, hb, hr, hlocks, hml, hown, hts, hK, hN⟩ := id C
  have hS : va_S (mA a) s.heap s.heap [] := va_S.rf
  have hl : lv_has ls 2 [(0, .ref (a 0)), (1, .int x1)] := hl
  refine lv_iload_n hx hb dX3_count_0 rfl (lv_at hl 1 rfl) ?_
  refine lv_if_ne (tgt := 11) hx hb dX3_count_1 (by decide) (fun c_1 => ?_) (fun c_1 => ?_)
  · skip
    refine lv_iload_n hx hb dX3_count_11 rfl (lv_at hl 1 rfl) ?_
    refine lv_iconst (v := 1) hx hb dX3_count_12 (by decide) ?_
    refine lv_icmp_ne (tgt := 23) hx hb dX3_count_13 (by decide) (fun c_13 => ?_) (fun c_13 => ?_)
    · skip
      refine lv_iload_n hx hb dX3_count_23 rfl (lv_at hl 1 rfl) ?_
      refine lv_iconst (v := 2) hx hb dX3_count_24 (by decide) ?_
      refine lv_icmp_ne (tgt := 35) hx hb dX3_count_25 (by decide) (fun c_25 => ?_) (fun c_25 => ?_)
      · skip
        refine lv_bipush (v := (-3)) hx hb dX3_count_35 (by decide) ?_
        exact r_Ri hx hb hr hlocks hP hI hS (by simp only [f_X3_count, if_neg c_1, if_neg c_13, if_neg c_25]) dX3_count_37
      · skip
        refine lv_aload_n hx hb dX3_count_28 rfl (lv_at hl 0 rfl) ?_
        refine va_get (D := D) (ci := 3) (v := .int S.latest) (C := RX3) (T := TX3) (N := 13) hx hb hts iwX3_count hown hK hP 0 rfl rfl 11 (by decide) (hts (.fieldLink RX3 122 "LoomPanelModel" "latest" "I") flX3_count_122) (fun _ h9 => h9) rfl dX3_count_29 ?_
        refine lv_goto (tgt := 37) hx hb dX3_count_32 (by decide) ?_
        exact r_Ri hx hb hr hlocks hP hI hS (by simp only [f_X3_count, if_neg c_1, if_neg c_13, if_pos c_25]) dX3_count_37
    · skip
      refine lv_aload_n hx hb dX3_count_16 rfl (lv_at hl 0 rfl) ?_
      refine va_get (D := D) (ci := 3) (v := .int S.faults) (C := RX3) (T := TX3) (N := 13) hx hb hts iwX3_count hown hK hP 0 rfl rfl 10 (by decide) (hts (.fieldLink RX3 119 "LoomPanelModel" "faults" "I") flX3_count_119) (fun _ h9 => h9) rfl dX3_count_17 ?_
      refine lv_goto (tgt := 37) hx hb dX3_count_20 (by decide) ?_
      exact r_Ri hx hb hr hlocks hP hI hS (by simp only [f_X3_count, if_neg c_1, if_pos c_13]) dX3_count_37
  · skip
    refine lv_aload_n hx hb dX3_count_4 rfl (lv_at hl 0 rfl) ?_
    refine va_get (D := D) (ci := 3) (v := .int S.vals) (C := RX3) (T := TX3) (N := 13) hx hb hts iwX3_count hown hK hP 0 rfl rfl 0 (by decide) (hts (.fieldLink RX3 42 "LoomPanelModel" "values" "I") flX3_count_42) (fun _ h9 => h9) rfl dX3_count_5 ?_
    refine lv_goto (tgt := 37) hx hb dX3_count_8 (by decide) ?_
    exact r_Ri hx hb hr hlocks hP hI hS (by simp only [f_X3_count, if_pos c_1]) dX3_count_37
abbrev rmX3_clear : Room := { frames := 0, cells := 0, slots := 0, locals := 0 }
theorem eeX3_clear : yX3_clear.cls = RX3 ∧ yX3_clear.cls ≠ "java/lang/invoke/MethodHandle" ∧ yX3_clear.cls ≠ "java/lang/invoke/VarHandle" ∧ (parseMethodDescriptor yX3_clear.desc).map (fun d => d.parameters.length) = some 0 := by decide +kernel
theorem iwX3_clear : ∀ w ∈ u_ws RX3 TX3 13, w ∈ wsX3_clear := by decide +kernel
theorem flX3_clear_26 : Cond.fieldLink RX3 26 "LoomPanelModel" "steps" "[I" ∈ wsX3_clear := by decide +kernel
theorem flX3_clear_42 : Cond.fieldLink RX3 42 "LoomPanelModel" "values" "I" ∈ wsX3_clear := by decide +kernel
def f_X3_clear_c12 : Nat → MS → Int32 → Nat → Int32 × MS
  | 0, S, _, _ => (0, S)
  | n + 1, S, x1, j => if 6 ≤ (nI j) then ((x1, S)) else (f_X3_clear_c12 n (S.set_steps (upd S.steps (nI j).toNatClampNeg 0)) x1 (j + 1))
set_option maxHeartbeats 4000000 in
set_option maxRecDepth 100000 in
theorem w_X3_clear_c12 {l : Launch} {D : va_G} {cI cJ : ClassId} {a : Nat → Nat} (hd : ∀ i j, i < 10 → j < 10 → a i = a j → i = j) {p : Program} {e : Env} {s : State} {m : MethodId} {args : Array Value} {below : List Frame} {meth : Method} {c : Code} (C : GC p s m meth c cX3_clear (some .int) 3 RX3 wsX3_clear args D (mw_tys cI cJ)) {v : Int32 × MS} : ∀ (n : Nat) (S : MS) (x1 : Int32) (j : Nat) (hj : j ≤ 6) (hn : j + n = 7) (H : Heap) (locs : List Loc) (ls : Array Slot), va_P D vwCl (mw cI cJ a S) H → MInv S → va_S (mA a) s.heap H locs → lv_has ls 3 [(0, .ref (a 0)), (1, .int x1), (2, .int (nI j))] → v = f_X3_clear_c12 n S x1 j → W p l e rmX3_clear s m args below meth c H locs 0 0 (MQ below (va_Qi (fun r u => v = (r, u)) (GE D (mw cI cJ a) MInv) (mA a)) args s 0 0 (mA a)) (F0 m 12 ls []) := by
  obtain ⟨hx, hb, hr, hlocks, hml, hown, hts, hK, hN⟩ := id C
  intro n
  induction n with
  | zero =>
    intro S x1 j hj hn H locs ls hP hI hS hl hq
    exact absurd hn (by omega)
  | succ n ih =>
    intro S x1 j hj hn H locs ls hP hI hS hl hq
    refine lv_iload_n hx hb dX3_clear_12 rfl (lv_at hl 2 rfl) ?_
    refine lv_bipush (v := 6) hx hb dX3_clear_13 (by decide) ?_
    refine lv_icmp_ge (tgt := 31) hx hb dX3_clear_15 (by decide) (fun c_15 => ?_) (fun c_15 => ?_)
    · skip
      refine lv_iload_n hx hb dX3_clear_31 rfl (lv_at hl 1 rfl) ?_
      exact r_Wi hx hb hr hlocks hP hI hS (hq.trans (by simp only [f_X3_clear_c12, if_pos c_15])) dX3_clear_32
    · skip
      refine lv_aload_n hx hb dX3_clear_18 rfl (lv_at hl 0 rfl) ?_
      refine va_get (D := D) (ci := 3) (v := .ref (a 6)) (C := RX3) (T := TX3) (N := 13) hx hb hts iwX3_clear hown hK hP 0 rfl rfl 6 (by decide) (hts (.fieldLink RX3 26 "LoomPanelModel" "steps" "[I") flX3_clear_26) (fun _ h9 => h9) rfl dX3_clear_19 ?_
      refine lv_iload_n hx hb dX3_clear_22 rfl (lv_at hl 2 rfl) ?_
      refine lv_iconst (v := 0) hx hb dX3_clear_23 (by decide) ?_
      refine va_iast hx hb hK hP (mw_D hd) hS 6 0 (f := S.steps) rfl rfl (jin (jl6 c_15 hj) (by decide)) dX3_clear_24 (fun H locs hP _ hS => ?_)
      have hP : va_P D vwCl (mw cI cJ a (S.set_steps (upd S.steps (nI j).toNatClampNeg 0))) H := by rw [← mw_set_steps]; exact hP
      have hI : MInv (S.set_steps (upd S.steps (nI j).toNatClampNeg 0)) := steps_set hI (by decide)
      refine lv_iinc (v := nI (j + 1)) (lv' := [(2, .int (nI (j + 1))), (0, .ref (a 0)), (1, .int x1)]) hx hb dX3_clear_25 hl (k := 2) rfl (nI_1 _) (by decide) rfl (fun ls hl => ?_)
      refine lv_goto (tgt := 12) hx hb dX3_clear_28 (by decide) ?_
      exact ih (S.set_steps (upd S.steps (nI j).toNatClampNeg 0)) x1 (j + 1) (jl6 c_15 hj) (by omega) _ _ _ hP hI hS (lv_sub hl [1, 2, 0] rfl) (hq.trans (by simp only [f_X3_clear_c12, if_neg c_15]))
def f_X3_clear (S : MS)  : Int32 × MS := f_X3_clear_c12 7 (S.set_vals 0) S.vals 0
set_option maxHeartbeats 4000000 in
set_option maxRecDepth 100000 in
theorem c_X3_clear (l : Launch) (D : va_G) (cI cJ : ClassId) (a : Nat → Nat) (hd : ∀ i j, i < 10 → j < 10 → a i = a j → i = j) (S : MS)  : GWi l yX3_clear wsX3_clear rmX3_clear [.ref (a 0)] D (mw_tys cI cJ) (mw cI cJ a) MInv (mA a) S (f_X3_clear S ) := by
  refine GB_of (cc := cX3_clear) (maxL := 3) (ret := (some .int)) (by decide) rfl (Nat.le_of_ble_eq_true rfl) ?_
  intro p e s m below meth c C hP hI ls hl
  obtain ⟨hx, hb, hr, hlocks, hml, hown, hts, hK, hN⟩ := id C
  have hS : va_S (mA a) s.heap s.heap [] := va_S.rf
  have hl : lv_has ls 3 [(0, .ref (a 0))] := hl
  refine lv_aload_n hx hb dX3_clear_0 rfl (lv_at hl 0 rfl) ?_
  refine va_get (D := D) (ci := 3) (v := .int S.vals) (C := RX3) (T := TX3) (N := 13) hx hb hts iwX3_clear hown hK hP 0 rfl rfl 0 (by decide) (hts (.fieldLink RX3 42 "LoomPanelModel" "values" "I") flX3_clear_42) (fun _ h9 => h9) rfl dX3_clear_1 ?_
  refine lv_istore_n (lv' := [(1, .int S.vals), (0, .ref (a 0))]) hx hb dX3_clear_4 rfl hl (by decide) rfl (fun ls hl => ?_)
  refine lv_aload_n hx hb dX3_clear_5 rfl (lv_at hl 1 rfl) ?_
  refine lv_iconst (v := 0) hx hb dX3_clear_6 (by decide) ?_
  refine va_put (D := D) (ci := 3) (v := .int 0) (ty := .int) (C := RX3) (T := TX3) (N := 13) hx hb hts iwX3_clear tyX3 tyX3_ok nmX3 hown hK hP (mw_D hd) hS 0 rfl rfl 0 (by decide) (hts (.fieldLink RX3 42 "LoomPanelModel" "values" "I") flX3_clear_42) (fun _ h9 => h9) rfl (by decide +kernel) rfl rfl (Nat.le_of_ble_eq_true rfl) dX3_clear_7 (fun H locs hP _ hS => ?_)
  have hP : va_P D vwCl (mw cI cJ a (S.set_vals 0)) H := by rw [← mw_set_vals]; exact hP
  have hI : MInv (S.set_vals 0) := vals_set hI (by decide) (by decide)
  refine lv_iconst (v := 0) hx hb dX3_clear_10 (by decide) ?_
  refine lv_istore_n (lv' := [(2, .int 0), (1, .int S.vals), (0, .ref (a 0))]) hx hb dX3_clear_11 rfl hl (by decide) rfl (fun ls hl => ?_)
  exact w_X3_clear_c12 hd C 7 (S.set_vals 0) S.vals 0 (Nat.zero_le _) rfl _ _ _ hP hI hS (lv_sub hl [2, 1, 0] rfl) (by simp only [f_X3_clear])
