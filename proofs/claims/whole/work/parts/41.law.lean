theorem clL_law_27 : Cond.constantLong RL 27 4294967295 ∈ wsL_law := by decide +kernel
set_option maxHeartbeats 4000000 in
set_option maxRecDepth 100000 in
theorem law_0 {p : Program} {l : Launch} {e : Env} {s : State} {m : MethodId} {below : List Frame} {meth : Method} {c : Code} {D : va_G} {cI cJ : ClassId} {a b2 : Nat → Nat} {b L : Nat} {xs : Nat → Int32} (hL : L ≤ 2560) (C0 : lw_At p s m meth c b L xs) (hK : va_K D vwCl (cw_tys cI cJ) s) (hN : KN s) (hda : ∀ i j, i < 11 → j < 11 → a i = a j → i = j) (hdb : ∀ i j, i < 10 → j < 10 → b2 i = b2 j → i = j) (hab : ∀ i j, i < 11 → j < 10 → ¬ a i = b2 j) (hkA : ∀ q, kA a q → s.heap.size ≤ q) (hmA : ∀ q, mA b2 q → s.heap.size ≤ q) {i : Nat} (hi : i + 5 ≤ L) {ls : Array Slot} (hl : lv_has ls 4 [(0, .ref b), (1, .ref (a 0)), (2, .ref (b2 0)), (3, .int (nI i))]) (nxt : (∀ (S : KS) (T : MS) (mm : Nat) (H : Heap) (locs : List Loc), RelM S T mm → KInv S → MInv T → va_P D vwCl (cw cI cJ a S) H → va_P D vwCl (mw cI cJ b2 T) H → va_S (fun q : Nat => s.heap.size ≤ q) s.heap H locs → W p l e room_1 s m #[Value.ref b] below meth c H locs 21 2271 (lw_Z below #[Value.ref b] s) (F0 m 620 ls []))) (S : KS) (T : MS) (mm : Nat) (H : Heap) (locs : List Loc) (hR : RelM S T mm) (hIk : KInv S) (hIm : MInv T) (hPk : va_P D vwCl (cw cI cJ a S) H) (hPm : va_P D vwCl (mw cI cJ b2 T) H) (hS : va_S (fun q : Nat => s.heap.size ≤ q) s.heap H locs) : W p l e room_1 s m #[Value.ref b] below meth c H locs 21 2271 (lw_Z below #[Value.ref b] s) (F0 m 108 ls []) := by
  obtain ⟨hx, hb, hr, hml, hown, hts0, hX, hbl, hlocks, hgv⟩ := C0
  have hts : ∀ w ∈ wsL_law, w.before #[Value.ref b] s = true := fun w h => hts0 w (wsL_law_in w h)
  have hbA : ¬ (fun q : Nat => s.heap.size ≤ q) b := Nat.not_le.mpr hbl
  have hdisM : ∀ (T : MS) (k : Nat) (q : Nat × va_E), (mw cI cJ b2 T)[k]? = some q → ¬ kA a q.1 := fun T k q hq ⟨i, hi, e⟩ => hab i k hi (mw_at hq).1 (e.symm.trans (mw_at hq).2)
  have hdisK : ∀ (S : KS) (k : Nat) (q : Nat × va_E), (cw cI cJ a S)[k]? = some q → ¬ mA b2 q.1 := fun S k q hq ⟨i, hi, e⟩ => hab k i (cw_at hq).1 hi ((cw_at hq).2.symm.trans e)
  have h_1 : vp_in (nI i + 1) L := sc_in (k := 1) hi hL (by decide)
  have h_2 : vp_in (nI i + 2) L := sc_in (k := 2) hi hL (by decide)
  have h_3 : vp_in (nI i + 3) L := sc_in (k := 3) hi hL (by decide)
  have h_4 : vp_in (nI i + 4) L := sc_in (k := 4) hi hL (by decide)
  refine lv_aload_n hx hb dL_law_108 rfl (lv_at hl 1 rfl) ?_
  refine lv_aload_n hx hb dL_law_109 rfl (lv_at hl 0 rfl) ?_
  refine lv_iload_n hx hb dL_law_110 rfl (lv_at hl 3 rfl) ?_
  refine lv_iconst (v := 1) hx hb dL_law_111 (by decide) ?_
  refine lv_iadd hx hb dL_law_112 ?_
  refine va_sld hx hb hX hbl hbA hS h_1 dL_law_113 ?_
  refine lv_aload_n hx hb dL_law_114 rfl (lv_at hl 0 rfl) ?_
  refine lv_iload_n hx hb dL_law_115 rfl (lv_at hl 3 rfl) ?_
  refine lv_iconst (v := 2) hx hb dL_law_116 (by decide) ?_
  refine lv_iadd hx hb dL_law_117 ?_
  refine va_sld hx hb hX hbl hbA hS h_2 dL_law_118 ?_
  refine L_Wi (As := [.int (xs (nI i + 1).toNatClampNeg), .int (xs (nI i + 2).toNatClampNeg)]) (rest := []) ⟨hx, hb, hml, hown, hts⟩ (c_X2_row l D cI cJ a hda S (xs (nI i + 1).toNatClampNeg) (xs (nI i + 2).toNatClampNeg)) (cwV 2 hts gL_law_X2_row rfl rfl rfl eeX2_row ⟨Nat.le_of_ble_eq_true rfl, Nat.le_of_ble_eq_true rfl⟩) hK hN hPk hIk (va_recv hK hPk (ci := 2) (q0 := 0) rfl rfl) hPm (hdisM _) hS hkA rfl hl.1 rfl (Nat.le_of_ble_eq_true rfl) dL_law_119 ⟨Nat.le_of_ble_eq_true rfl, Nat.le_of_ble_eq_true rfl⟩ (fun H locs hIk hPk hPm hS => ?_)
  refine lv_aload_n hx hb dL_law_122 rfl (lv_at hl 2 rfl) ?_
  refine lv_aload_n hx hb dL_law_123 rfl (lv_at hl 0 rfl) ?_
  refine lv_iload_n hx hb dL_law_124 rfl (lv_at hl 3 rfl) ?_
  refine lv_iconst (v := 1) hx hb dL_law_125 (by decide) ?_
  refine lv_iadd hx hb dL_law_126 ?_
  refine va_sld hx hb hX hbl hbA hS h_1 dL_law_127 ?_
  refine lv_aload_n hx hb dL_law_128 rfl (lv_at hl 0 rfl) ?_
  refine lv_iload_n hx hb dL_law_129 rfl (lv_at hl 3 rfl) ?_
  refine lv_iconst (v := 2) hx hb dL_law_130 (by decide) ?_
  refine lv_iadd hx hb dL_law_131 ?_
  refine va_sld hx hb hX hbl hbA hS h_2 dL_law_132 ?_
  refine L_Wi (As := [.int (xs (nI i + 1).toNatClampNeg), .int (xs (nI i + 2).toNatClampNeg)]) (rest := [.int ((f_X2_row S (xs (nI i + 1).toNatClampNeg) (xs (nI i + 2).toNatClampNeg)).1)]) ⟨hx, hb, hml, hown, hts⟩ (c_X3_row l D cI cJ b2 hdb T (xs (nI i + 1).toNatClampNeg) (xs (nI i + 2).toNatClampNeg)) (cwV 2 hts gL_law_X3_row rfl rfl rfl eeX3_row ⟨Nat.le_of_ble_eq_true rfl, Nat.le_of_ble_eq_true rfl⟩) hK hN hPm hIm (va_recv hK hPm (ci := 3) (q0 := 0) rfl rfl) hPk (hdisK _) hS hmA rfl hl.1 rfl (Nat.le_of_ble_eq_true rfl) dL_law_133 ⟨Nat.le_of_ble_eq_true rfl, Nat.le_of_ble_eq_true rfl⟩ (fun H locs hIm hPm hPk hS => ?_)
  refine lv_icmp_eq (tgt := 620) hx hb dL_law_136 (by decide) (fun c_136 => ?_) (fun c_136 => ?_)
  · obtain ⟨mm2, hR2⟩ := (op_row (xs (nI i + 1).toNatClampNeg) (xs (nI i + 2).toNatClampNeg) hR).2
    exact nxt _ _ mm2 _ _ hR2 hIk hIm hPk hPm hS
  · exact absurd (op_row (xs (nI i + 1).toNatClampNeg) (xs (nI i + 2).toNatClampNeg) hR).1 c_136
set_option maxHeartbeats 4000000 in
set_option maxRecDepth 100000 in
theorem law_1 {p : Program} {l : Launch} {e : Env} {s : State} {m : MethodId} {below : List Frame} {meth : Method} {c : Code} {D : va_G} {cI cJ : ClassId} {a b2 : Nat → Nat} {b L : Nat} {xs : Nat → Int32} (hL : L ≤ 2560) (C0 : lw_At p s m meth c b L xs) (hK : va_K D vwCl (cw_tys cI cJ) s) (hN : KN s) (hda : ∀ i j, i < 11 → j < 11 → a i = a j → i = j) (hdb : ∀ i j, i < 10 → j < 10 → b2 i = b2 j → i = j) (hab : ∀ i j, i < 11 → j < 10 → ¬ a i = b2 j) (hkA : ∀ q, kA a q → s.heap.size ≤ q) (hmA : ∀ q, mA b2 q → s.heap.size ≤ q) {i : Nat} (hi : i + 5 ≤ L) {ls : Array Slot} (hl : lv_has ls 4 [(0, .ref b), (1, .ref (a 0)), (2, .ref (b2 0)), (3, .int (nI i))]) (nxt : (∀ (S : KS) (T : MS) (mm : Nat) (H : Heap) (locs : List Loc), RelM S T mm → KInv S → MInv T → va_P D vwCl (cw cI cJ a S) H → va_P D vwCl (mw cI cJ b2 T) H → va_S (fun q : Nat => s.heap.size ≤ q) s.heap H locs → W p l e room_1 s m #[Value.ref b] below meth c H locs 21 2271 (lw_Z below #[Value.ref b] s) (F0 m 620 ls []))) (S : KS) (T : MS) (mm : Nat) (H : Heap) (locs : List Loc) (hR : RelM S T mm) (hIk : KInv S) (hIm : MInv T) (hPk : va_P D vwCl (cw cI cJ a S) H) (hPm : va_P D vwCl (mw cI cJ b2 T) H) (hS : va_S (fun q : Nat => s.heap.size ≤ q) s.heap H locs) : W p l e room_1 s m #[Value.ref b] below meth c H locs 21 2271 (lw_Z below #[Value.ref b] s) (F0 m 141 ls []) := by
  obtain ⟨hx, hb, hr, hml, hown, hts0, hX, hbl, hlocks, hgv⟩ := C0
  have hts : ∀ w ∈ wsL_law, w.before #[Value.ref b] s = true := fun w h => hts0 w (wsL_law_in w h)
  have hbA : ¬ (fun q : Nat => s.heap.size ≤ q) b := Nat.not_le.mpr hbl
  have hdisM : ∀ (T : MS) (k : Nat) (q : Nat × va_E), (mw cI cJ b2 T)[k]? = some q → ¬ kA a q.1 := fun T k q hq ⟨i, hi, e⟩ => hab i k hi (mw_at hq).1 (e.symm.trans (mw_at hq).2)
  have hdisK : ∀ (S : KS) (k : Nat) (q : Nat × va_E), (cw cI cJ a S)[k]? = some q → ¬ mA b2 q.1 := fun S k q hq ⟨i, hi, e⟩ => hab k i (cw_at hq).1 hi ((cw_at hq).2.symm.trans e)
  have h_1 : vp_in (nI i + 1) L := sc_in (k := 1) hi hL (by decide)
  have h_2 : vp_in (nI i + 2) L := sc_in (k := 2) hi hL (by decide)
  have h_3 : vp_in (nI i + 3) L := sc_in (k := 3) hi hL (by decide)
  have h_4 : vp_in (nI i + 4) L := sc_in (k := 4) hi hL (by decide)
  refine lv_aload_n hx hb dL_law_141 rfl (lv_at hl 1 rfl) ?_
  refine lv_aload_n hx hb dL_law_142 rfl (lv_at hl 0 rfl) ?_
  refine lv_iload_n hx hb dL_law_143 rfl (lv_at hl 3 rfl) ?_
  refine lv_iconst (v := 1) hx hb dL_law_144 (by decide) ?_
  refine lv_iadd hx hb dL_law_145 ?_
  refine va_sld hx hb hX hbl hbA hS h_1 dL_law_146 ?_
  refine lv_aload_n hx hb dL_law_147 rfl (lv_at hl 0 rfl) ?_
  refine lv_iload_n hx hb dL_law_148 rfl (lv_at hl 3 rfl) ?_
  refine lv_iconst (v := 2) hx hb dL_law_149 (by decide) ?_
  refine lv_iadd hx hb dL_law_150 ?_
  refine va_sld hx hb hX hbl hbA hS h_2 dL_law_151 ?_
  refine L_Wi (As := [.int (xs (nI i + 1).toNatClampNeg), .int (xs (nI i + 2).toNatClampNeg)]) (rest := []) ⟨hx, hb, hml, hown, hts⟩ (c_X2_board l D cI cJ a hda S (xs (nI i + 1).toNatClampNeg) (xs (nI i + 2).toNatClampNeg)) (cwV 2 hts gL_law_X2_board rfl rfl rfl eeX2_board ⟨Nat.le_of_ble_eq_true rfl, Nat.le_of_ble_eq_true rfl⟩) hK hN hPk hIk (va_recv hK hPk (ci := 2) (q0 := 0) rfl rfl) hPm (hdisM _) hS hkA rfl hl.1 rfl (Nat.le_of_ble_eq_true rfl) dL_law_152 ⟨Nat.le_of_ble_eq_true rfl, Nat.le_of_ble_eq_true rfl⟩ (fun H locs hIk hPk hPm hS => ?_)
  refine lv_aload_n hx hb dL_law_155 rfl (lv_at hl 2 rfl) ?_
  refine lv_aload_n hx hb dL_law_156 rfl (lv_at hl 0 rfl) ?_
  refine lv_iload_n hx hb dL_law_157 rfl (lv_at hl 3 rfl) ?_
  refine lv_iconst (v := 1) hx hb dL_law_158 (by decide) ?_
  refine lv_iadd hx hb dL_law_159 ?_
  refine va_sld hx hb hX hbl hbA hS h_1 dL_law_160 ?_
  refine lv_aload_n hx hb dL_law_161 rfl (lv_at hl 0 rfl) ?_
  refine lv_iload_n hx hb dL_law_162 rfl (lv_at hl 3 rfl) ?_
  refine lv_iconst (v := 2) hx hb dL_law_163 (by decide) ?_
  refine lv_iadd hx hb dL_law_164 ?_
  refine va_sld hx hb hX hbl hbA hS h_2 dL_law_165 ?_
  refine L_Wi (As := [.int (xs (nI i + 1).toNatClampNeg), .int (xs (nI i + 2).toNatClampNeg)]) (rest := [.int ((f_X2_board S (xs (nI i + 1).toNatClampNeg) (xs (nI i + 2).toNatClampNeg)).1)]) ⟨hx, hb, hml, hown, hts⟩ (c_X3_board l D cI cJ b2 hdb T (xs (nI i + 1).toNatClampNeg) (xs (nI i + 2).toNatClampNeg)) (cwV 2 hts gL_law_X3_board rfl rfl rfl eeX3_board ⟨Nat.le_of_ble_eq_true rfl, Nat.le_of_ble_eq_true rfl⟩) hK hN hPm hIm (va_recv hK hPm (ci := 3) (q0 := 0) rfl rfl) hPk (hdisK _) hS hmA rfl hl.1 rfl (Nat.le_of_ble_eq_true rfl) dL_law_166 ⟨Nat.le_of_ble_eq_true rfl, Nat.le_of_ble_eq_true rfl⟩ (fun H locs hIm hPm hPk hS => ?_)
  refine lv_icmp_eq (tgt := 620) hx hb dL_law_169 (by decide) (fun c_169 => ?_) (fun c_169 => ?_)
  · obtain ⟨mm2, hR2⟩ := (op_board (xs (nI i + 1).toNatClampNeg) (xs (nI i + 2).toNatClampNeg) hR).2
    exact nxt _ _ mm2 _ _ hR2 hIk hIm hPk hPm hS
  · exact absurd (op_board (xs (nI i + 1).toNatClampNeg) (xs (nI i + 2).toNatClampNeg) hR).1 c_169
set_option maxHeartbeats 4000000 in
set_option maxRecDepth 100000 in
theorem law_2 {p : Program} {l : Launch} {e : Env} {s : State} {m : MethodId} {below : List Frame} {meth : Method} {c : Code} {D : va_G} {cI cJ : ClassId} {a b2 : Nat → Nat} {b L : Nat} {xs : Nat → Int32} (hL : L ≤ 2560) (C0 : lw_At p s m meth c b L xs) (hK : va_K D vwCl (cw_tys cI cJ) s) (hN : KN s) (hda : ∀ i j, i < 11 → j < 11 → a i = a j → i = j) (hdb : ∀ i j, i < 10 → j < 10 → b2 i = b2 j → i = j) (hab : ∀ i j, i < 11 → j < 10 → ¬ a i = b2 j) (hkA : ∀ q, kA a q → s.heap.size ≤ q) (hmA : ∀ q, mA b2 q → s.heap.size ≤ q) {i : Nat} (hi : i + 5 ≤ L) {ls : Array Slot} (hl : lv_has ls 4 [(0, .ref b), (1, .ref (a 0)), (2, .ref (b2 0)), (3, .int (nI i))]) (nxt : (∀ (S : KS) (T : MS) (mm : Nat) (H : Heap) (locs : List Loc), RelM S T mm → KInv S → MInv T → va_P D vwCl (cw cI cJ a S) H → va_P D vwCl (mw cI cJ b2 T) H → va_S (fun q : Nat => s.heap.size ≤ q) s.heap H locs → W p l e room_1 s m #[Value.ref b] below meth c H locs 21 2271 (lw_Z below #[Value.ref b] s) (F0 m 620 ls []))) (S : KS) (T : MS) (mm : Nat) (H : Heap) (locs : List Loc) (hR : RelM S T mm) (hIk : KInv S) (hIm : MInv T) (hPk : va_P D vwCl (cw cI cJ a S) H) (hPm : va_P D vwCl (mw cI cJ b2 T) H) (hS : va_S (fun q : Nat => s.heap.size ≤ q) s.heap H locs) : W p l e room_1 s m #[Value.ref b] below meth c H locs 21 2271 (lw_Z below #[Value.ref b] s) (F0 m 174 ls []) := by
  obtain ⟨hx, hb, hr, hml, hown, hts0, hX, hbl, hlocks, hgv⟩ := C0
  have hts : ∀ w ∈ wsL_law, w.before #[Value.ref b] s = true := fun w h => hts0 w (wsL_law_in w h)
  have hbA : ¬ (fun q : Nat => s.heap.size ≤ q) b := Nat.not_le.mpr hbl
  have hdisM : ∀ (T : MS) (k : Nat) (q : Nat × va_E), (mw cI cJ b2 T)[k]? = some q → ¬ kA a q.1 := fun T k q hq ⟨i, hi, e⟩ => hab i k hi (mw_at hq).1 (e.symm.trans (mw_at hq).2)
  have hdisK : ∀ (S : KS) (k : Nat) (q : Nat × va_E), (cw cI cJ a S)[k]? = some q → ¬ mA b2 q.1 := fun S k q hq ⟨i, hi, e⟩ => hab k i (cw_at hq).1 hi ((cw_at hq).2.symm.trans e)
  have h_1 : vp_in (nI i + 1) L := sc_in (k := 1) hi hL (by decide)
  have h_2 : vp_in (nI i + 2) L := sc_in (k := 2) hi hL (by decide)
  have h_3 : vp_in (nI i + 3) L := sc_in (k := 3) hi hL (by decide)
  have h_4 : vp_in (nI i + 4) L := sc_in (k := 4) hi hL (by decide)
  refine lv_aload_n hx hb dL_law_174 rfl (lv_at hl 1 rfl) ?_
  refine lv_aload_n hx hb dL_law_175 rfl (lv_at hl 0 rfl) ?_
  refine lv_iload_n hx hb dL_law_176 rfl (lv_at hl 3 rfl) ?_
  refine lv_iconst (v := 1) hx hb dL_law_177 (by decide) ?_
  refine lv_iadd hx hb dL_law_178 ?_
  refine va_sld hx hb hX hbl hbA hS h_1 dL_law_179 ?_
  refine lv_if_eq (tgt := 187) hx hb dL_law_180 (by decide) (fun c_180 => ?_) (fun c_180 => ?_)
  · skip
    refine lv_iconst (v := 0) hx hb dL_law_187 (by decide) ?_
    refine lv_aload_n hx hb dL_law_188 rfl (lv_at hl 0 rfl) ?_
    refine lv_iload_n hx hb dL_law_189 rfl (lv_at hl 3 rfl) ?_
    refine lv_iconst (v := 2) hx hb dL_law_190 (by decide) ?_
    refine lv_iadd hx hb dL_law_191 ?_
    refine va_sld hx hb hX hbl hbA hS h_2 dL_law_192 ?_
    refine L_Wi (As := [.int 0, .int (xs (nI i + 2).toNatClampNeg)]) (rest := []) ⟨hx, hb, hml, hown, hts⟩ (c_X2_wire l D cI cJ a hda S 0 (xs (nI i + 2).toNatClampNeg)) (cwV 2 hts gL_law_X2_wire rfl rfl rfl eeX2_wire ⟨Nat.le_of_ble_eq_true rfl, Nat.le_of_ble_eq_true rfl⟩) hK hN hPk hIk (va_recv hK hPk (ci := 2) (q0 := 0) rfl rfl) hPm (hdisM _) hS hkA rfl hl.1 rfl (Nat.le_of_ble_eq_true rfl) dL_law_193 ⟨Nat.le_of_ble_eq_true rfl, Nat.le_of_ble_eq_true rfl⟩ (fun H locs hIk hPk hPm hS => ?_)
    refine lv_aload_n hx hb dL_law_196 rfl (lv_at hl 2 rfl) ?_
    refine lv_aload_n hx hb dL_law_197 rfl (lv_at hl 0 rfl) ?_
    refine lv_iload_n hx hb dL_law_198 rfl (lv_at hl 3 rfl) ?_
    refine lv_iconst (v := 1) hx hb dL_law_199 (by decide) ?_
    refine lv_iadd hx hb dL_law_200 ?_
    refine va_sld hx hb hX hbl hbA hS h_1 dL_law_201 ?_
    refine lv_if_eq (tgt := 209) hx hb dL_law_202 (by decide) (fun c_202 => ?_) (fun c_202 => ?_)
    · skip
      refine lv_iconst (v := 0) hx hb dL_law_209 (by decide) ?_
      refine lv_aload_n hx hb dL_law_210 rfl (lv_at hl 0 rfl) ?_
      refine lv_iload_n hx hb dL_law_211 rfl (lv_at hl 3 rfl) ?_
      refine lv_iconst (v := 2) hx hb dL_law_212 (by decide) ?_
      refine lv_iadd hx hb dL_law_213 ?_
      refine va_sld hx hb hX hbl hbA hS h_2 dL_law_214 ?_
      refine L_Wi (As := [.int 0, .int (xs (nI i + 2).toNatClampNeg)]) (rest := [.int ((f_X2_wire S 0 (xs (nI i + 2).toNatClampNeg)).1)]) ⟨hx, hb, hml, hown, hts⟩ (c_X3_wire l D cI cJ b2 hdb T 0 (xs (nI i + 2).toNatClampNeg)) (cwV 2 hts gL_law_X3_wire rfl rfl rfl eeX3_wire ⟨Nat.le_of_ble_eq_true rfl, Nat.le_of_ble_eq_true rfl⟩) hK hN hPm hIm (va_recv hK hPm (ci := 3) (q0 := 0) rfl rfl) hPk (hdisK _) hS hmA rfl hl.1 rfl (Nat.le_of_ble_eq_true rfl) dL_law_215 ⟨Nat.le_of_ble_eq_true rfl, Nat.le_of_ble_eq_true rfl⟩ (fun H locs hIm hPm hPk hS => ?_)
      refine lv_icmp_eq (tgt := 620) hx hb dL_law_218 (by decide) (fun c_218 => ?_) (fun c_218 => ?_)
      · obtain ⟨mm2, hR2⟩ := (op_wire 0 (xs (nI i + 2).toNatClampNeg) hR).2
        exact nxt _ _ mm2 _ _ hR2 hIk hIm hPk hPm hS
      · exact absurd (op_wire 0 (xs (nI i + 2).toNatClampNeg) hR).1 c_218
    · exact absurd c_180 c_202
  · skip
    refine lv_iconst (v := 1) hx hb dL_law_183 (by decide) ?_
    refine lv_goto (tgt := 188) hx hb dL_law_184 (by decide) ?_
    refine lv_aload_n hx hb dL_law_188 rfl (lv_at hl 0 rfl) ?_
    refine lv_iload_n hx hb dL_law_189 rfl (lv_at hl 3 rfl) ?_
    refine lv_iconst (v := 2) hx hb dL_law_190 (by decide) ?_
    refine lv_iadd hx hb dL_law_191 ?_
    refine va_sld hx hb hX hbl hbA hS h_2 dL_law_192 ?_
    refine L_Wi (As := [.int 1, .int (xs (nI i + 2).toNatClampNeg)]) (rest := []) ⟨hx, hb, hml, hown, hts⟩ (c_X2_wire l D cI cJ a hda S 1 (xs (nI i + 2).toNatClampNeg)) (cwV 2 hts gL_law_X2_wire rfl rfl rfl eeX2_wire ⟨Nat.le_of_ble_eq_true rfl, Nat.le_of_ble_eq_true rfl⟩) hK hN hPk hIk (va_recv hK hPk (ci := 2) (q0 := 0) rfl rfl) hPm (hdisM _) hS hkA rfl hl.1 rfl (Nat.le_of_ble_eq_true rfl) dL_law_193 ⟨Nat.le_of_ble_eq_true rfl, Nat.le_of_ble_eq_true rfl⟩ (fun H locs hIk hPk hPm hS => ?_)
    refine lv_aload_n hx hb dL_law_196 rfl (lv_at hl 2 rfl) ?_
    refine lv_aload_n hx hb dL_law_197 rfl (lv_at hl 0 rfl) ?_
    refine lv_iload_n hx hb dL_law_198 rfl (lv_at hl 3 rfl) ?_
    refine lv_iconst (v := 1) hx hb dL_law_199 (by decide) ?_
    refine lv_iadd hx hb dL_law_200 ?_
    refine va_sld hx hb hX hbl hbA hS h_1 dL_law_201 ?_
    refine lv_if_eq (tgt := 209) hx hb dL_law_202 (by decide) (fun c_202 => ?_) (fun c_202 => ?_)
    · exact absurd c_202 c_180
    · skip
      refine lv_iconst (v := 1) hx hb dL_law_205 (by decide) ?_
      refine lv_goto (tgt := 210) hx hb dL_law_206 (by decide) ?_
      refine lv_aload_n hx hb dL_law_210 rfl (lv_at hl 0 rfl) ?_
      refine lv_iload_n hx hb dL_law_211 rfl (lv_at hl 3 rfl) ?_
      refine lv_iconst (v := 2) hx hb dL_law_212 (by decide) ?_
      refine lv_iadd hx hb dL_law_213 ?_
      refine va_sld hx hb hX hbl hbA hS h_2 dL_law_214 ?_
      refine L_Wi (As := [.int 1, .int (xs (nI i + 2).toNatClampNeg)]) (rest := [.int ((f_X2_wire S 1 (xs (nI i + 2).toNatClampNeg)).1)]) ⟨hx, hb, hml, hown, hts⟩ (c_X3_wire l D cI cJ b2 hdb T 1 (xs (nI i + 2).toNatClampNeg)) (cwV 2 hts gL_law_X3_wire rfl rfl rfl eeX3_wire ⟨Nat.le_of_ble_eq_true rfl, Nat.le_of_ble_eq_true rfl⟩) hK hN hPm hIm (va_recv hK hPm (ci := 3) (q0 := 0) rfl rfl) hPk (hdisK _) hS hmA rfl hl.1 rfl (Nat.le_of_ble_eq_true rfl) dL_law_215 ⟨Nat.le_of_ble_eq_true rfl, Nat.le_of_ble_eq_true rfl⟩ (fun H locs hIm hPm hPk hS => ?_)
      refine lv_icmp_eq (tgt := 620) hx hb dL_law_218 (by decide) (fun c_218 => ?_) (fun c_218 => ?_)
      · obtain ⟨mm2, hR2⟩ := (op_wire 1 (xs (nI i + 2).toNatClampNeg) hR).2
        exact nxt _ _ mm2 _ _ hR2 hIk hIm hPk hPm hS
      · exact absurd (op_wire 1 (xs (nI i + 2).toNatClampNeg) hR).1 c_218
set_option maxHeartbeats 4000000 in
set_option maxRecDepth 100000 in
theorem law_3 {p : Program} {l : Launch} {e : Env} {s : State} {m : MethodId} {below : List Frame} {meth : Method} {c : Code} {D : va_G} {cI cJ : ClassId} {a b2 : Nat → Nat} {b L : Nat} {xs : Nat → Int32} (hL : L ≤ 2560) (C0 : lw_At p s m meth c b L xs) (hK : va_K D vwCl (cw_tys cI cJ) s) (hN : KN s) (hda : ∀ i j, i < 11 → j < 11 → a i = a j → i = j) (hdb : ∀ i j, i < 10 → j < 10 → b2 i = b2 j → i = j) (hab : ∀ i j, i < 11 → j < 10 → ¬ a i = b2 j) (hkA : ∀ q, kA a q → s.heap.size ≤ q) (hmA : ∀ q, mA b2 q → s.heap.size ≤ q) {i : Nat} (hi : i + 5 ≤ L) {ls : Array Slot} (hl : lv_has ls 4 [(0, .ref b), (1, .ref (a 0)), (2, .ref (b2 0)), (3, .int (nI i))]) (nxt : (∀ (S : KS) (T : MS) (mm : Nat) (H : Heap) (locs : List Loc), RelM S T mm → KInv S → MInv T → va_P D vwCl (cw cI cJ a S) H → va_P D vwCl (mw cI cJ b2 T) H → va_S (fun q : Nat => s.heap.size ≤ q) s.heap H locs → W p l e room_1 s m #[Value.ref b] below meth c H locs 21 2271 (lw_Z below #[Value.ref b] s) (F0 m 620 ls []))) (S : KS) (T : MS) (mm : Nat) (H : Heap) (locs : List Loc) (hR : RelM S T mm) (hIk : KInv S) (hIm : MInv T) (hPk : va_P D vwCl (cw cI cJ a S) H) (hPm : va_P D vwCl (mw cI cJ b2 T) H) (hS : va_S (fun q : Nat => s.heap.size ≤ q) s.heap H locs) : W p l e room_1 s m #[Value.ref b] below meth c H locs 21 2271 (lw_Z below #[Value.ref b] s) (F0 m 223 ls []) := by
  obtain ⟨hx, hb, hr, hml, hown, hts0, hX, hbl, hlocks, hgv⟩ := C0
  have hts : ∀ w ∈ wsL_law, w.before #[Value.ref b] s = true := fun w h => hts0 w (wsL_law_in w h)
  have hbA : ¬ (fun q : Nat => s.heap.size ≤ q) b := Nat.not_le.mpr hbl
  have hdisM : ∀ (T : MS) (k : Nat) (q : Nat × va_E), (mw cI cJ b2 T)[k]? = some q → ¬ kA a q.1 := fun T k q hq ⟨i, hi, e⟩ => hab i k hi (mw_at hq).1 (e.symm.trans (mw_at hq).2)
  have hdisK : ∀ (S : KS) (k : Nat) (q : Nat × va_E), (cw cI cJ a S)[k]? = some q → ¬ mA b2 q.1 := fun S k q hq ⟨i, hi, e⟩ => hab k i (cw_at hq).1 hi ((cw_at hq).2.symm.trans e)
  have h_1 : vp_in (nI i + 1) L := sc_in (k := 1) hi hL (by decide)
  have h_2 : vp_in (nI i + 2) L := sc_in (k := 2) hi hL (by decide)
  have h_3 : vp_in (nI i + 3) L := sc_in (k := 3) hi hL (by decide)
  have h_4 : vp_in (nI i + 4) L := sc_in (k := 4) hi hL (by decide)
  refine lv_aload_n hx hb dL_law_223 rfl (lv_at hl 1 rfl) ?_
  refine lv_aload_n hx hb dL_law_224 rfl (lv_at hl 0 rfl) ?_
  refine lv_iload_n hx hb dL_law_225 rfl (lv_at hl 3 rfl) ?_
  refine lv_iconst (v := 1) hx hb dL_law_226 (by decide) ?_
  refine lv_iadd hx hb dL_law_227 ?_
  refine va_sld hx hb hX hbl hbA hS h_1 dL_law_228 ?_
  refine lv_aload_n hx hb dL_law_229 rfl (lv_at hl 0 rfl) ?_
  refine lv_iload_n hx hb dL_law_230 rfl (lv_at hl 3 rfl) ?_
  refine lv_iconst (v := 2) hx hb dL_law_231 (by decide) ?_
  refine lv_iadd hx hb dL_law_232 ?_
  refine va_sld hx hb hX hbl hbA hS h_2 dL_law_233 ?_
  refine lv_aload_n hx hb dL_law_234 rfl (lv_at hl 0 rfl) ?_
  refine lv_iload_n hx hb dL_law_235 rfl (lv_at hl 3 rfl) ?_
  refine lv_iconst (v := 3) hx hb dL_law_236 (by decide) ?_
  refine lv_iadd hx hb dL_law_237 ?_
  refine va_sld hx hb hX hbl hbA hS h_3 dL_law_238 ?_
  refine lv_i2l (v := (xs (nI i + 3).toNatClampNeg).toInt64) hx hb dL_law_239 rfl ?_
  refine lv_bipush (v := 32) hx hb dL_law_240 (by decide) ?_
  refine lv_lshl (v := ((xs (nI i + 3).toNatClampNeg).toInt64) <<< ((32 : Int32).toInt64 &&& 63)) hx hb dL_law_242 rfl ?_
  refine lv_aload_n hx hb dL_law_243 rfl (lv_at hl 0 rfl) ?_
  refine lv_iload_n hx hb dL_law_244 rfl (lv_at hl 3 rfl) ?_
  refine lv_iconst (v := 4) hx hb dL_law_245 (by decide) ?_
  refine lv_iadd hx hb dL_law_246 ?_
  refine va_sld hx hb hX hbl hbA hS h_4 dL_law_247 ?_
  refine lv_i2l (v := (xs (nI i + 4).toNatClampNeg).toInt64) hx hb dL_law_248 rfl ?_
  refine lv_ldc2 (v := 4294967295) hx hb hown (hts (.constantLong RL 27 4294967295) clL_law_27) dL_law_249 ?_
  refine lv_land hx hb dL_law_252 ?_
  refine lv_lor hx hb dL_law_253 ?_
  refine L_Wi (As := [.int (xs (nI i + 1).toNatClampNeg), .int (xs (nI i + 2).toNatClampNeg), .long ((((xs (nI i + 3).toNatClampNeg).toInt64) <<< ((32 : Int32).toInt64 &&& 63)) ||| (((xs (nI i + 4).toNatClampNeg).toInt64) &&& 4294967295))]) (rest := []) ⟨hx, hb, hml, hown, hts⟩ (c_X2_set l D cI cJ a hda S (xs (nI i + 1).toNatClampNeg) (xs (nI i + 2).toNatClampNeg) ((((xs (nI i + 3).toNatClampNeg).toInt64) <<< ((32 : Int32).toInt64 &&& 63)) ||| (((xs (nI i + 4).toNatClampNeg).toInt64) &&& 4294967295))) (cwV 3 hts gL_law_X2_set rfl rfl rfl eeX2_set ⟨Nat.le_of_ble_eq_true rfl, Nat.le_of_ble_eq_true rfl⟩) hK hN hPk hIk (va_recv hK hPk (ci := 2) (q0 := 0) rfl rfl) hPm (hdisM _) hS hkA rfl hl.1 rfl (Nat.le_of_ble_eq_true rfl) dL_law_254 ⟨Nat.le_of_ble_eq_true rfl, Nat.le_of_ble_eq_true rfl⟩ (fun H locs hIk hPk hPm hS => ?_)
  refine lv_aload_n hx hb dL_law_257 rfl (lv_at hl 2 rfl) ?_
  refine lv_aload_n hx hb dL_law_258 rfl (lv_at hl 0 rfl) ?_
  refine lv_iload_n hx hb dL_law_259 rfl (lv_at hl 3 rfl) ?_
  refine lv_iconst (v := 1) hx hb dL_law_260 (by decide) ?_
  refine lv_iadd hx hb dL_law_261 ?_
  refine va_sld hx hb hX hbl hbA hS h_1 dL_law_262 ?_
  refine lv_aload_n hx hb dL_law_263 rfl (lv_at hl 0 rfl) ?_
  refine lv_iload_n hx hb dL_law_264 rfl (lv_at hl 3 rfl) ?_
  refine lv_iconst (v := 2) hx hb dL_law_265 (by decide) ?_
  refine lv_iadd hx hb dL_law_266 ?_
  refine va_sld hx hb hX hbl hbA hS h_2 dL_law_267 ?_
  refine lv_aload_n hx hb dL_law_268 rfl (lv_at hl 0 rfl) ?_
  refine lv_iload_n hx hb dL_law_269 rfl (lv_at hl 3 rfl) ?_
  refine lv_iconst (v := 3) hx hb dL_law_270 (by decide) ?_
  refine lv_iadd hx hb dL_law_271 ?_
  refine va_sld hx hb hX hbl hbA hS h_3 dL_law_272 ?_
  refine lv_i2l (v := (xs (nI i + 3).toNatClampNeg).toInt64) hx hb dL_law_273 rfl ?_
  refine lv_bipush (v := 32) hx hb dL_law_274 (by decide) ?_
  refine lv_lshl (v := ((xs (nI i + 3).toNatClampNeg).toInt64) <<< ((32 : Int32).toInt64 &&& 63)) hx hb dL_law_276 rfl ?_
  refine lv_aload_n hx hb dL_law_277 rfl (lv_at hl 0 rfl) ?_
  refine lv_iload_n hx hb dL_law_278 rfl (lv_at hl 3 rfl) ?_
  refine lv_iconst (v := 4) hx hb dL_law_279 (by decide) ?_
  refine lv_iadd hx hb dL_law_280 ?_
  refine va_sld hx hb hX hbl hbA hS h_4 dL_law_281 ?_
  refine lv_i2l (v := (xs (nI i + 4).toNatClampNeg).toInt64) hx hb dL_law_282 rfl ?_
  refine lv_ldc2 (v := 4294967295) hx hb hown (hts (.constantLong RL 27 4294967295) clL_law_27) dL_law_283 ?_
  refine lv_land hx hb dL_law_286 ?_
  refine lv_lor hx hb dL_law_287 ?_
  refine L_Wi (As := [.int (xs (nI i + 1).toNatClampNeg), .int (xs (nI i + 2).toNatClampNeg), .long ((((xs (nI i + 3).toNatClampNeg).toInt64) <<< ((32 : Int32).toInt64 &&& 63)) ||| (((xs (nI i + 4).toNatClampNeg).toInt64) &&& 4294967295))]) (rest := [.int ((f_X2_set S (xs (nI i + 1).toNatClampNeg) (xs (nI i + 2).toNatClampNeg) ((((xs (nI i + 3).toNatClampNeg).toInt64) <<< ((32 : Int32).toInt64 &&& 63)) ||| (((xs (nI i + 4).toNatClampNeg).toInt64) &&& 4294967295))).1)]) ⟨hx, hb, hml, hown, hts⟩ (c_X3_set l D cI cJ b2 hdb T (xs (nI i + 1).toNatClampNeg) (xs (nI i + 2).toNatClampNeg) ((((xs (nI i + 3).toNatClampNeg).toInt64) <<< ((32 : Int32).toInt64 &&& 63)) ||| (((xs (nI i + 4).toNatClampNeg).toInt64) &&& 4294967295))) (cwV 3 hts gL_law_X3_set rfl rfl rfl eeX3_set ⟨Nat.le_of_ble_eq_true rfl, Nat.le_of_ble_eq_true rfl⟩) hK hN hPm hIm (va_recv hK hPm (ci := 3) (q0 := 0) rfl rfl) hPk (hdisK _) hS hmA rfl hl.1 rfl (Nat.le_of_ble_eq_true rfl) dL_law_288 ⟨Nat.le_of_ble_eq_true rfl, Nat.le_of_ble_eq_true rfl⟩ (fun H locs hIm hPm hPk hS => ?_)
  refine lv_icmp_eq (tgt := 620) hx hb dL_law_291 (by decide) (fun c_291 => ?_) (fun c_291 => ?_)
  · obtain ⟨mm2, hR2⟩ := (op_set (xs (nI i + 1).toNatClampNeg) (xs (nI i + 2).toNatClampNeg) ((((xs (nI i + 3).toNatClampNeg).toInt64) <<< ((32 : Int32).toInt64 &&& 63)) ||| (((xs (nI i + 4).toNatClampNeg).toInt64) &&& 4294967295)) hR).2
    exact nxt _ _ mm2 _ _ hR2 hIk hIm hPk hPm hS
  · exact absurd (op_set (xs (nI i + 1).toNatClampNeg) (xs (nI i + 2).toNatClampNeg) ((((xs (nI i + 3).toNatClampNeg).toInt64) <<< ((32 : Int32).toInt64 &&& 63)) ||| (((xs (nI i + 4).toNatClampNeg).toInt64) &&& 4294967295)) hR).1 c_291
set_option maxHeartbeats 4000000 in
set_option maxRecDepth 100000 in
theorem law_4 {p : Program} {l : Launch} {e : Env} {s : State} {m : MethodId} {below : List Frame} {meth : Method} {c : Code} {D : va_G} {cI cJ : ClassId} {a b2 : Nat → Nat} {b L : Nat} {xs : Nat → Int32} (hL : L ≤ 2560) (C0 : lw_At p s m meth c b L xs) (hK : va_K D vwCl (cw_tys cI cJ) s) (hN : KN s) (hda : ∀ i j, i < 11 → j < 11 → a i = a j → i = j) (hdb : ∀ i j, i < 10 → j < 10 → b2 i = b2 j → i = j) (hab : ∀ i j, i < 11 → j < 10 → ¬ a i = b2 j) (hkA : ∀ q, kA a q → s.heap.size ≤ q) (hmA : ∀ q, mA b2 q → s.heap.size ≤ q) {i : Nat} (hi : i + 5 ≤ L) {ls : Array Slot} (hl : lv_has ls 4 [(0, .ref b), (1, .ref (a 0)), (2, .ref (b2 0)), (3, .int (nI i))]) (nxt : (∀ (S : KS) (T : MS) (mm : Nat) (H : Heap) (locs : List Loc), RelM S T mm → KInv S → MInv T → va_P D vwCl (cw cI cJ a S) H → va_P D vwCl (mw cI cJ b2 T) H → va_S (fun q : Nat => s.heap.size ≤ q) s.heap H locs → W p l e room_1 s m #[Value.ref b] below meth c H locs 21 2271 (lw_Z below #[Value.ref b] s) (F0 m 620 ls []))) (S : KS) (T : MS) (mm : Nat) (H : Heap) (locs : List Loc) (hR : RelM S T mm) (hIk : KInv S) (hIm : MInv T) (hPk : va_P D vwCl (cw cI cJ a S) H) (hPm : va_P D vwCl (mw cI cJ b2 T) H) (hS : va_S (fun q : Nat => s.heap.size ≤ q) s.heap H locs) : W p l e room_1 s m #[Value.ref b] below meth c H locs 21 2271 (lw_Z below #[Value.ref b] s) (F0 m 296 ls []) := by
  obtain ⟨hx, hb, hr, hml, hown, hts0, hX, hbl, hlocks, hgv⟩ := C0
  have hts : ∀ w ∈ wsL_law, w.before #[Value.ref b] s = true := fun w h => hts0 w (wsL_law_in w h)
  have hbA : ¬ (fun q : Nat => s.heap.size ≤ q) b := Nat.not_le.mpr hbl
  have hdisM : ∀ (T : MS) (k : Nat) (q : Nat × va_E), (mw cI cJ b2 T)[k]? = some q → ¬ kA a q.1 := fun T k q hq ⟨i, hi, e⟩ => hab i k hi (mw_at hq).1 (e.symm.trans (mw_at hq).2)
  have hdisK : ∀ (S : KS) (k : Nat) (q : Nat × va_E), (cw cI cJ a S)[k]? = some q → ¬ mA b2 q.1 := fun S k q hq ⟨i, hi, e⟩ => hab k i (cw_at hq).1 hi ((cw_at hq).2.symm.trans e)
  have h_1 : vp_in (nI i + 1) L := sc_in (k := 1) hi hL (by decide)
  have h_2 : vp_in (nI i + 2) L := sc_in (k := 2) hi hL (by decide)
  have h_3 : vp_in (nI i + 3) L := sc_in (k := 3) hi hL (by decide)
  have h_4 : vp_in (nI i + 4) L := sc_in (k := 4) hi hL (by decide)
  refine lv_aload_n hx hb dL_law_296 rfl (lv_at hl 1 rfl) ?_
  refine lv_aload_n hx hb dL_law_297 rfl (lv_at hl 0 rfl) ?_
  refine lv_iload_n hx hb dL_law_298 rfl (lv_at hl 3 rfl) ?_
  refine lv_iconst (v := 1) hx hb dL_law_299 (by decide) ?_
  refine lv_iadd hx hb dL_law_300 ?_
  refine va_sld hx hb hX hbl hbA hS h_1 dL_law_301 ?_
  refine lv_aload_n hx hb dL_law_302 rfl (lv_at hl 0 rfl) ?_
  refine lv_iload_n hx hb dL_law_303 rfl (lv_at hl 3 rfl) ?_
  refine lv_iconst (v := 2) hx hb dL_law_304 (by decide) ?_
  refine lv_iadd hx hb dL_law_305 ?_
  refine va_sld hx hb hX hbl hbA hS h_2 dL_law_306 ?_
  refine L_Rl (As := [.int (xs (nI i + 1).toNatClampNeg), .int (xs (nI i + 2).toNatClampNeg)]) (rest := []) ⟨hx, hb, hml, hown, hts⟩ (c_X2_number l D cI cJ a hda S (xs (nI i + 1).toNatClampNeg) (xs (nI i + 2).toNatClampNeg)) (cwV 2 hts gL_law_X2_number rfl rfl rfl eeX2_number ⟨Nat.le_of_ble_eq_true rfl, Nat.le_of_ble_eq_true rfl⟩) hK hN hPk hIk (va_recv hK hPk (ci := 2) (q0 := 0) rfl rfl) hPm (hdisM _) hS hkA rfl hl.1 rfl (Nat.le_of_ble_eq_true rfl) dL_law_307 ⟨Nat.le_of_ble_eq_true rfl, Nat.le_of_ble_eq_true rfl⟩ (fun H locs hPk hPm hS => ?_)
  refine lv_aload_n hx hb dL_law_310 rfl (lv_at hl 2 rfl) ?_
  refine lv_aload_n hx hb dL_law_311 rfl (lv_at hl 0 rfl) ?_
  refine lv_iload_n hx hb dL_law_312 rfl (lv_at hl 3 rfl) ?_
  refine lv_iconst (v := 1) hx hb dL_law_313 (by decide) ?_
  refine lv_iadd hx hb dL_law_314 ?_
  refine va_sld hx hb hX hbl hbA hS h_1 dL_law_315 ?_
  refine lv_aload_n hx hb dL_law_316 rfl (lv_at hl 0 rfl) ?_
  refine lv_iload_n hx hb dL_law_317 rfl (lv_at hl 3 rfl) ?_
  refine lv_iconst (v := 2) hx hb dL_law_318 (by decide) ?_
  refine lv_iadd hx hb dL_law_319 ?_
  refine va_sld hx hb hX hbl hbA hS h_2 dL_law_320 ?_
  refine L_Rl (As := [.int (xs (nI i + 1).toNatClampNeg), .int (xs (nI i + 2).toNatClampNeg)]) (rest := [.long (f_X2_number S (xs (nI i + 1).toNatClampNeg) (xs (nI i + 2).toNatClampNeg))]) ⟨hx, hb, hml, hown, hts⟩ (c_X3_number l D cI cJ b2 hdb T (xs (nI i + 1).toNatClampNeg) (xs (nI i + 2).toNatClampNeg)) (cwV 2 hts gL_law_X3_number rfl rfl rfl eeX3_number ⟨Nat.le_of_ble_eq_true rfl, Nat.le_of_ble_eq_true rfl⟩) hK hN hPm hIm (va_recv hK hPm (ci := 3) (q0 := 0) rfl rfl) hPk (hdisK _) hS hmA rfl hl.1 rfl (Nat.le_of_ble_eq_true rfl) dL_law_321 ⟨Nat.le_of_ble_eq_true rfl, Nat.le_of_ble_eq_true rfl⟩ (fun H locs hPm hPk hS => ?_)
  refine W.lcmp hx hb dL_law_324 ?_
  refine lv_if_eq (tgt := 620) hx hb dL_law_325 (by decide) (fun c_325 => ?_) (fun c_325 => ?_)
  · exact nxt _ _ mm _ _ hR hIk hIm hPk hPm hS
  · exact absurd (lcmp_eq (op_number (xs (nI i + 1).toNatClampNeg) (xs (nI i + 2).toNatClampNeg) hR)) c_325
set_option maxHeartbeats 4000000 in
set_option maxRecDepth 100000 in
theorem law_5 {p : Program} {l : Launch} {e : Env} {s : State} {m : MethodId} {below : List Frame} {meth : Method} {c : Code} {D : va_G} {cI cJ : ClassId} {a b2 : Nat → Nat} {b L : Nat} {xs : Nat → Int32} (hL : L ≤ 2560) (C0 : lw_At p s m meth c b L xs) (hK : va_K D vwCl (cw_tys cI cJ) s) (hN : KN s) (hda : ∀ i j, i < 11 → j < 11 → a i = a j → i = j) (hdb : ∀ i j, i < 10 → j < 10 → b2 i = b2 j → i = j) (hab : ∀ i j, i < 11 → j < 10 → ¬ a i = b2 j) (hkA : ∀ q, kA a q → s.heap.size ≤ q) (hmA : ∀ q, mA b2 q → s.heap.size ≤ q) {i : Nat} (hi : i + 5 ≤ L) {ls : Array Slot} (hl : lv_has ls 4 [(0, .ref b), (1, .ref (a 0)), (2, .ref (b2 0)), (3, .int (nI i))]) (nxt : (∀ (S : KS) (T : MS) (mm : Nat) (H : Heap) (locs : List Loc), RelM S T mm → KInv S → MInv T → va_P D vwCl (cw cI cJ a S) H → va_P D vwCl (mw cI cJ b2 T) H → va_S (fun q : Nat => s.heap.size ≤ q) s.heap H locs → W p l e room_1 s m #[Value.ref b] below meth c H locs 21 2271 (lw_Z below #[Value.ref b] s) (F0 m 620 ls []))) (S : KS) (T : MS) (mm : Nat) (H : Heap) (locs : List Loc) (hR : RelM S T mm) (hIk : KInv S) (hIm : MInv T) (hPk : va_P D vwCl (cw cI cJ a S) H) (hPm : va_P D vwCl (mw cI cJ b2 T) H) (hS : va_S (fun q : Nat => s.heap.size ≤ q) s.heap H locs) : W p l e room_1 s m #[Value.ref b] below meth c H locs 21 2271 (lw_Z below #[Value.ref b] s) (F0 m 330 ls []) := by
  obtain ⟨hx, hb, hr, hml, hown, hts0, hX, hbl, hlocks, hgv⟩ := C0
  have hts : ∀ w ∈ wsL_law, w.before #[Value.ref b] s = true := fun w h => hts0 w (wsL_law_in w h)
  have hbA : ¬ (fun q : Nat => s.heap.size ≤ q) b := Nat.not_le.mpr hbl
  have hdisM : ∀ (T : MS) (k : Nat) (q : Nat × va_E), (mw cI cJ b2 T)[k]? = some q → ¬ kA a q.1 := fun T k q hq ⟨i, hi, e⟩ => hab i k hi (mw_at hq).1 (e.symm.trans (mw_at hq).2)
  have hdisK : ∀ (S : KS) (k : Nat) (q : Nat × va_E), (cw cI cJ a S)[k]? = some q → ¬ mA b2 q.1 := fun S k q hq ⟨i, hi, e⟩ => hab k i (cw_at hq).1 hi ((cw_at hq).2.symm.trans e)
  have h_1 : vp_in (nI i + 1) L := sc_in (k := 1) hi hL (by decide)
  have h_2 : vp_in (nI i + 2) L := sc_in (k := 2) hi hL (by decide)
  have h_3 : vp_in (nI i + 3) L := sc_in (k := 3) hi hL (by decide)
  have h_4 : vp_in (nI i + 4) L := sc_in (k := 4) hi hL (by decide)
  refine lv_aload_n hx hb dL_law_330 rfl (lv_at hl 1 rfl) ?_
  refine lv_aload_n hx hb dL_law_331 rfl (lv_at hl 0 rfl) ?_
  refine lv_iload_n hx hb dL_law_332 rfl (lv_at hl 3 rfl) ?_
  refine lv_iconst (v := 1) hx hb dL_law_333 (by decide) ?_
  refine lv_iadd hx hb dL_law_334 ?_
  refine va_sld hx hb hX hbl hbA hS h_1 dL_law_335 ?_
  refine lv_aload_n hx hb dL_law_336 rfl (lv_at hl 0 rfl) ?_
  refine lv_iload_n hx hb dL_law_337 rfl (lv_at hl 3 rfl) ?_
  refine lv_iconst (v := 2) hx hb dL_law_338 (by decide) ?_
  refine lv_iadd hx hb dL_law_339 ?_
  refine va_sld hx hb hX hbl hbA hS h_2 dL_law_340 ?_
  refine lv_aload_n hx hb dL_law_341 rfl (lv_at hl 0 rfl) ?_
  refine lv_iload_n hx hb dL_law_342 rfl (lv_at hl 3 rfl) ?_
  refine lv_iconst (v := 3) hx hb dL_law_343 (by decide) ?_
  refine lv_iadd hx hb dL_law_344 ?_
  refine va_sld hx hb hX hbl hbA hS h_3 dL_law_345 ?_
  refine lv_aload_n hx hb dL_law_346 rfl (lv_at hl 0 rfl) ?_
  refine lv_iload_n hx hb dL_law_347 rfl (lv_at hl 3 rfl) ?_
  refine lv_iconst (v := 4) hx hb dL_law_348 (by decide) ?_
  refine lv_iadd hx hb dL_law_349 ?_
  refine va_sld hx hb hX hbl hbA hS h_4 dL_law_350 ?_
  refine L_Wi (As := [.int (xs (nI i + 1).toNatClampNeg), .int (xs (nI i + 2).toNatClampNeg), .int (xs (nI i + 3).toNatClampNeg), .int (xs (nI i + 4).toNatClampNeg)]) (rest := []) ⟨hx, hb, hml, hown, hts⟩ (c_X2_act l D cI cJ a hda S (xs (nI i + 1).toNatClampNeg) (xs (nI i + 2).toNatClampNeg) (xs (nI i + 3).toNatClampNeg) (xs (nI i + 4).toNatClampNeg)) (cwV 4 hts gL_law_X2_act rfl rfl rfl eeX2_act ⟨Nat.le_of_ble_eq_true rfl, Nat.le_of_ble_eq_true rfl⟩) hK hN hPk hIk (va_recv hK hPk (ci := 2) (q0 := 0) rfl rfl) hPm (hdisM _) hS hkA rfl hl.1 rfl (Nat.le_of_ble_eq_true rfl) dL_law_351 ⟨Nat.le_of_ble_eq_true rfl, Nat.le_of_ble_eq_true rfl⟩ (fun H locs hIk hPk hPm hS => ?_)
  refine lv_aload_n hx hb dL_law_354 rfl (lv_at hl 2 rfl) ?_
  refine lv_aload_n hx hb dL_law_355 rfl (lv_at hl 0 rfl) ?_
  refine lv_iload_n hx hb dL_law_356 rfl (lv_at hl 3 rfl) ?_
  refine lv_iconst (v := 1) hx hb dL_law_357 (by decide) ?_
  refine lv_iadd hx hb dL_law_358 ?_
  refine va_sld hx hb hX hbl hbA hS h_1 dL_law_359 ?_
  refine lv_aload_n hx hb dL_law_360 rfl (lv_at hl 0 rfl) ?_
  refine lv_iload_n hx hb dL_law_361 rfl (lv_at hl 3 rfl) ?_
  refine lv_iconst (v := 2) hx hb dL_law_362 (by decide) ?_
  refine lv_iadd hx hb dL_law_363 ?_
  refine va_sld hx hb hX hbl hbA hS h_2 dL_law_364 ?_
  refine lv_aload_n hx hb dL_law_365 rfl (lv_at hl 0 rfl) ?_
  refine lv_iload_n hx hb dL_law_366 rfl (lv_at hl 3 rfl) ?_
  refine lv_iconst (v := 3) hx hb dL_law_367 (by decide) ?_
  refine lv_iadd hx hb dL_law_368 ?_
  refine va_sld hx hb hX hbl hbA hS h_3 dL_law_369 ?_
  refine lv_aload_n hx hb dL_law_370 rfl (lv_at hl 0 rfl) ?_
  refine lv_iload_n hx hb dL_law_371 rfl (lv_at hl 3 rfl) ?_
  refine lv_iconst (v := 4) hx hb dL_law_372 (by decide) ?_
  refine lv_iadd hx hb dL_law_373 ?_
  refine va_sld hx hb hX hbl hbA hS h_4 dL_law_374 ?_
  refine L_Wi (As := [.int (xs (nI i + 1).toNatClampNeg), .int (xs (nI i + 2).toNatClampNeg), .int (xs (nI i + 3).toNatClampNeg), .int (xs (nI i + 4).toNatClampNeg)]) (rest := [.int ((f_X2_act S (xs (nI i + 1).toNatClampNeg) (xs (nI i + 2).toNatClampNeg) (xs (nI i + 3).toNatClampNeg) (xs (nI i + 4).toNatClampNeg)).1)]) ⟨hx, hb, hml, hown, hts⟩ (c_X3_act l D cI cJ b2 hdb T (xs (nI i + 1).toNatClampNeg) (xs (nI i + 2).toNatClampNeg) (xs (nI i + 3).toNatClampNeg) (xs (nI i + 4).toNatClampNeg)) (cwV 4 hts gL_law_X3_act rfl rfl rfl eeX3_act ⟨Nat.le_of_ble_eq_true rfl, Nat.le_of_ble_eq_true rfl⟩) hK hN hPm hIm (va_recv hK hPm (ci := 3) (q0 := 0) rfl rfl) hPk (hdisK _) hS hmA rfl hl.1 rfl (Nat.le_of_ble_eq_true rfl) dL_law_375 ⟨Nat.le_of_ble_eq_true rfl, Nat.le_of_ble_eq_true rfl⟩ (fun H locs hIm hPm hPk hS => ?_)
  refine lv_icmp_eq (tgt := 620) hx hb dL_law_378 (by decide) (fun c_378 => ?_) (fun c_378 => ?_)
  · obtain ⟨mm2, hR2⟩ := (op_act (xs (nI i + 1).toNatClampNeg) (xs (nI i + 2).toNatClampNeg) (xs (nI i + 3).toNatClampNeg) (xs (nI i + 4).toNatClampNeg) hR).2
    exact nxt _ _ mm2 _ _ hR2 hIk hIm hPk hPm hS
  · exact absurd (op_act (xs (nI i + 1).toNatClampNeg) (xs (nI i + 2).toNatClampNeg) (xs (nI i + 3).toNatClampNeg) (xs (nI i + 4).toNatClampNeg) hR).1 c_378
set_option maxHeartbeats 4000000 in
set_option maxRecDepth 100000 in
theorem law_6 {p : Program} {l : Launch} {e : Env} {s : State} {m : MethodId} {below : List Frame} {meth : Method} {c : Code} {D : va_G} {cI cJ : ClassId} {a b2 : Nat → Nat} {b L : Nat} {xs : Nat → Int32} (hL : L ≤ 2560) (C0 : lw_At p s m meth c b L xs) (hK : va_K D vwCl (cw_tys cI cJ) s) (hN : KN s) (hda : ∀ i j, i < 11 → j < 11 → a i = a j → i = j) (hdb : ∀ i j, i < 10 → j < 10 → b2 i = b2 j → i = j) (hab : ∀ i j, i < 11 → j < 10 → ¬ a i = b2 j) (hkA : ∀ q, kA a q → s.heap.size ≤ q) (hmA : ∀ q, mA b2 q → s.heap.size ≤ q) {i : Nat} (hi : i + 5 ≤ L) {ls : Array Slot} (hl : lv_has ls 4 [(0, .ref b), (1, .ref (a 0)), (2, .ref (b2 0)), (3, .int (nI i))]) (nxt : (∀ (S : KS) (T : MS) (mm : Nat) (H : Heap) (locs : List Loc), RelM S T mm → KInv S → MInv T → va_P D vwCl (cw cI cJ a S) H → va_P D vwCl (mw cI cJ b2 T) H → va_S (fun q : Nat => s.heap.size ≤ q) s.heap H locs → W p l e room_1 s m #[Value.ref b] below meth c H locs 21 2271 (lw_Z below #[Value.ref b] s) (F0 m 620 ls []))) (S : KS) (T : MS) (mm : Nat) (H : Heap) (locs : List Loc) (hR : RelM S T mm) (hIk : KInv S) (hIm : MInv T) (hPk : va_P D vwCl (cw cI cJ a S) H) (hPm : va_P D vwCl (mw cI cJ b2 T) H) (hS : va_S (fun q : Nat => s.heap.size ≤ q) s.heap H locs) : W p l e room_1 s m #[Value.ref b] below meth c H locs 21 2271 (lw_Z below #[Value.ref b] s) (F0 m 383 ls []) := by
  obtain ⟨hx, hb, hr, hml, hown, hts0, hX, hbl, hlocks, hgv⟩ := C0
  have hts : ∀ w ∈ wsL_law, w.before #[Value.ref b] s = true := fun w h => hts0 w (wsL_law_in w h)
  have hbA : ¬ (fun q : Nat => s.heap.size ≤ q) b := Nat.not_le.mpr hbl
  have hdisM : ∀ (T : MS) (k : Nat) (q : Nat × va_E), (mw cI cJ b2 T)[k]? = some q → ¬ kA a q.1 := fun T k q hq ⟨i, hi, e⟩ => hab i k hi (mw_at hq).1 (e.symm.trans (mw_at hq).2)
  have hdisK : ∀ (S : KS) (k : Nat) (q : Nat × va_E), (cw cI cJ a S)[k]? = some q → ¬ mA b2 q.1 := fun S k q hq ⟨i, hi, e⟩ => hab k i (cw_at hq).1 hi ((cw_at hq).2.symm.trans e)
  have h_1 : vp_in (nI i + 1) L := sc_in (k := 1) hi hL (by decide)
  have h_2 : vp_in (nI i + 2) L := sc_in (k := 2) hi hL (by decide)
  have h_3 : vp_in (nI i + 3) L := sc_in (k := 3) hi hL (by decide)
  have h_4 : vp_in (nI i + 4) L := sc_in (k := 4) hi hL (by decide)
  refine lv_aload_n hx hb dL_law_383 rfl (lv_at hl 1 rfl) ?_
  refine lv_aload_n hx hb dL_law_384 rfl (lv_at hl 0 rfl) ?_
  refine lv_iload_n hx hb dL_law_385 rfl (lv_at hl 3 rfl) ?_
  refine lv_iconst (v := 1) hx hb dL_law_386 (by decide) ?_
  refine lv_iadd hx hb dL_law_387 ?_
  refine va_sld hx hb hX hbl hbA hS h_1 dL_law_388 ?_
  refine lv_aload_n hx hb dL_law_389 rfl (lv_at hl 0 rfl) ?_
  refine lv_iload_n hx hb dL_law_390 rfl (lv_at hl 3 rfl) ?_
  refine lv_iconst (v := 2) hx hb dL_law_391 (by decide) ?_
  refine lv_iadd hx hb dL_law_392 ?_
  refine va_sld hx hb hX hbl hbA hS h_2 dL_law_393 ?_
  refine lv_aload_n hx hb dL_law_394 rfl (lv_at hl 0 rfl) ?_
  refine lv_iload_n hx hb dL_law_395 rfl (lv_at hl 3 rfl) ?_
  refine lv_iconst (v := 3) hx hb dL_law_396 (by decide) ?_
  refine lv_iadd hx hb dL_law_397 ?_
  refine va_sld hx hb hX hbl hbA hS h_3 dL_law_398 ?_
  refine lv_aload_n hx hb dL_law_399 rfl (lv_at hl 0 rfl) ?_
  refine lv_iload_n hx hb dL_law_400 rfl (lv_at hl 3 rfl) ?_
  refine lv_iconst (v := 4) hx hb dL_law_401 (by decide) ?_
  refine lv_iadd hx hb dL_law_402 ?_
  refine va_sld hx hb hX hbl hbA hS h_4 dL_law_403 ?_
  refine L_Wi (As := [.int (xs (nI i + 1).toNatClampNeg), .int (xs (nI i + 2).toNatClampNeg), .int (xs (nI i + 3).toNatClampNeg), .int (xs (nI i + 4).toNatClampNeg)]) (rest := []) ⟨hx, hb, hml, hown, hts⟩ (c_X2_step l D cI cJ a hda S (xs (nI i + 1).toNatClampNeg) (xs (nI i + 2).toNatClampNeg) (xs (nI i + 3).toNatClampNeg) (xs (nI i + 4).toNatClampNeg)) (cwV 4 hts gL_law_X2_step rfl rfl rfl eeX2_step ⟨Nat.le_of_ble_eq_true rfl, Nat.le_of_ble_eq_true rfl⟩) hK hN hPk hIk (va_recv hK hPk (ci := 2) (q0 := 0) rfl rfl) hPm (hdisM _) hS hkA rfl hl.1 rfl (Nat.le_of_ble_eq_true rfl) dL_law_404 ⟨Nat.le_of_ble_eq_true rfl, Nat.le_of_ble_eq_true rfl⟩ (fun H locs hIk hPk hPm hS => ?_)
  refine lv_aload_n hx hb dL_law_407 rfl (lv_at hl 2 rfl) ?_
  refine lv_aload_n hx hb dL_law_408 rfl (lv_at hl 0 rfl) ?_
  refine lv_iload_n hx hb dL_law_409 rfl (lv_at hl 3 rfl) ?_
  refine lv_iconst (v := 1) hx hb dL_law_410 (by decide) ?_
  refine lv_iadd hx hb dL_law_411 ?_
  refine va_sld hx hb hX hbl hbA hS h_1 dL_law_412 ?_
  refine lv_aload_n hx hb dL_law_413 rfl (lv_at hl 0 rfl) ?_
  refine lv_iload_n hx hb dL_law_414 rfl (lv_at hl 3 rfl) ?_
  refine lv_iconst (v := 2) hx hb dL_law_415 (by decide) ?_
  refine lv_iadd hx hb dL_law_416 ?_
  refine va_sld hx hb hX hbl hbA hS h_2 dL_law_417 ?_
  refine lv_aload_n hx hb dL_law_418 rfl (lv_at hl 0 rfl) ?_
  refine lv_iload_n hx hb dL_law_419 rfl (lv_at hl 3 rfl) ?_
  refine lv_iconst (v := 3) hx hb dL_law_420 (by decide) ?_
  refine lv_iadd hx hb dL_law_421 ?_
  refine va_sld hx hb hX hbl hbA hS h_3 dL_law_422 ?_
  refine lv_aload_n hx hb dL_law_423 rfl (lv_at hl 0 rfl) ?_
  refine lv_iload_n hx hb dL_law_424 rfl (lv_at hl 3 rfl) ?_
  refine lv_iconst (v := 4) hx hb dL_law_425 (by decide) ?_
  refine lv_iadd hx hb dL_law_426 ?_
  refine va_sld hx hb hX hbl hbA hS h_4 dL_law_427 ?_
  refine L_Wi (As := [.int (xs (nI i + 1).toNatClampNeg), .int (xs (nI i + 2).toNatClampNeg), .int (xs (nI i + 3).toNatClampNeg), .int (xs (nI i + 4).toNatClampNeg)]) (rest := [.int ((f_X2_step S (xs (nI i + 1).toNatClampNeg) (xs (nI i + 2).toNatClampNeg) (xs (nI i + 3).toNatClampNeg) (xs (nI i + 4).toNatClampNeg)).1)]) ⟨hx, hb, hml, hown, hts⟩ (c_X3_step l D cI cJ b2 hdb T (xs (nI i + 1).toNatClampNeg) (xs (nI i + 2).toNatClampNeg) (xs (nI i + 3).toNatClampNeg) (xs (nI i + 4).toNatClampNeg)) (cwV 4 hts gL_law_X3_step rfl rfl rfl eeX3_step ⟨Nat.le_of_ble_eq_true rfl, Nat.le_of_ble_eq_true rfl⟩) hK hN hPm hIm (va_recv hK hPm (ci := 3) (q0 := 0) rfl rfl) hPk (hdisK _) hS hmA rfl hl.1 rfl (Nat.le_of_ble_eq_true rfl) dL_law_428 ⟨Nat.le_of_ble_eq_true rfl, Nat.le_of_ble_eq_true rfl⟩ (fun H locs hIm hPm hPk hS => ?_)
  refine lv_icmp_eq (tgt := 620) hx hb dL_law_431 (by decide) (fun c_431 => ?_) (fun c_431 => ?_)
  · obtain ⟨mm2, hR2⟩ := (op_step (xs (nI i + 1).toNatClampNeg) (xs (nI i + 2).toNatClampNeg) (xs (nI i + 3).toNatClampNeg) (xs (nI i + 4).toNatClampNeg) hR).2
    exact nxt _ _ mm2 _ _ hR2 hIk hIm hPk hPm hS
  · exact absurd (op_step (xs (nI i + 1).toNatClampNeg) (xs (nI i + 2).toNatClampNeg) (xs (nI i + 3).toNatClampNeg) (xs (nI i + 4).toNatClampNeg) hR).1 c_431
set_option maxHeartbeats 4000000 in
set_option maxRecDepth 100000 in
theorem law_7 {p : Program} {l : Launch} {e : Env} {s : State} {m : MethodId} {below : List Frame} {meth : Method} {c : Code} {D : va_G} {cI cJ : ClassId} {a b2 : Nat → Nat} {b L : Nat} {xs : Nat → Int32} (hL : L ≤ 2560) (C0 : lw_At p s m meth c b L xs) (hK : va_K D vwCl (cw_tys cI cJ) s) (hN : KN s) (hda : ∀ i j, i < 11 → j < 11 → a i = a j → i = j) (hdb : ∀ i j, i < 10 → j < 10 → b2 i = b2 j → i = j) (hab : ∀ i j, i < 11 → j < 10 → ¬ a i = b2 j) (hkA : ∀ q, kA a q → s.heap.size ≤ q) (hmA : ∀ q, mA b2 q → s.heap.size ≤ q) {i : Nat} (hi : i + 5 ≤ L) {ls : Array Slot} (hl : lv_has ls 4 [(0, .ref b), (1, .ref (a 0)), (2, .ref (b2 0)), (3, .int (nI i))]) (nxt : (∀ (S : KS) (T : MS) (mm : Nat) (H : Heap) (locs : List Loc), RelM S T mm → KInv S → MInv T → va_P D vwCl (cw cI cJ a S) H → va_P D vwCl (mw cI cJ b2 T) H → va_S (fun q : Nat => s.heap.size ≤ q) s.heap H locs → W p l e room_1 s m #[Value.ref b] below meth c H locs 21 2271 (lw_Z below #[Value.ref b] s) (F0 m 620 ls []))) (S : KS) (T : MS) (mm : Nat) (H : Heap) (locs : List Loc) (hR : RelM S T mm) (hIk : KInv S) (hIm : MInv T) (hPk : va_P D vwCl (cw cI cJ a S) H) (hPm : va_P D vwCl (mw cI cJ b2 T) H) (hS : va_S (fun q : Nat => s.heap.size ≤ q) s.heap H locs) : W p l e room_1 s m #[Value.ref b] below meth c H locs 21 2271 (lw_Z below #[Value.ref b] s) (F0 m 436 ls []) := by
  obtain ⟨hx, hb, hr, hml, hown, hts0, hX, hbl, hlocks, hgv⟩ := C0
  have hts : ∀ w ∈ wsL_law, w.before #[Value.ref b] s = true := fun w h => hts0 w (wsL_law_in w h)
  have hbA : ¬ (fun q : Nat => s.heap.size ≤ q) b := Nat.not_le.mpr hbl
  have hdisM : ∀ (T : MS) (k : Nat) (q : Nat × va_E), (mw cI cJ b2 T)[k]? = some q → ¬ kA a q.1 := fun T k q hq ⟨i, hi, e⟩ => hab i k hi (mw_at hq).1 (e.symm.trans (mw_at hq).2)
  have hdisK : ∀ (S : KS) (k : Nat) (q : Nat × va_E), (cw cI cJ a S)[k]? = some q → ¬ mA b2 q.1 := fun S k q hq ⟨i, hi, e⟩ => hab k i (cw_at hq).1 hi ((cw_at hq).2.symm.trans e)
  have h_1 : vp_in (nI i + 1) L := sc_in (k := 1) hi hL (by decide)
  have h_2 : vp_in (nI i + 2) L := sc_in (k := 2) hi hL (by decide)
  have h_3 : vp_in (nI i + 3) L := sc_in (k := 3) hi hL (by decide)
  have h_4 : vp_in (nI i + 4) L := sc_in (k := 4) hi hL (by decide)
  refine lv_aload_n hx hb dL_law_436 rfl (lv_at hl 1 rfl) ?_
  refine lv_aload_n hx hb dL_law_437 rfl (lv_at hl 0 rfl) ?_
  refine lv_iload_n hx hb dL_law_438 rfl (lv_at hl 3 rfl) ?_
  refine lv_iconst (v := 1) hx hb dL_law_439 (by decide) ?_
  refine lv_iadd hx hb dL_law_440 ?_
  refine va_sld hx hb hX hbl hbA hS h_1 dL_law_441 ?_
  refine lv_aload_n hx hb dL_law_442 rfl (lv_at hl 0 rfl) ?_
  refine lv_iload_n hx hb dL_law_443 rfl (lv_at hl 3 rfl) ?_
  refine lv_iconst (v := 2) hx hb dL_law_444 (by decide) ?_
  refine lv_iadd hx hb dL_law_445 ?_
  refine va_sld hx hb hX hbl hbA hS h_2 dL_law_446 ?_
  refine L_Wi (As := [.int (xs (nI i + 1).toNatClampNeg), .int (xs (nI i + 2).toNatClampNeg)]) (rest := []) ⟨hx, hb, hml, hown, hts⟩ (c_X2_play l D cI cJ a hda S (xs (nI i + 1).toNatClampNeg) (xs (nI i + 2).toNatClampNeg)) (cwV 2 hts gL_law_X2_play rfl rfl rfl eeX2_play ⟨Nat.le_of_ble_eq_true rfl, Nat.le_of_ble_eq_true rfl⟩) hK hN hPk hIk (va_recv hK hPk (ci := 2) (q0 := 0) rfl rfl) hPm (hdisM _) hS hkA rfl hl.1 rfl (Nat.le_of_ble_eq_true rfl) dL_law_447 ⟨Nat.le_of_ble_eq_true rfl, Nat.le_of_ble_eq_true rfl⟩ (fun H locs hIk hPk hPm hS => ?_)
  refine lv_aload_n hx hb dL_law_450 rfl (lv_at hl 2 rfl) ?_
  refine lv_aload_n hx hb dL_law_451 rfl (lv_at hl 0 rfl) ?_
  refine lv_iload_n hx hb dL_law_452 rfl (lv_at hl 3 rfl) ?_
  refine lv_iconst (v := 1) hx hb dL_law_453 (by decide) ?_
  refine lv_iadd hx hb dL_law_454 ?_
  refine va_sld hx hb hX hbl hbA hS h_1 dL_law_455 ?_
  refine lv_aload_n hx hb dL_law_456 rfl (lv_at hl 0 rfl) ?_
  refine lv_iload_n hx hb dL_law_457 rfl (lv_at hl 3 rfl) ?_
  refine lv_iconst (v := 2) hx hb dL_law_458 (by decide) ?_
  refine lv_iadd hx hb dL_law_459 ?_
  refine va_sld hx hb hX hbl hbA hS h_2 dL_law_460 ?_
  refine L_Wi (As := [.int (xs (nI i + 1).toNatClampNeg), .int (xs (nI i + 2).toNatClampNeg)]) (rest := [.int ((f_X2_play S (xs (nI i + 1).toNatClampNeg) (xs (nI i + 2).toNatClampNeg)).1)]) ⟨hx, hb, hml, hown, hts⟩ (c_X3_play l D cI cJ b2 hdb T (xs (nI i + 1).toNatClampNeg) (xs (nI i + 2).toNatClampNeg)) (cwV 2 hts gL_law_X3_play rfl rfl rfl eeX3_play ⟨Nat.le_of_ble_eq_true rfl, Nat.le_of_ble_eq_true rfl⟩) hK hN hPm hIm (va_recv hK hPm (ci := 3) (q0 := 0) rfl rfl) hPk (hdisK _) hS hmA rfl hl.1 rfl (Nat.le_of_ble_eq_true rfl) dL_law_461 ⟨Nat.le_of_ble_eq_true rfl, Nat.le_of_ble_eq_true rfl⟩ (fun H locs hIm hPm hPk hS => ?_)
  refine lv_icmp_eq (tgt := 620) hx hb dL_law_464 (by decide) (fun c_464 => ?_) (fun c_464 => ?_)
  · obtain ⟨mm2, hR2⟩ := (op_play (xs (nI i + 1).toNatClampNeg) (xs (nI i + 2).toNatClampNeg) hR).2
    exact nxt _ _ mm2 _ _ hR2 hIk hIm hPk hPm hS
  · exact absurd (op_play (xs (nI i + 1).toNatClampNeg) (xs (nI i + 2).toNatClampNeg) hR).1 c_464
set_option maxHeartbeats 4000000 in
set_option maxRecDepth 100000 in
theorem law_8 {p : Program} {l : Launch} {e : Env} {s : State} {m : MethodId} {below : List Frame} {meth : Method} {c : Code} {D : va_G} {cI cJ : ClassId} {a b2 : Nat → Nat} {b L : Nat} {xs : Nat → Int32} (hL : L ≤ 2560) (C0 : lw_At p s m meth c b L xs) (hK : va_K D vwCl (cw_tys cI cJ) s) (hN : KN s) (hda : ∀ i j, i < 11 → j < 11 → a i = a j → i = j) (hdb : ∀ i j, i < 10 → j < 10 → b2 i = b2 j → i = j) (hab : ∀ i j, i < 11 → j < 10 → ¬ a i = b2 j) (hkA : ∀ q, kA a q → s.heap.size ≤ q) (hmA : ∀ q, mA b2 q → s.heap.size ≤ q) {i : Nat} (hi : i + 5 ≤ L) {ls : Array Slot} (hl : lv_has ls 4 [(0, .ref b), (1, .ref (a 0)), (2, .ref (b2 0)), (3, .int (nI i))]) (nxt : (∀ (S : KS) (T : MS) (mm : Nat) (H : Heap) (locs : List Loc), RelM S T mm → KInv S → MInv T → va_P D vwCl (cw cI cJ a S) H → va_P D vwCl (mw cI cJ b2 T) H → va_S (fun q : Nat => s.heap.size ≤ q) s.heap H locs → W p l e room_1 s m #[Value.ref b] below meth c H locs 21 2271 (lw_Z below #[Value.ref b] s) (F0 m 620 ls []))) (S : KS) (T : MS) (mm : Nat) (H : Heap) (locs : List Loc) (hR : RelM S T mm) (hIk : KInv S) (hIm : MInv T) (hPk : va_P D vwCl (cw cI cJ a S) H) (hPm : va_P D vwCl (mw cI cJ b2 T) H) (hS : va_S (fun q : Nat => s.heap.size ≤ q) s.heap H locs) : W p l e room_1 s m #[Value.ref b] below meth c H locs 21 2271 (lw_Z below #[Value.ref b] s) (F0 m 469 ls []) := by
  obtain ⟨hx, hb, hr, hml, hown, hts0, hX, hbl, hlocks, hgv⟩ := C0
  have hts : ∀ w ∈ wsL_law, w.before #[Value.ref b] s = true := fun w h => hts0 w (wsL_law_in w h)
  have hbA : ¬ (fun q : Nat => s.heap.size ≤ q) b := Nat.not_le.mpr hbl
  have hdisM : ∀ (T : MS) (k : Nat) (q : Nat × va_E), (mw cI cJ b2 T)[k]? = some q → ¬ kA a q.1 := fun T k q hq ⟨i, hi, e⟩ => hab i k hi (mw_at hq).1 (e.symm.trans (mw_at hq).2)
  have hdisK : ∀ (S : KS) (k : Nat) (q : Nat × va_E), (cw cI cJ a S)[k]? = some q → ¬ mA b2 q.1 := fun S k q hq ⟨i, hi, e⟩ => hab k i (cw_at hq).1 hi ((cw_at hq).2.symm.trans e)
  have h_1 : vp_in (nI i + 1) L := sc_in (k := 1) hi hL (by decide)
  have h_2 : vp_in (nI i + 2) L := sc_in (k := 2) hi hL (by decide)
  have h_3 : vp_in (nI i + 3) L := sc_in (k := 3) hi hL (by decide)
  have h_4 : vp_in (nI i + 4) L := sc_in (k := 4) hi hL (by decide)
  refine lv_aload_n hx hb dL_law_469 rfl (lv_at hl 1 rfl) ?_
  refine L_Ri (As := []) (rest := []) ⟨hx, hb, hml, hown, hts⟩ (c_X2_stopped l D cI cJ a hda S ) (cwV 0 hts gL_law_X2_stopped rfl rfl rfl eeX2_stopped ⟨Nat.le_of_ble_eq_true rfl, Nat.le_of_ble_eq_true rfl⟩) hK hN hPk hIk (va_recv hK hPk (ci := 2) (q0 := 0) rfl rfl) hPm (hdisM _) hS hkA rfl hl.1 rfl (Nat.le_of_ble_eq_true rfl) dL_law_470 ⟨Nat.le_of_ble_eq_true rfl, Nat.le_of_ble_eq_true rfl⟩ (fun H locs hPk hPm hS => ?_)
  refine lv_aload_n hx hb dL_law_473 rfl (lv_at hl 2 rfl) ?_
  refine L_Ri (As := []) (rest := [.int (f_X2_stopped S)]) ⟨hx, hb, hml, hown, hts⟩ (c_X3_stopped l D cI cJ b2 hdb T ) (cwV 0 hts gL_law_X3_stopped rfl rfl rfl eeX3_stopped ⟨Nat.le_of_ble_eq_true rfl, Nat.le_of_ble_eq_true rfl⟩) hK hN hPm hIm (va_recv hK hPm (ci := 3) (q0 := 0) rfl rfl) hPk (hdisK _) hS hmA rfl hl.1 rfl (Nat.le_of_ble_eq_true rfl) dL_law_474 ⟨Nat.le_of_ble_eq_true rfl, Nat.le_of_ble_eq_true rfl⟩ (fun H locs hPm hPk hS => ?_)
  refine lv_icmp_eq (tgt := 620) hx hb dL_law_477 (by decide) (fun c_477 => ?_) (fun c_477 => ?_)
  · exact nxt _ _ mm _ _ hR hIk hIm hPk hPm hS
  · exact absurd (op_stopped  hR) c_477
set_option maxHeartbeats 4000000 in
set_option maxRecDepth 100000 in
theorem law_9 {p : Program} {l : Launch} {e : Env} {s : State} {m : MethodId} {below : List Frame} {meth : Method} {c : Code} {D : va_G} {cI cJ : ClassId} {a b2 : Nat → Nat} {b L : Nat} {xs : Nat → Int32} (hL : L ≤ 2560) (C0 : lw_At p s m meth c b L xs) (hK : va_K D vwCl (cw_tys cI cJ) s) (hN : KN s) (hda : ∀ i j, i < 11 → j < 11 → a i = a j → i = j) (hdb : ∀ i j, i < 10 → j < 10 → b2 i = b2 j → i = j) (hab : ∀ i j, i < 11 → j < 10 → ¬ a i = b2 j) (hkA : ∀ q, kA a q → s.heap.size ≤ q) (hmA : ∀ q, mA b2 q → s.heap.size ≤ q) {i : Nat} (hi : i + 5 ≤ L) {ls : Array Slot} (hl : lv_has ls 4 [(0, .ref b), (1, .ref (a 0)), (2, .ref (b2 0)), (3, .int (nI i))]) (nxt : (∀ (S : KS) (T : MS) (mm : Nat) (H : Heap) (locs : List Loc), RelM S T mm → KInv S → MInv T → va_P D vwCl (cw cI cJ a S) H → va_P D vwCl (mw cI cJ b2 T) H → va_S (fun q : Nat => s.heap.size ≤ q) s.heap H locs → W p l e room_1 s m #[Value.ref b] below meth c H locs 21 2271 (lw_Z below #[Value.ref b] s) (F0 m 620 ls []))) (S : KS) (T : MS) (mm : Nat) (H : Heap) (locs : List Loc) (hR : RelM S T mm) (hIk : KInv S) (hIm : MInv T) (hPk : va_P D vwCl (cw cI cJ a S) H) (hPm : va_P D vwCl (mw cI cJ b2 T) H) (hS : va_S (fun q : Nat => s.heap.size ≤ q) s.heap H locs) : W p l e room_1 s m #[Value.ref b] below meth c H locs 21 2271 (lw_Z below #[Value.ref b] s) (F0 m 482 ls []) := by
  obtain ⟨hx, hb, hr, hml, hown, hts0, hX, hbl, hlocks, hgv⟩ := C0
  have hts : ∀ w ∈ wsL_law, w.before #[Value.ref b] s = true := fun w h => hts0 w (wsL_law_in w h)
  have hbA : ¬ (fun q : Nat => s.heap.size ≤ q) b := Nat.not_le.mpr hbl
  have hdisM : ∀ (T : MS) (k : Nat) (q : Nat × va_E), (mw cI cJ b2 T)[k]? = some q → ¬ kA a q.1 := fun T k q hq ⟨i, hi, e⟩ => hab i k hi (mw_at hq).1 (e.symm.trans (mw_at hq).2)
  have hdisK : ∀ (S : KS) (k : Nat) (q : Nat × va_E), (cw cI cJ a S)[k]? = some q → ¬ mA b2 q.1 := fun S k q hq ⟨i, hi, e⟩ => hab k i (cw_at hq).1 hi ((cw_at hq).2.symm.trans e)
  have h_1 : vp_in (nI i + 1) L := sc_in (k := 1) hi hL (by decide)
  have h_2 : vp_in (nI i + 2) L := sc_in (k := 2) hi hL (by decide)
  have h_3 : vp_in (nI i + 3) L := sc_in (k := 3) hi hL (by decide)
  have h_4 : vp_in (nI i + 4) L := sc_in (k := 4) hi hL (by decide)
  refine lv_aload_n hx hb dL_law_482 rfl (lv_at hl 1 rfl) ?_
  refine lv_aload_n hx hb dL_law_483 rfl (lv_at hl 0 rfl) ?_
  refine lv_iload_n hx hb dL_law_484 rfl (lv_at hl 3 rfl) ?_
  refine lv_iconst (v := 1) hx hb dL_law_485 (by decide) ?_
  refine lv_iadd hx hb dL_law_486 ?_
  refine va_sld hx hb hX hbl hbA hS h_1 dL_law_487 ?_
  refine L_Wi (As := [.int (xs (nI i + 1).toNatClampNeg)]) (rest := []) ⟨hx, hb, hml, hown, hts⟩ (c_X2_empty l D cI cJ a hda S (xs (nI i + 1).toNatClampNeg)) (cwV 1 hts gL_law_X2_empty rfl rfl rfl eeX2_empty ⟨Nat.le_of_ble_eq_true rfl, Nat.le_of_ble_eq_true rfl⟩) hK hN hPk hIk (va_recv hK hPk (ci := 2) (q0 := 0) rfl rfl) hPm (hdisM _) hS hkA rfl hl.1 rfl (Nat.le_of_ble_eq_true rfl) dL_law_488 ⟨Nat.le_of_ble_eq_true rfl, Nat.le_of_ble_eq_true rfl⟩ (fun H locs hIk hPk hPm hS => ?_)
  refine lv_aload_n hx hb dL_law_491 rfl (lv_at hl 2 rfl) ?_
  refine lv_aload_n hx hb dL_law_492 rfl (lv_at hl 0 rfl) ?_
  refine lv_iload_n hx hb dL_law_493 rfl (lv_at hl 3 rfl) ?_
  refine lv_iconst (v := 1) hx hb dL_law_494 (by decide) ?_
  refine lv_iadd hx hb dL_law_495 ?_
  refine va_sld hx hb hX hbl hbA hS h_1 dL_law_496 ?_
  refine L_Wi (As := [.int (xs (nI i + 1).toNatClampNeg)]) (rest := [.int ((f_X2_empty S (xs (nI i + 1).toNatClampNeg)).1)]) ⟨hx, hb, hml, hown, hts⟩ (c_X3_empty l D cI cJ b2 hdb T (xs (nI i + 1).toNatClampNeg)) (cwV 1 hts gL_law_X3_empty rfl rfl rfl eeX3_empty ⟨Nat.le_of_ble_eq_true rfl, Nat.le_of_ble_eq_true rfl⟩) hK hN hPm hIm (va_recv hK hPm (ci := 3) (q0 := 0) rfl rfl) hPk (hdisK _) hS hmA rfl hl.1 rfl (Nat.le_of_ble_eq_true rfl) dL_law_497 ⟨Nat.le_of_ble_eq_true rfl, Nat.le_of_ble_eq_true rfl⟩ (fun H locs hIm hPm hPk hS => ?_)
  refine lv_icmp_eq (tgt := 620) hx hb dL_law_500 (by decide) (fun c_500 => ?_) (fun c_500 => ?_)
  · obtain ⟨mm2, hR2⟩ := (op_empty (xs (nI i + 1).toNatClampNeg) hR).2
    exact nxt _ _ mm2 _ _ hR2 hIk hIm hPk hPm hS
  · exact absurd (op_empty (xs (nI i + 1).toNatClampNeg) hR).1 c_500
set_option maxHeartbeats 4000000 in
set_option maxRecDepth 100000 in
theorem law_10 {p : Program} {l : Launch} {e : Env} {s : State} {m : MethodId} {below : List Frame} {meth : Method} {c : Code} {D : va_G} {cI cJ : ClassId} {a b2 : Nat → Nat} {b L : Nat} {xs : Nat → Int32} (hL : L ≤ 2560) (C0 : lw_At p s m meth c b L xs) (hK : va_K D vwCl (cw_tys cI cJ) s) (hN : KN s) (hda : ∀ i j, i < 11 → j < 11 → a i = a j → i = j) (hdb : ∀ i j, i < 10 → j < 10 → b2 i = b2 j → i = j) (hab : ∀ i j, i < 11 → j < 10 → ¬ a i = b2 j) (hkA : ∀ q, kA a q → s.heap.size ≤ q) (hmA : ∀ q, mA b2 q → s.heap.size ≤ q) {i : Nat} (hi : i + 5 ≤ L) {ls : Array Slot} (hl : lv_has ls 4 [(0, .ref b), (1, .ref (a 0)), (2, .ref (b2 0)), (3, .int (nI i))]) (nxt : (∀ (S : KS) (T : MS) (mm : Nat) (H : Heap) (locs : List Loc), RelM S T mm → KInv S → MInv T → va_P D vwCl (cw cI cJ a S) H → va_P D vwCl (mw cI cJ b2 T) H → va_S (fun q : Nat => s.heap.size ≤ q) s.heap H locs → W p l e room_1 s m #[Value.ref b] below meth c H locs 21 2271 (lw_Z below #[Value.ref b] s) (F0 m 620 ls []))) (S : KS) (T : MS) (mm : Nat) (H : Heap) (locs : List Loc) (hR : RelM S T mm) (hIk : KInv S) (hIm : MInv T) (hPk : va_P D vwCl (cw cI cJ a S) H) (hPm : va_P D vwCl (mw cI cJ b2 T) H) (hS : va_S (fun q : Nat => s.heap.size ≤ q) s.heap H locs) : W p l e room_1 s m #[Value.ref b] below meth c H locs 21 2271 (lw_Z below #[Value.ref b] s) (F0 m 505 ls []) := by
  obtain ⟨hx, hb, hr, hml, hown, hts0, hX, hbl, hlocks, hgv⟩ := C0
  have hts : ∀ w ∈ wsL_law, w.before #[Value.ref b] s = true := fun w h => hts0 w (wsL_law_in w h)
  have hbA : ¬ (fun q : Nat => s.heap.size ≤ q) b := Nat.not_le.mpr hbl
  have hdisM : ∀ (T : MS) (k : Nat) (q : Nat × va_E), (mw cI cJ b2 T)[k]? = some q → ¬ kA a q.1 := fun T k q hq ⟨i, hi, e⟩ => hab i k hi (mw_at hq).1 (e.symm.trans (mw_at hq).2)
  have hdisK : ∀ (S : KS) (k : Nat) (q : Nat × va_E), (cw cI cJ a S)[k]? = some q → ¬ mA b2 q.1 := fun S k q hq ⟨i, hi, e⟩ => hab k i (cw_at hq).1 hi ((cw_at hq).2.symm.trans e)
  have h_1 : vp_in (nI i + 1) L := sc_in (k := 1) hi hL (by decide)
  have h_2 : vp_in (nI i + 2) L := sc_in (k := 2) hi hL (by decide)
  have h_3 : vp_in (nI i + 3) L := sc_in (k := 3) hi hL (by decide)
  have h_4 : vp_in (nI i + 4) L := sc_in (k := 4) hi hL (by decide)
  refine lv_aload_n hx hb dL_law_505 rfl (lv_at hl 1 rfl) ?_
  refine lv_aload_n hx hb dL_law_506 rfl (lv_at hl 0 rfl) ?_
  refine lv_iload_n hx hb dL_law_507 rfl (lv_at hl 3 rfl) ?_
  refine lv_iconst (v := 1) hx hb dL_law_508 (by decide) ?_
  refine lv_iadd hx hb dL_law_509 ?_
  refine va_sld hx hb hX hbl hbA hS h_1 dL_law_510 ?_
  refine lv_aload_n hx hb dL_law_511 rfl (lv_at hl 0 rfl) ?_
  refine lv_iload_n hx hb dL_law_512 rfl (lv_at hl 3 rfl) ?_
  refine lv_iconst (v := 2) hx hb dL_law_513 (by decide) ?_
  refine lv_iadd hx hb dL_law_514 ?_
  refine va_sld hx hb hX hbl hbA hS h_2 dL_law_515 ?_
  refine L_Ri (As := [.int (xs (nI i + 1).toNatClampNeg), .int (xs (nI i + 2).toNatClampNeg)]) (rest := []) ⟨hx, hb, hml, hown, hts⟩ (c_X2_is l D cI cJ a hda S (xs (nI i + 1).toNatClampNeg) (xs (nI i + 2).toNatClampNeg)) (cwV 2 hts gL_law_X2_is rfl rfl rfl eeX2_is ⟨Nat.le_of_ble_eq_true rfl, Nat.le_of_ble_eq_true rfl⟩) hK hN hPk hIk (va_recv hK hPk (ci := 2) (q0 := 0) rfl rfl) hPm (hdisM _) hS hkA rfl hl.1 rfl (Nat.le_of_ble_eq_true rfl) dL_law_516 ⟨Nat.le_of_ble_eq_true rfl, Nat.le_of_ble_eq_true rfl⟩ (fun H locs hPk hPm hS => ?_)
  refine lv_aload_n hx hb dL_law_519 rfl (lv_at hl 2 rfl) ?_
  refine lv_aload_n hx hb dL_law_520 rfl (lv_at hl 0 rfl) ?_
  refine lv_iload_n hx hb dL_law_521 rfl (lv_at hl 3 rfl) ?_
  refine lv_iconst (v := 1) hx hb dL_law_522 (by decide) ?_
  refine lv_iadd hx hb dL_law_523 ?_
  refine va_sld hx hb hX hbl hbA hS h_1 dL_law_524 ?_
  refine lv_aload_n hx hb dL_law_525 rfl (lv_at hl 0 rfl) ?_
  refine lv_iload_n hx hb dL_law_526 rfl (lv_at hl 3 rfl) ?_
  refine lv_iconst (v := 2) hx hb dL_law_527 (by decide) ?_
  refine lv_iadd hx hb dL_law_528 ?_
  refine va_sld hx hb hX hbl hbA hS h_2 dL_law_529 ?_
  refine L_Ri (As := [.int (xs (nI i + 1).toNatClampNeg), .int (xs (nI i + 2).toNatClampNeg)]) (rest := [.int (f_X2_is S (xs (nI i + 1).toNatClampNeg) (xs (nI i + 2).toNatClampNeg))]) ⟨hx, hb, hml, hown, hts⟩ (c_X3_is l D cI cJ b2 hdb T (xs (nI i + 1).toNatClampNeg) (xs (nI i + 2).toNatClampNeg)) (cwV 2 hts gL_law_X3_is rfl rfl rfl eeX3_is ⟨Nat.le_of_ble_eq_true rfl, Nat.le_of_ble_eq_true rfl⟩) hK hN hPm hIm (va_recv hK hPm (ci := 3) (q0 := 0) rfl rfl) hPk (hdisK _) hS hmA rfl hl.1 rfl (Nat.le_of_ble_eq_true rfl) dL_law_530 ⟨Nat.le_of_ble_eq_true rfl, Nat.le_of_ble_eq_true rfl⟩ (fun H locs hPm hPk hS => ?_)
  refine lv_icmp_eq (tgt := 620) hx hb dL_law_533 (by decide) (fun c_533 => ?_) (fun c_533 => ?_)
  · exact nxt _ _ mm _ _ hR hIk hIm hPk hPm hS
  · exact absurd (op_is (xs (nI i + 1).toNatClampNeg) (xs (nI i + 2).toNatClampNeg) hR) c_533
set_option maxHeartbeats 4000000 in
set_option maxRecDepth 100000 in
theorem law_11 {p : Program} {l : Launch} {e : Env} {s : State} {m : MethodId} {below : List Frame} {meth : Method} {c : Code} {D : va_G} {cI cJ : ClassId} {a b2 : Nat → Nat} {b L : Nat} {xs : Nat → Int32} (hL : L ≤ 2560) (C0 : lw_At p s m meth c b L xs) (hK : va_K D vwCl (cw_tys cI cJ) s) (hN : KN s) (hda : ∀ i j, i < 11 → j < 11 → a i = a j → i = j) (hdb : ∀ i j, i < 10 → j < 10 → b2 i = b2 j → i = j) (hab : ∀ i j, i < 11 → j < 10 → ¬ a i = b2 j) (hkA : ∀ q, kA a q → s.heap.size ≤ q) (hmA : ∀ q, mA b2 q → s.heap.size ≤ q) {i : Nat} (hi : i + 5 ≤ L) {ls : Array Slot} (hl : lv_has ls 4 [(0, .ref b), (1, .ref (a 0)), (2, .ref (b2 0)), (3, .int (nI i))]) (nxt : (∀ (S : KS) (T : MS) (mm : Nat) (H : Heap) (locs : List Loc), RelM S T mm → KInv S → MInv T → va_P D vwCl (cw cI cJ a S) H → va_P D vwCl (mw cI cJ b2 T) H → va_S (fun q : Nat => s.heap.size ≤ q) s.heap H locs → W p l e room_1 s m #[Value.ref b] below meth c H locs 21 2271 (lw_Z below #[Value.ref b] s) (F0 m 620 ls []))) (S : KS) (T : MS) (mm : Nat) (H : Heap) (locs : List Loc) (hR : RelM S T mm) (hIk : KInv S) (hIm : MInv T) (hPk : va_P D vwCl (cw cI cJ a S) H) (hPm : va_P D vwCl (mw cI cJ b2 T) H) (hS : va_S (fun q : Nat => s.heap.size ≤ q) s.heap H locs) : W p l e room_1 s m #[Value.ref b] below meth c H locs 21 2271 (lw_Z below #[Value.ref b] s) (F0 m 538 ls []) := by
  obtain ⟨hx, hb, hr, hml, hown, hts0, hX, hbl, hlocks, hgv⟩ := C0
  have hts : ∀ w ∈ wsL_law, w.before #[Value.ref b] s = true := fun w h => hts0 w (wsL_law_in w h)
  have hbA : ¬ (fun q : Nat => s.heap.size ≤ q) b := Nat.not_le.mpr hbl
  have hdisM : ∀ (T : MS) (k : Nat) (q : Nat × va_E), (mw cI cJ b2 T)[k]? = some q → ¬ kA a q.1 := fun T k q hq ⟨i, hi, e⟩ => hab i k hi (mw_at hq).1 (e.symm.trans (mw_at hq).2)
  have hdisK : ∀ (S : KS) (k : Nat) (q : Nat × va_E), (cw cI cJ a S)[k]? = some q → ¬ mA b2 q.1 := fun S k q hq ⟨i, hi, e⟩ => hab k i (cw_at hq).1 hi ((cw_at hq).2.symm.trans e)
  have h_1 : vp_in (nI i + 1) L := sc_in (k := 1) hi hL (by decide)
  have h_2 : vp_in (nI i + 2) L := sc_in (k := 2) hi hL (by decide)
  have h_3 : vp_in (nI i + 3) L := sc_in (k := 3) hi hL (by decide)
  have h_4 : vp_in (nI i + 4) L := sc_in (k := 4) hi hL (by decide)
  refine lv_aload_n hx hb dL_law_538 rfl (lv_at hl 1 rfl) ?_
  refine lv_aload_n hx hb dL_law_539 rfl (lv_at hl 0 rfl) ?_
  refine lv_iload_n hx hb dL_law_540 rfl (lv_at hl 3 rfl) ?_
  refine lv_iconst (v := 1) hx hb dL_law_541 (by decide) ?_
  refine lv_iadd hx hb dL_law_542 ?_
  refine va_sld hx hb hX hbl hbA hS h_1 dL_law_543 ?_
  refine L_Ri (As := [.int (xs (nI i + 1).toNatClampNeg)]) (rest := []) ⟨hx, hb, hml, hown, hts⟩ (c_X2_views l D cI cJ a hda S (xs (nI i + 1).toNatClampNeg)) (cwV 1 hts gL_law_X2_views rfl rfl rfl eeX2_views ⟨Nat.le_of_ble_eq_true rfl, Nat.le_of_ble_eq_true rfl⟩) hK hN hPk hIk (va_recv hK hPk (ci := 2) (q0 := 0) rfl rfl) hPm (hdisM _) hS hkA rfl hl.1 rfl (Nat.le_of_ble_eq_true rfl) dL_law_544 ⟨Nat.le_of_ble_eq_true rfl, Nat.le_of_ble_eq_true rfl⟩ (fun H locs hPk hPm hS => ?_)
  refine lv_aload_n hx hb dL_law_547 rfl (lv_at hl 2 rfl) ?_
  refine lv_aload_n hx hb dL_law_548 rfl (lv_at hl 0 rfl) ?_
  refine lv_iload_n hx hb dL_law_549 rfl (lv_at hl 3 rfl) ?_
  refine lv_iconst (v := 1) hx hb dL_law_550 (by decide) ?_
  refine lv_iadd hx hb dL_law_551 ?_
  refine va_sld hx hb hX hbl hbA hS h_1 dL_law_552 ?_
  refine L_Ri (As := [.int (xs (nI i + 1).toNatClampNeg)]) (rest := [.int (f_X2_views S (xs (nI i + 1).toNatClampNeg))]) ⟨hx, hb, hml, hown, hts⟩ (c_X3_views l D cI cJ b2 hdb T (xs (nI i + 1).toNatClampNeg)) (cwV 1 hts gL_law_X3_views rfl rfl rfl eeX3_views ⟨Nat.le_of_ble_eq_true rfl, Nat.le_of_ble_eq_true rfl⟩) hK hN hPm hIm (va_recv hK hPm (ci := 3) (q0 := 0) rfl rfl) hPk (hdisK _) hS hmA rfl hl.1 rfl (Nat.le_of_ble_eq_true rfl) dL_law_553 ⟨Nat.le_of_ble_eq_true rfl, Nat.le_of_ble_eq_true rfl⟩ (fun H locs hPm hPk hS => ?_)
  refine lv_icmp_eq (tgt := 620) hx hb dL_law_556 (by decide) (fun c_556 => ?_) (fun c_556 => ?_)
  · exact nxt _ _ mm _ _ hR hIk hIm hPk hPm hS
  · exact absurd (op_views (xs (nI i + 1).toNatClampNeg) hR) c_556
set_option maxHeartbeats 4000000 in
set_option maxRecDepth 100000 in
theorem law_12 {p : Program} {l : Launch} {e : Env} {s : State} {m : MethodId} {below : List Frame} {meth : Method} {c : Code} {D : va_G} {cI cJ : ClassId} {a b2 : Nat → Nat} {b L : Nat} {xs : Nat → Int32} (hL : L ≤ 2560) (C0 : lw_At p s m meth c b L xs) (hK : va_K D vwCl (cw_tys cI cJ) s) (hN : KN s) (hda : ∀ i j, i < 11 → j < 11 → a i = a j → i = j) (hdb : ∀ i j, i < 10 → j < 10 → b2 i = b2 j → i = j) (hab : ∀ i j, i < 11 → j < 10 → ¬ a i = b2 j) (hkA : ∀ q, kA a q → s.heap.size ≤ q) (hmA : ∀ q, mA b2 q → s.heap.size ≤ q) {i : Nat} (hi : i + 5 ≤ L) {ls : Array Slot} (hl : lv_has ls 4 [(0, .ref b), (1, .ref (a 0)), (2, .ref (b2 0)), (3, .int (nI i))]) (nxt : (∀ (S : KS) (T : MS) (mm : Nat) (H : Heap) (locs : List Loc), RelM S T mm → KInv S → MInv T → va_P D vwCl (cw cI cJ a S) H → va_P D vwCl (mw cI cJ b2 T) H → va_S (fun q : Nat => s.heap.size ≤ q) s.heap H locs → W p l e room_1 s m #[Value.ref b] below meth c H locs 21 2271 (lw_Z below #[Value.ref b] s) (F0 m 620 ls []))) (S : KS) (T : MS) (mm : Nat) (H : Heap) (locs : List Loc) (hR : RelM S T mm) (hIk : KInv S) (hIm : MInv T) (hPk : va_P D vwCl (cw cI cJ a S) H) (hPm : va_P D vwCl (mw cI cJ b2 T) H) (hS : va_S (fun q : Nat => s.heap.size ≤ q) s.heap H locs) : W p l e room_1 s m #[Value.ref b] below meth c H locs 21 2271 (lw_Z below #[Value.ref b] s) (F0 m 561 ls []) := by
  obtain ⟨hx, hb, hr, hml, hown, hts0, hX, hbl, hlocks, hgv⟩ := C0
  have hts : ∀ w ∈ wsL_law, w.before #[Value.ref b] s = true := fun w h => hts0 w (wsL_law_in w h)
  have hbA : ¬ (fun q : Nat => s.heap.size ≤ q) b := Nat.not_le.mpr hbl
  have hdisM : ∀ (T : MS) (k : Nat) (q : Nat × va_E), (mw cI cJ b2 T)[k]? = some q → ¬ kA a q.1 := fun T k q hq ⟨i, hi, e⟩ => hab i k hi (mw_at hq).1 (e.symm.trans (mw_at hq).2)
  have hdisK : ∀ (S : KS) (k : Nat) (q : Nat × va_E), (cw cI cJ a S)[k]? = some q → ¬ mA b2 q.1 := fun S k q hq ⟨i, hi, e⟩ => hab k i (cw_at hq).1 hi ((cw_at hq).2.symm.trans e)
  have h_1 : vp_in (nI i + 1) L := sc_in (k := 1) hi hL (by decide)
  have h_2 : vp_in (nI i + 2) L := sc_in (k := 2) hi hL (by decide)
  have h_3 : vp_in (nI i + 3) L := sc_in (k := 3) hi hL (by decide)
  have h_4 : vp_in (nI i + 4) L := sc_in (k := 4) hi hL (by decide)
  refine lv_aload_n hx hb dL_law_561 rfl (lv_at hl 1 rfl) ?_
  refine lv_aload_n hx hb dL_law_562 rfl (lv_at hl 0 rfl) ?_
  refine lv_iload_n hx hb dL_law_563 rfl (lv_at hl 3 rfl) ?_
  refine lv_iconst (v := 1) hx hb dL_law_564 (by decide) ?_
  refine lv_iadd hx hb dL_law_565 ?_
  refine va_sld hx hb hX hbl hbA hS h_1 dL_law_566 ?_
  refine L_Ri (As := [.int (xs (nI i + 1).toNatClampNeg)]) (rest := []) ⟨hx, hb, hml, hown, hts⟩ (c_X2_size l D cI cJ a hda S (xs (nI i + 1).toNatClampNeg)) (cwV 1 hts gL_law_X2_size rfl rfl rfl eeX2_size ⟨Nat.le_of_ble_eq_true rfl, Nat.le_of_ble_eq_true rfl⟩) hK hN hPk hIk (va_recv hK hPk (ci := 2) (q0 := 0) rfl rfl) hPm (hdisM _) hS hkA rfl hl.1 rfl (Nat.le_of_ble_eq_true rfl) dL_law_567 ⟨Nat.le_of_ble_eq_true rfl, Nat.le_of_ble_eq_true rfl⟩ (fun H locs hPk hPm hS => ?_)
  refine lv_aload_n hx hb dL_law_570 rfl (lv_at hl 2 rfl) ?_
  refine lv_aload_n hx hb dL_law_571 rfl (lv_at hl 0 rfl) ?_
  refine lv_iload_n hx hb dL_law_572 rfl (lv_at hl 3 rfl) ?_
  refine lv_iconst (v := 1) hx hb dL_law_573 (by decide) ?_
  refine lv_iadd hx hb dL_law_574 ?_
  refine va_sld hx hb hX hbl hbA hS h_1 dL_law_575 ?_
  refine L_Ri (As := [.int (xs (nI i + 1).toNatClampNeg)]) (rest := [.int (f_X2_size S (xs (nI i + 1).toNatClampNeg))]) ⟨hx, hb, hml, hown, hts⟩ (c_X3_size l D cI cJ b2 hdb T (xs (nI i + 1).toNatClampNeg)) (cwV 1 hts gL_law_X3_size rfl rfl rfl eeX3_size ⟨Nat.le_of_ble_eq_true rfl, Nat.le_of_ble_eq_true rfl⟩) hK hN hPm hIm (va_recv hK hPm (ci := 3) (q0 := 0) rfl rfl) hPk (hdisK _) hS hmA rfl hl.1 rfl (Nat.le_of_ble_eq_true rfl) dL_law_576 ⟨Nat.le_of_ble_eq_true rfl, Nat.le_of_ble_eq_true rfl⟩ (fun H locs hPm hPk hS => ?_)
  refine lv_icmp_eq (tgt := 620) hx hb dL_law_579 (by decide) (fun c_579 => ?_) (fun c_579 => ?_)
  · exact nxt _ _ mm _ _ hR hIk hIm hPk hPm hS
  · exact absurd (op_size (xs (nI i + 1).toNatClampNeg) hR) c_579
set_option maxHeartbeats 4000000 in
set_option maxRecDepth 100000 in
theorem law_13 {p : Program} {l : Launch} {e : Env} {s : State} {m : MethodId} {below : List Frame} {meth : Method} {c : Code} {D : va_G} {cI cJ : ClassId} {a b2 : Nat → Nat} {b L : Nat} {xs : Nat → Int32} (hL : L ≤ 2560) (C0 : lw_At p s m meth c b L xs) (hK : va_K D vwCl (cw_tys cI cJ) s) (hN : KN s) (hda : ∀ i j, i < 11 → j < 11 → a i = a j → i = j) (hdb : ∀ i j, i < 10 → j < 10 → b2 i = b2 j → i = j) (hab : ∀ i j, i < 11 → j < 10 → ¬ a i = b2 j) (hkA : ∀ q, kA a q → s.heap.size ≤ q) (hmA : ∀ q, mA b2 q → s.heap.size ≤ q) {i : Nat} (hi : i + 5 ≤ L) {ls : Array Slot} (hl : lv_has ls 4 [(0, .ref b), (1, .ref (a 0)), (2, .ref (b2 0)), (3, .int (nI i))]) (nxt : (∀ (S : KS) (T : MS) (mm : Nat) (H : Heap) (locs : List Loc), RelM S T mm → KInv S → MInv T → va_P D vwCl (cw cI cJ a S) H → va_P D vwCl (mw cI cJ b2 T) H → va_S (fun q : Nat => s.heap.size ≤ q) s.heap H locs → W p l e room_1 s m #[Value.ref b] below meth c H locs 21 2271 (lw_Z below #[Value.ref b] s) (F0 m 620 ls []))) (S : KS) (T : MS) (mm : Nat) (H : Heap) (locs : List Loc) (hR : RelM S T mm) (hIk : KInv S) (hIm : MInv T) (hPk : va_P D vwCl (cw cI cJ a S) H) (hPm : va_P D vwCl (mw cI cJ b2 T) H) (hS : va_S (fun q : Nat => s.heap.size ≤ q) s.heap H locs) : W p l e room_1 s m #[Value.ref b] below meth c H locs 21 2271 (lw_Z below #[Value.ref b] s) (F0 m 584 ls []) := by
  obtain ⟨hx, hb, hr, hml, hown, hts0, hX, hbl, hlocks, hgv⟩ := C0
  have hts : ∀ w ∈ wsL_law, w.before #[Value.ref b] s = true := fun w h => hts0 w (wsL_law_in w h)
  have hbA : ¬ (fun q : Nat => s.heap.size ≤ q) b := Nat.not_le.mpr hbl
  have hdisM : ∀ (T : MS) (k : Nat) (q : Nat × va_E), (mw cI cJ b2 T)[k]? = some q → ¬ kA a q.1 := fun T k q hq ⟨i, hi, e⟩ => hab i k hi (mw_at hq).1 (e.symm.trans (mw_at hq).2)
  have hdisK : ∀ (S : KS) (k : Nat) (q : Nat × va_E), (cw cI cJ a S)[k]? = some q → ¬ mA b2 q.1 := fun S k q hq ⟨i, hi, e⟩ => hab k i (cw_at hq).1 hi ((cw_at hq).2.symm.trans e)
  have h_1 : vp_in (nI i + 1) L := sc_in (k := 1) hi hL (by decide)
  have h_2 : vp_in (nI i + 2) L := sc_in (k := 2) hi hL (by decide)
  have h_3 : vp_in (nI i + 3) L := sc_in (k := 3) hi hL (by decide)
  have h_4 : vp_in (nI i + 4) L := sc_in (k := 4) hi hL (by decide)
  refine lv_aload_n hx hb dL_law_584 rfl (lv_at hl 1 rfl) ?_
  refine lv_aload_n hx hb dL_law_585 rfl (lv_at hl 0 rfl) ?_
  refine lv_iload_n hx hb dL_law_586 rfl (lv_at hl 3 rfl) ?_
  refine lv_iconst (v := 1) hx hb dL_law_587 (by decide) ?_
  refine lv_iadd hx hb dL_law_588 ?_
  refine va_sld hx hb hX hbl hbA hS h_1 dL_law_589 ?_
  refine L_Ri (As := [.int (xs (nI i + 1).toNatClampNeg)]) (rest := []) ⟨hx, hb, hml, hown, hts⟩ (c_X2_count l D cI cJ a hda S (xs (nI i + 1).toNatClampNeg)) (cwV 1 hts gL_law_X2_count rfl rfl rfl eeX2_count ⟨Nat.le_of_ble_eq_true rfl, Nat.le_of_ble_eq_true rfl⟩) hK hN hPk hIk (va_recv hK hPk (ci := 2) (q0 := 0) rfl rfl) hPm (hdisM _) hS hkA rfl hl.1 rfl (Nat.le_of_ble_eq_true rfl) dL_law_590 ⟨Nat.le_of_ble_eq_true rfl, Nat.le_of_ble_eq_true rfl⟩ (fun H locs hPk hPm hS => ?_)
  refine lv_aload_n hx hb dL_law_593 rfl (lv_at hl 2 rfl) ?_
  refine lv_aload_n hx hb dL_law_594 rfl (lv_at hl 0 rfl) ?_
  refine lv_iload_n hx hb dL_law_595 rfl (lv_at hl 3 rfl) ?_
  refine lv_iconst (v := 1) hx hb dL_law_596 (by decide) ?_
  refine lv_iadd hx hb dL_law_597 ?_
  refine va_sld hx hb hX hbl hbA hS h_1 dL_law_598 ?_
  refine L_Ri (As := [.int (xs (nI i + 1).toNatClampNeg)]) (rest := [.int (f_X2_count S (xs (nI i + 1).toNatClampNeg))]) ⟨hx, hb, hml, hown, hts⟩ (c_X3_count l D cI cJ b2 hdb T (xs (nI i + 1).toNatClampNeg)) (cwV 1 hts gL_law_X3_count rfl rfl rfl eeX3_count ⟨Nat.le_of_ble_eq_true rfl, Nat.le_of_ble_eq_true rfl⟩) hK hN hPm hIm (va_recv hK hPm (ci := 3) (q0 := 0) rfl rfl) hPk (hdisK _) hS hmA rfl hl.1 rfl (Nat.le_of_ble_eq_true rfl) dL_law_599 ⟨Nat.le_of_ble_eq_true rfl, Nat.le_of_ble_eq_true rfl⟩ (fun H locs hPm hPk hS => ?_)
  refine lv_icmp_eq (tgt := 620) hx hb dL_law_602 (by decide) (fun c_602 => ?_) (fun c_602 => ?_)
  · exact nxt _ _ mm _ _ hR hIk hIm hPk hPm hS
  · exact absurd (op_count (xs (nI i + 1).toNatClampNeg) hR) c_602
set_option maxHeartbeats 4000000 in
set_option maxRecDepth 100000 in
theorem law_14 {p : Program} {l : Launch} {e : Env} {s : State} {m : MethodId} {below : List Frame} {meth : Method} {c : Code} {D : va_G} {cI cJ : ClassId} {a b2 : Nat → Nat} {b L : Nat} {xs : Nat → Int32} (hL : L ≤ 2560) (C0 : lw_At p s m meth c b L xs) (hK : va_K D vwCl (cw_tys cI cJ) s) (hN : KN s) (hda : ∀ i j, i < 11 → j < 11 → a i = a j → i = j) (hdb : ∀ i j, i < 10 → j < 10 → b2 i = b2 j → i = j) (hab : ∀ i j, i < 11 → j < 10 → ¬ a i = b2 j) (hkA : ∀ q, kA a q → s.heap.size ≤ q) (hmA : ∀ q, mA b2 q → s.heap.size ≤ q) {i : Nat} (hi : i + 5 ≤ L) {ls : Array Slot} (hl : lv_has ls 4 [(0, .ref b), (1, .ref (a 0)), (2, .ref (b2 0)), (3, .int (nI i))]) (nxt : (∀ (S : KS) (T : MS) (mm : Nat) (H : Heap) (locs : List Loc), RelM S T mm → KInv S → MInv T → va_P D vwCl (cw cI cJ a S) H → va_P D vwCl (mw cI cJ b2 T) H → va_S (fun q : Nat => s.heap.size ≤ q) s.heap H locs → W p l e room_1 s m #[Value.ref b] below meth c H locs 21 2271 (lw_Z below #[Value.ref b] s) (F0 m 620 ls []))) (S : KS) (T : MS) (mm : Nat) (H : Heap) (locs : List Loc) (hR : RelM S T mm) (hIk : KInv S) (hIm : MInv T) (hPk : va_P D vwCl (cw cI cJ a S) H) (hPm : va_P D vwCl (mw cI cJ b2 T) H) (hS : va_S (fun q : Nat => s.heap.size ≤ q) s.heap H locs) : W p l e room_1 s m #[Value.ref b] below meth c H locs 21 2271 (lw_Z below #[Value.ref b] s) (F0 m 607 ls []) := by
  obtain ⟨hx, hb, hr, hml, hown, hts0, hX, hbl, hlocks, hgv⟩ := C0
  have hts : ∀ w ∈ wsL_law, w.before #[Value.ref b] s = true := fun w h => hts0 w (wsL_law_in w h)
  have hbA : ¬ (fun q : Nat => s.heap.size ≤ q) b := Nat.not_le.mpr hbl
  have hdisM : ∀ (T : MS) (k : Nat) (q : Nat × va_E), (mw cI cJ b2 T)[k]? = some q → ¬ kA a q.1 := fun T k q hq ⟨i, hi, e⟩ => hab i k hi (mw_at hq).1 (e.symm.trans (mw_at hq).2)
  have hdisK : ∀ (S : KS) (k : Nat) (q : Nat × va_E), (cw cI cJ a S)[k]? = some q → ¬ mA b2 q.1 := fun S k q hq ⟨i, hi, e⟩ => hab k i (cw_at hq).1 hi ((cw_at hq).2.symm.trans e)
  have h_1 : vp_in (nI i + 1) L := sc_in (k := 1) hi hL (by decide)
  have h_2 : vp_in (nI i + 2) L := sc_in (k := 2) hi hL (by decide)
  have h_3 : vp_in (nI i + 3) L := sc_in (k := 3) hi hL (by decide)
  have h_4 : vp_in (nI i + 4) L := sc_in (k := 4) hi hL (by decide)
  refine lv_aload_n hx hb dL_law_607 rfl (lv_at hl 1 rfl) ?_
  refine L_Wi (As := []) (rest := []) ⟨hx, hb, hml, hown, hts⟩ (c_X2_clear l D cI cJ a hda S ) (cwV 0 hts gL_law_X2_clear rfl rfl rfl eeX2_clear ⟨Nat.le_of_ble_eq_true rfl, Nat.le_of_ble_eq_true rfl⟩) hK hN hPk hIk (va_recv hK hPk (ci := 2) (q0 := 0) rfl rfl) hPm (hdisM _) hS hkA rfl hl.1 rfl (Nat.le_of_ble_eq_true rfl) dL_law_608 ⟨Nat.le_of_ble_eq_true rfl, Nat.le_of_ble_eq_true rfl⟩ (fun H locs hIk hPk hPm hS => ?_)
  refine lv_aload_n hx hb dL_law_611 rfl (lv_at hl 2 rfl) ?_
  refine L_Wi (As := []) (rest := [.int ((f_X2_clear S ).1)]) ⟨hx, hb, hml, hown, hts⟩ (c_X3_clear l D cI cJ b2 hdb T ) (cwV 0 hts gL_law_X3_clear rfl rfl rfl eeX3_clear ⟨Nat.le_of_ble_eq_true rfl, Nat.le_of_ble_eq_true rfl⟩) hK hN hPm hIm (va_recv hK hPm (ci := 3) (q0 := 0) rfl rfl) hPk (hdisK _) hS hmA rfl hl.1 rfl (Nat.le_of_ble_eq_true rfl) dL_law_612 ⟨Nat.le_of_ble_eq_true rfl, Nat.le_of_ble_eq_true rfl⟩ (fun H locs hIm hPm hPk hS => ?_)
  refine lv_icmp_eq (tgt := 620) hx hb dL_law_615 (by decide) (fun c_615 => ?_) (fun c_615 => ?_)
  · obtain ⟨mm2, hR2⟩ := (op_clear  hR).2
    exact nxt _ _ mm2 _ _ hR2 hIk hIm hPk hPm hS
  · exact absurd (op_clear  hR).1 c_615
set_option maxHeartbeats 4000000 in
set_option maxRecDepth 100000 in
/-- THE LAW'S LOOP: at its head, with i ints read, class and reference hold the same -/
theorem law_loop {p : Program} {l : Launch} {e : Env} {s : State} {m : MethodId} {below : List Frame} {meth : Method} {c : Code} {D : va_G} {cI cJ : ClassId} {a b2 : Nat → Nat} {b L : Nat} {xs : Nat → Int32} (hL : L ≤ 2560) (C0 : lw_At p s m meth c b L xs) (hK : va_K D vwCl (cw_tys cI cJ) s) (hN : KN s) (hda : ∀ i j, i < 11 → j < 11 → a i = a j → i = j) (hdb : ∀ i j, i < 10 → j < 10 → b2 i = b2 j → i = j) (hab : ∀ i j, i < 11 → j < 10 → ¬ a i = b2 j) (hkA : ∀ q, kA a q → s.heap.size ≤ q) (hmA : ∀ q, mA b2 q → s.heap.size ≤ q) : ∀ (n i : Nat), i ≤ L → L + 1 ≤ i + n → ∀ (S : KS) (T : MS) (mm : Nat) (H : Heap) (locs : List Loc) (ls : Array Slot), RelM S T mm → KInv S → MInv T → va_P D vwCl (cw cI cJ a S) H → va_P D vwCl (mw cI cJ b2 T) H → va_S (fun q : Nat => s.heap.size ≤ q) s.heap H locs → lv_has ls 4 [(0, .ref b), (1, .ref (a 0)), (2, .ref (b2 0)), (3, .int (nI i))] → W p l e room_1 s m #[Value.ref b] below meth c H locs 21 2271 (lw_Z below #[Value.ref b] s) (F0 m 18 ls []) := by
  have C1 := C0
  obtain ⟨hx, hb, hr, hml, hown, hts0, hX, hbl, hlocks, hgv⟩ := C0
  have hbA : ¬ (fun q : Nat => s.heap.size ≤ q) b := Nat.not_le.mpr hbl
  intro n
  induction n with
  | zero => intro i h1 h2; exact absurd h2 (by omega)
  | succ n ih =>
    intro i hi hin S T mm H locs ls hR hIk hIm hPk hPm hS hl
    refine lv_iload_n hx hb dL_law_18 rfl (lv_at hl 3 rfl) ?_
    refine lv_aload_n hx hb dL_law_19 rfl (lv_at hl 0 rfl) ?_
    refine va_slen hx hb hX hbl hbA hS dL_law_20 ?_
    refine lv_iconst (v := 5) hx hb dL_law_21 (by decide) ?_
    refine lv_isub hx hb dL_law_22 ?_
    refine lv_icmp_gt (tgt := 626) hx hb dL_law_23 (by decide) (fun c_23 => ?_) (fun c_23 => ?_)
    · refine lv_iconst (v := 1) hx hb dL_law_626 (by decide) ?_
      refine va_forget (fun q hq => hS.2.2 q hq) ?_
      exact lw_ret hx hb hr hlocks dL_law_627
    · have hlt : i + 5 ≤ L := sc_lt hL hi c_23
      have h_0 : vp_in (nI i) L := vp_in_nI (by omega) (by omega)
      have nxt : (∀ (S : KS) (T : MS) (mm : Nat) (H : Heap) (locs : List Loc), RelM S T mm → KInv S → MInv T → va_P D vwCl (cw cI cJ a S) H → va_P D vwCl (mw cI cJ b2 T) H → va_S (fun q : Nat => s.heap.size ≤ q) s.heap H locs → W p l e room_1 s m #[Value.ref b] below meth c H locs 21 2271 (lw_Z below #[Value.ref b] s) (F0 m 620 ls [])) := by
        intro S T mm H locs hR hIk hIm hPk hPm hS
        refine lv_iinc (v := nI (i + 5)) (lv' := [(3, .int (nI (i + 5))), (0, .ref b), (1, .ref (a 0)), (2, .ref (b2 0))]) hx hb dL_law_620 hl (k := 3) rfl (sc_inc i) (by decide) rfl (fun ls hl => ?_)
        refine lv_goto (tgt := 18) hx hb dL_law_623 (by decide) ?_
        exact ih (i + 5) (by omega) (by omega) S T mm _ _ ls hR hIk hIm hPk hPm hS (lv_sub hl [1, 2, 3, 0] rfl)
      refine lv_aload_n hx hb dL_law_26 rfl (lv_at hl 0 rfl) ?_
      refine lv_iload_n hx hb dL_law_27 rfl (lv_at hl 3 rfl) ?_
      refine va_sld hx hb hX hbl hbA hS h_0 dL_law_28 ?_
      refine lv_bipush (v := 15) hx hb dL_law_29 (by decide) ?_
      refine lv_iand hx hb dL_law_31 ?_
      refine lv_topi (fun w _ => ?_)
      by_cases c_0 : w = 0
      · refine lv_tableIn (tgt := 108) hx hb dL_law_32 (by rw [c_0]; decide) (by rw [c_0]; decide) (by rw [c_0]; rfl) (by decide) ?_
        exact law_0 hL C1 hK hN hda hdb hab hkA hmA hlt hl nxt S T mm H locs hR hIk hIm hPk hPm hS
      by_cases c_1 : w = 1
      · refine lv_tableIn (tgt := 141) hx hb dL_law_32 (by rw [c_1]; decide) (by rw [c_1]; decide) (by rw [c_1]; rfl) (by decide) ?_
        exact law_1 hL C1 hK hN hda hdb hab hkA hmA hlt hl nxt S T mm H locs hR hIk hIm hPk hPm hS
      by_cases c_2 : w = 2
      · refine lv_tableIn (tgt := 174) hx hb dL_law_32 (by rw [c_2]; decide) (by rw [c_2]; decide) (by rw [c_2]; rfl) (by decide) ?_
        exact law_2 hL C1 hK hN hda hdb hab hkA hmA hlt hl nxt S T mm H locs hR hIk hIm hPk hPm hS
      by_cases c_3 : w = 3
      · refine lv_tableIn (tgt := 223) hx hb dL_law_32 (by rw [c_3]; decide) (by rw [c_3]; decide) (by rw [c_3]; rfl) (by decide) ?_
        exact law_3 hL C1 hK hN hda hdb hab hkA hmA hlt hl nxt S T mm H locs hR hIk hIm hPk hPm hS
      by_cases c_4 : w = 4
      · refine lv_tableIn (tgt := 296) hx hb dL_law_32 (by rw [c_4]; decide) (by rw [c_4]; decide) (by rw [c_4]; rfl) (by decide) ?_
        exact law_4 hL C1 hK hN hda hdb hab hkA hmA hlt hl nxt S T mm H locs hR hIk hIm hPk hPm hS
      by_cases c_5 : w = 5
      · refine lv_tableIn (tgt := 330) hx hb dL_law_32 (by rw [c_5]; decide) (by rw [c_5]; decide) (by rw [c_5]; rfl) (by decide) ?_
        exact law_5 hL C1 hK hN hda hdb hab hkA hmA hlt hl nxt S T mm H locs hR hIk hIm hPk hPm hS
      by_cases c_6 : w = 6
      · refine lv_tableIn (tgt := 383) hx hb dL_law_32 (by rw [c_6]; decide) (by rw [c_6]; decide) (by rw [c_6]; rfl) (by decide) ?_
        exact law_6 hL C1 hK hN hda hdb hab hkA hmA hlt hl nxt S T mm H locs hR hIk hIm hPk hPm hS
      by_cases c_7 : w = 7
      · refine lv_tableIn (tgt := 436) hx hb dL_law_32 (by rw [c_7]; decide) (by rw [c_7]; decide) (by rw [c_7]; rfl) (by decide) ?_
        exact law_7 hL C1 hK hN hda hdb hab hkA hmA hlt hl nxt S T mm H locs hR hIk hIm hPk hPm hS
      by_cases c_8 : w = 8
      · refine lv_tableIn (tgt := 469) hx hb dL_law_32 (by rw [c_8]; decide) (by rw [c_8]; decide) (by rw [c_8]; rfl) (by decide) ?_
        exact law_8 hL C1 hK hN hda hdb hab hkA hmA hlt hl nxt S T mm H locs hR hIk hIm hPk hPm hS
      by_cases c_9 : w = 9
      · refine lv_tableIn (tgt := 482) hx hb dL_law_32 (by rw [c_9]; decide) (by rw [c_9]; decide) (by rw [c_9]; rfl) (by decide) ?_
        exact law_9 hL C1 hK hN hda hdb hab hkA hmA hlt hl nxt S T mm H locs hR hIk hIm hPk hPm hS
      by_cases c_10 : w = 10
      · refine lv_tableIn (tgt := 505) hx hb dL_law_32 (by rw [c_10]; decide) (by rw [c_10]; decide) (by rw [c_10]; rfl) (by decide) ?_
        exact law_10 hL C1 hK hN hda hdb hab hkA hmA hlt hl nxt S T mm H locs hR hIk hIm hPk hPm hS
      by_cases c_11 : w = 11
      · refine lv_tableIn (tgt := 538) hx hb dL_law_32 (by rw [c_11]; decide) (by rw [c_11]; decide) (by rw [c_11]; rfl) (by decide) ?_
        exact law_11 hL C1 hK hN hda hdb hab hkA hmA hlt hl nxt S T mm H locs hR hIk hIm hPk hPm hS
      by_cases c_12 : w = 12
      · refine lv_tableIn (tgt := 561) hx hb dL_law_32 (by rw [c_12]; decide) (by rw [c_12]; decide) (by rw [c_12]; rfl) (by decide) ?_
        exact law_12 hL C1 hK hN hda hdb hab hkA hmA hlt hl nxt S T mm H locs hR hIk hIm hPk hPm hS
      by_cases c_13 : w = 13
      · refine lv_tableIn (tgt := 584) hx hb dL_law_32 (by rw [c_13]; decide) (by rw [c_13]; decide) (by rw [c_13]; rfl) (by decide) ?_
        exact law_13 hL C1 hK hN hda hdb hab hkA hmA hlt hl nxt S T mm H locs hR hIk hIm hPk hPm hS
      by_cases c_14 : w = 14
      · refine lv_tableIn (tgt := 607) hx hb dL_law_32 (by rw [c_14]; decide) (by rw [c_14]; decide) (by rw [c_14]; rfl) (by decide) ?_
        exact law_14 hL C1 hK hN hda hdb hab hkA hmA hlt hl nxt S T mm H locs hR hIk hIm hPk hPm hS
      refine lv_tableOut (tgt := 620) hx hb dL_law_32 (by have := lv_neT (a := 0) c_0 (by decide); have := lv_neT (a := 1) c_1 (by decide); have := lv_neT (a := 2) c_2 (by decide); have := lv_neT (a := 3) c_3 (by decide); have := lv_neT (a := 4) c_4 (by decide); have := lv_neT (a := 5) c_5 (by decide); have := lv_neT (a := 6) c_6 (by decide); have := lv_neT (a := 7) c_7 (by decide); have := lv_neT (a := 8) c_8 (by decide); have := lv_neT (a := 9) c_9 (by decide); have := lv_neT (a := 10) c_10 (by decide); have := lv_neT (a := 11) c_11 (by decide); have := lv_neT (a := 12) c_12 (by decide); have := lv_neT (a := 13) c_13 (by decide); have := lv_neT (a := 14) c_14 (by decide); omega) (by decide) ?_
      exact nxt S T mm H locs hR hIk hIm hPk hPm hS
