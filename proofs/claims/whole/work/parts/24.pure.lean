/-! the acts that make something -/
theorem NewK.congr {S S' : KS} {m f k : Nat} {lv : Int32} {c c' : Nat → Int64} (h : NewK S S' m f k lv c) (e : ∀ i, i < k → c i = c' i) : NewK S S' m f k lv c' :=
  ⟨h.1, h.2.1, h.2.2.1, h.2.2.2.1, h.2.2.2.2.1, fun i hi => (h.2.2.2.2.2.1 i hi).trans (e i hi), h.2.2.2.2.2.2⟩
theorem NewM.congr {T T' : MS} {m f k : Nat} {lv : Int32} {cn cn' : Nat → Int64} {cl cl' : Nat → Int32} (h : NewM T T' m f k lv cn cl) (e : ∀ i, i < 8 → cn i = cn' i) (e2 : ∀ i, i < 8 → cl i = cl' i) : NewM T T' m f k lv cn' cl' := by
  obtain ⟨m1, m2, m3, m4, m5, m6, m7, m8, m9⟩ := h
  exact ⟨m1, m2, m3, m4, m5, m6, fun i hi => (m7 i hi).trans (e i hi), fun i hi => (m8 i hi).trans (e2 i hi), m9⟩
theorem NewK.lenOf {S S' : KS} {m f k : Nat} {lv : Int32} {c : Nat → Int64} (h : NewK S S' m f k lv c) {x L : Nat} (hm : m < 60) (hx : x < m) (el : S.lens x = nI L) : S'.lens x = nI L := by
  rw [h.2.2.1, pk_un (by omega)]; exact el
theorem NewK.cellAt {S S' : KS} {m f k : Nat} {lv : Int32} {c : Nat → Int64} (h : NewK S S' m f k lv c) {x L i : Nat} (hm : m < 60) (hx : x < m) (hL : L ≤ 8) (el : S.lens x = nI L) (hi : i < L) : f_X1_cellOf S' (nI x) (nI i) = S.cells (8 * x + i) := by
  rw [cellK h.1 (by omega) (by omega) hL (h.lenOf hm hx el) hi]
  exact h.2.2.2.2.1 _ (by omega)
theorem NewK.placeAt {S S' : KS} {m f k : Nat} {lv : Int32} {c : Nat → Int64} (h : NewK S S' m f k lv c) {x L i : Nat} (hm : m < 60) (hx : x < m) (hL : L ≤ 8) (el : S.lens x = nI L) (hi : i < L) : f_X1_placed S' (nI x) (nI i) = (S.cells (8 * x + i)).toInt32 := by
  rw [placedK h.1 (by omega) (by omega) hL (h.lenOf hm hx el) hi, h.2.2.2.2.1 _ (by omega)]
theorem NewM.sizeAt {T T' : MS} {m f k : Nat} {lv : Int32} {cn : Nat → Int64} {cl : Nat → Int32} (h : NewM T T' m f k lv cn cl) {x : Nat} (hx : x < m) : T'.sizes x = T.sizes x := by
  rw [h.2.2.1, pk_un (by omega)]
theorem copy_c10 {S : KS} {m f k L x at_ : Nat} {lv : Int32} (hm : m < 60) (hk : k ≤ 8) (hx : x < m) (el : S.lens x = nI L) (hL : L ≤ 8) (hat : at_ + L ≤ k) : ∀ (n : Nat) (S1 : KS) (j : Nat) (c : Nat → Int64), j + n = 9 → j ≤ 8 → NewK S S1 m f k lv c → NewK S (f_X1_copyCells_c10 n S1 (nI x) (nI m) (nI at_) (nI L) j) m f k lv (fun q => if at_ + j ≤ q ∧ q < at_ + L then f_X3_cut (nI f) (S.cells (8 * x + (q - at_))) else c q) := by
  intro n
  induction n with
  | zero => intro S1 j c h1 h2; exact absurd h1 (by omega)
  | succ n ih =>
    intro S1 j c h1 h2 hK
    by_cases cc : nI L ≤ nI j
    · have hc := (nI_leI (by omega) (by omega)).mp cc
      simp only [f_X1_copyCells_c10, if_pos cc]
      exact hK.congr (fun i hi => by rw [if_neg (by omega)])
    · have hc : ¬ L ≤ j := fun q => cc ((nI_leI (by omega) (by omega)).mpr q)
      simp only [f_X1_copyCells_c10, if_neg cc]
      rw [hK.cellAt hm hx hL el (by omega), nI_add]
      refine (ih _ _ _ (by omega) (by omega) (hK.put hm hk (i := at_ + j) (by omega) _)).congr (fun i hi => ?_)
      (try dsimp only)
      by_cases h3 : at_ + (j + 1) ≤ i ∧ i < at_ + L
      · rw [if_pos h3, if_pos (by omega)]
      · rw [if_neg h3]
        by_cases h4 : i = at_ + j
        · rw [if_pos h4, if_pos (by omega), show i - at_ = j by omega]
        · rw [if_neg h4, if_neg (by omega)]
theorem copyCells_new {S S1 : KS} {m f k L x at_ : Nat} {lv : Int32} {c : Nat → Int64} (hm : m < 60) (hk : k ≤ 8) (hx : x < m) (el : S.lens x = nI L) (hL : L ≤ 8) (hat : at_ + L ≤ k) (hK : NewK S S1 m f k lv c) : NewK S (f_X1_copyCells S1 (nI x) (nI m) (nI at_)) m f k lv (fun q => if at_ ≤ q ∧ q < at_ + L then f_X3_cut (nI f) (S.cells (8 * x + (q - at_))) else c q) := by
  unfold f_X1_copyCells
  rw [lenK hK.1 (by omega) (by omega) (hK.lenOf hm hx el)]
  exact copy_c10 hm hk hx el hL hat 9 S1 0 c rfl (by decide) hK
theorem addCopy_new {S : KS} {m f L x : Nat} (e1 : S.made = nI m) (hm : m < 60) (hx : x < m) (el : S.lens x = nI L) (hL : L ≤ 8) : ∃ S2, f_X1_addCopy S (nI x) (nI f) = (nI m, S2) ∧ NewK S S2 m f L 0 (fun q => f_X3_cut (nI f) (S.cells (8 * x + q))) := by
  obtain ⟨S1, e, hK⟩ := add_new (f := f) e1 hm hL
  refine ⟨f_X1_copyCells S1 (nI x) (nI m) (nI 0), ?_, (copyCells_new hm hL hx el hL (at_ := 0) (by omega) hK).congr (fun i hi => ?_)⟩
  · unfold f_X1_addCopy
    rw [lenK e1 (by omega) hx el, e]
    rfl
  · (try dsimp only)
    rw [if_pos (by omega), Nat.sub_zero]
theorem turned_at {T : MS} {m f L x : Nat} (hm : m < 60) (hx : x < m) (el : T.sizes x = nI L) (hL : L ≤ 8) : ∀ (n : Nat) (T1 : MS) (j : Nat) (cn : Nat → Int64) (cl : Nat → Int32), j + n = 9 → j ≤ 8 → NewM T T1 m f L 0 cn cl → ∃ T2, f_X3_turned_c47 n T1 (nI x) (nI f) (nI m) j = (nI m, T2) ∧ NewM T T2 m f L 0 (fun q => if j ≤ q ∧ q < L then f_X3_cut (nI f) (T.nums (8 * x + q)) else cn q) cl := by
  intro n
  induction n with
  | zero => intro T1 j cn cl h1 h2; exact absurd h1 (by omega)
  | succ n ih =>
    intro T1 j cn cl h1 h2 hM
    have es : T1.sizes (nI x).toNatClampNeg = nI L := by rw [cl1 (by omega), hM.sizeAt hx, el]
    by_cases cc : nI L ≤ nI j
    · have hc := (nI_leI (by omega) (by omega)).mp cc
      refine ⟨T1, ?_, hM.congr (fun i hi => by rw [if_neg (by omega)]) (fun i hi => rfl)⟩
      simp only [f_X3_turned_c47, es, if_pos cc]
    · have hc : ¬ L ≤ j := fun q => cc ((nI_leI (by omega) (by omega)).mpr q)
      simp only [f_X3_turned_c47, es, if_neg cc]
      rw [mx (by omega) (by omega), mx (by omega) (by omega), hM.2.2.2.2.1 (8 * x + j) (by omega)]
      obtain ⟨T2, e, h⟩ := ih _ (j + 1) _ _ (by omega) (by omega) (hM.num (i := j) (by omega) (f_X3_cut (nI f) (T.nums (8 * x + j))))
      refine ⟨T2, e, h.congr (fun i hi => ?_) (fun i hi => rfl)⟩
      (try dsimp only)
      by_cases h3 : j + 1 ≤ i ∧ i < L
      · rw [if_pos h3, if_pos (by omega)]
      · rw [if_neg h3]
        by_cases h4 : i = j
        · rw [if_pos h4, if_pos (by omega), h4]
        · rw [if_neg h4, if_neg (by omega)]
/-- rows turned to another width -/
theorem eq_turn {S : KS} {T : MS} {m x f f2 L : Nat} (h : RelM S T m) (hm : m < 60) (hx : x < m) (a3 : S.forms x = nI f) (a4 : T.forms x = nI f) (a5 : S.lens x = nI L) (a6 : T.sizes x = nI L) (hf : f ≤ 2) (hf2 : f2 ≤ 2) (hL : L ≤ 8) (hc : ∀ i, i < L → S.cells (8 * x + i) = T.nums (8 * x + i)) : EqW T m ((f_X1_addCopy S (nI x) (nI f2)).1, (f_X1_addCopy S (nI x) (nI f2)).2) (f_X3_turned_c47 9 ((f_X3_make T (nI f2) (nI L)).2) (nI x) (nI f2) ((f_X3_make T (nI f2) (nI L)).1) 0) := by
  obtain ⟨S2, e1, hK⟩ := addCopy_new (f := f2) h.2.1 hm hx a5 hL
  obtain ⟨T1, e2, hM1⟩ := make_new (f := f2) (k := L) h.2.2.1 hm
  obtain ⟨T2, e3, hM⟩ := turned_at hm hx a6 hL 9 T1 0 _ _ rfl (by decide) hM1
  rw [e1, e2]
  (try dsimp only)
  rw [e3]
  refine ⟨rfl, m + 1, by omega, R_new h hm hK hM (by omega) hL ⟨fun _ i hi => ?_, fun h3 => by omega⟩, hM.same, fun _ => vn_new⟩
  (try dsimp only)
  rw [if_pos (by omega), hc i hi, cut_idem]
  exact ⟨rfl, rfl⟩
theorem wid_dec : ∀ f, f < 11 → 2 ≤ f → f_X3_formIs (nI f) 0 = 0 ∧ f_X3_formIs (nI f) 1 = 0 := by decide
theorem nar_dec : ∀ f, f < 11 → f = 0 ∨ 3 ≤ f → f_X3_formIs (nI f) 2 = 0 ∧ f_X3_formIs (nI f) 1 = 0 := by decide
theorem op_widen {S : KS} {T : MS} {m j : Nat} (h : RelM S T m) (hm : m < 60) (hj : j < m) : EqW T m (f_X2_widen S (nI j)) (f_X3_turned T (nI j) 1) := by
  have hv : VN m (nI j) := Or.inr ⟨j, hj, rfl⟩
  obtain ⟨f, k, hf, hk, a3, a4, a5, a6, a7, a8, a9⟩ := h.2.2.2.1 j hj
  have e0 := (isA_eq (v := 0) h hv ⟨0, by decide, rfl⟩).trans (isOf_nI (by omega) a4)
  have e1 := (isA_eq (v := 1) h hv ⟨1, by decide, rfl⟩).trans (isOf_nI (by omega) a4)
  unfold f_X2_widen f_X3_turned
  rw [if_neg (nI_ne_m1 (by omega)), e0, e1, isRow_nI (by omega) hf a4, cl1 (by omega), a4, a6]
  simp only [ite01]
  by_cases h0 : f = 0
  · subst h0
    rw [if_neg (show ¬ f_X3_formIs (nI 0) 0 = 0 by decide), if_neg (by decide), if_neg (by decide)]
    exact eq_turn (f2 := 1) h hm hj a3 a4 a5 a6 (by omega) (by omega) hk (fun i hi => (a8 (by omega) i hi).1)
  by_cases h1 : f = 1
  · subst h1
    rw [if_pos (show f_X3_formIs (nI 1) 0 = 0 by decide), if_neg (show ¬ f_X3_formIs (nI 1) 1 = 0 by decide), if_neg (by decide), if_neg (by decide)]
    exact eq_turn (f2 := 2) h hm hj a3 a4 a5 a6 (by omega) (by omega) hk (fun i hi => (a8 (by omega) i hi).1)
  rw [if_pos (wid_dec f (by omega) (by omega)).1, if_pos (wid_dec f (by omega) (by omega)).2]
  by_cases h2 : f = 2
  · subst h2
    rw [if_neg (by decide), if_pos (by decide)]; exact badW h
  · rw [if_neg (show ¬ f ≤ 2 by omega), if_pos rfl]; exact badW h
theorem op_narrow {S : KS} {T : MS} {m j : Nat} (h : RelM S T m) (hm : m < 60) (hj : j < m) : EqW T m (f_X2_narrow S (nI j)) (f_X3_turned T (nI j) (-1)) := by
  have hv : VN m (nI j) := Or.inr ⟨j, hj, rfl⟩
  obtain ⟨f, k, hf, hk, a3, a4, a5, a6, a7, a8, a9⟩ := h.2.2.2.1 j hj
  have e0 := (isA_eq (v := 2) h hv ⟨2, by decide, rfl⟩).trans (isOf_nI (by omega) a4)
  have e1 := (isA_eq (v := 1) h hv ⟨1, by decide, rfl⟩).trans (isOf_nI (by omega) a4)
  unfold f_X2_narrow f_X3_turned
  rw [if_neg (nI_ne_m1 (by omega)), e0, e1, isRow_nI (by omega) hf a4, cl1 (by omega), a4, a6]
  simp only [ite01]
  by_cases h0 : f = 2
  · subst h0
    rw [if_neg (show ¬ f_X3_formIs (nI 2) 2 = 0 by decide), if_neg (by decide), if_neg (by decide)]
    exact eq_turn (f2 := 1) h hm hj a3 a4 a5 a6 (by omega) (by omega) hk (fun i hi => (a8 (by omega) i hi).1)
  by_cases h1 : f = 1
  · subst h1
    rw [if_pos (show f_X3_formIs (nI 1) 2 = 0 by decide), if_neg (show ¬ f_X3_formIs (nI 1) 1 = 0 by decide), if_neg (by decide), if_neg (by decide)]
    exact eq_turn (f2 := 0) h hm hj a3 a4 a5 a6 (by omega) (by omega) hk (fun i hi => (a8 (by omega) i hi).1)
  rw [if_pos (nar_dec f (by omega) (by omega)).1, if_pos (nar_dec f (by omega) (by omega)).2]
  by_cases h2 : f = 0
  · subst h2
    rw [if_neg (by decide), if_pos (by decide)]; exact badW h
  · rw [if_neg (show ¬ f ≤ 2 by omega), if_pos rfl]; exact badW h
/-! COPY -/
theorem copy_at {T : MS} {m f L x : Nat} (hm : m < 60) (hx : x < m) : ∀ (n : Nat) (T1 : MS) (j : Nat) (cn : Nat → Int64) (cl : Nat → Int32), j + n = 9 → j ≤ 8 → NewM T T1 m f L 0 cn cl → ∃ T2, f_X3_copy_c33 n T1 (nI x) (nI m) j = (nI m, T2) ∧ NewM T T2 m f L 0 (fun q => if j ≤ q then T.nums (8 * x + q) else cn q) (fun q => if j ≤ q then T.lies (8 * x + q) else cl q) := by
  intro n
  induction n with
  | zero => intro T1 j cn cl h1 h2; exact absurd h1 (by omega)
  | succ n ih =>
    intro T1 j cn cl h1 h2 hM
    by_cases cc : (8 : Int32) ≤ nI j
    · have hc := (nI_leI (a := 8) (b := j) (by decide) (by omega)).mp cc
      refine ⟨T1, ?_, hM.congr (fun i hi => by rw [if_neg (by omega)]) (fun i hi => by rw [if_neg (by omega)])⟩
      simp only [f_X3_copy_c33, if_pos cc]
    · have hc : ¬ 8 ≤ j := fun q => cc ((nI_leI (a := 8) (b := j) (by decide) (by omega)).mpr q)
      simp only [f_X3_copy_c33, if_neg cc, MS.lies_set_nums]
      rw [mx (by omega) (by omega), mx (by omega) (by omega), hM.2.2.2.2.1 (8 * x + j) (by omega), hM.2.2.2.2.2.1 (8 * x + j) (by omega)]
      obtain ⟨T2, e, h⟩ := ih _ (j + 1) _ _ (by omega) (by omega) ((hM.num (i := j) (by omega) (T.nums (8 * x + j))).lie (i := j) (by omega) (T.lies (8 * x + j)))
      refine ⟨T2, e, h.congr (fun i hi => ?_) (fun i hi => ?_)⟩
      · (try dsimp only)
        by_cases h3 : j + 1 ≤ i
        · rw [if_pos h3, if_pos (by omega)]
        · rw [if_neg h3]
          by_cases h4 : i = j
          · rw [if_pos h4, if_pos (by omega), h4]
          · rw [if_neg h4, if_neg (by omega)]
      · (try dsimp only)
        by_cases h3 : j + 1 ≤ i
        · rw [if_pos h3, if_pos (by omega)]
        · rw [if_neg h3]
          by_cases h4 : i = j
          · rw [if_pos h4, if_pos (by omega), h4]
          · rw [if_neg h4, if_neg (by omega)]
theorem op_copy {S : KS} {T : MS} {m j : Nat} (h : RelM S T m) (hm : m < 60) (hj : j < m) : EqW T m (f_X2_copy S (nI j)) (f_X3_copy T (nI j)) := by
  have hv : VN m (nI j) := Or.inr ⟨j, hj, rfl⟩
  obtain ⟨f, k, hf, hk, a3, a4, a5, a6, a7, a8, a9⟩ := h.2.2.2.1 j hj
  unfold f_X2_copy f_X3_copy
  rw [if_neg (nI_ne_m1 (by omega)), isA_eq (v := 4) h hv ⟨4, by decide, rfl⟩, formK h.2.1 h.1 hj a3, cl1 (by omega), a4, a6]
  by_cases c : f_X3_isOf T (nI j) 4 = 0
  · rw [if_pos c, if_pos c]
    obtain ⟨S2, e1, hK⟩ := addCopy_new (f := f) h.2.1 hm hj a5 hk
    obtain ⟨T1, e2, hM1⟩ := make_new (f := f) (k := k) h.2.2.1 hm
    obtain ⟨T2, e3, hM⟩ := copy_at (L := k) hm hj 9 T1 0 _ _ rfl (by decide) hM1
    rw [e1, e2]
    (try dsimp only)
    rw [e3]
    refine ⟨rfl, m + 1, by omega, R_new h hm hK hM hf hk ⟨fun h2 i hi => ?_, fun h3 i hi => ?_⟩, hM.same, fun _ => vn_new⟩
    · (try dsimp only)
      rw [if_pos (by omega), (a8 h2 i hi).1, (a8 h2 i hi).2]
      exact ⟨rfl, rfl⟩
    · (try dsimp only)
      rw [if_pos (by omega), cut_hi (by omega) hf]
      exact a9 h3 i hi
  · rw [if_neg c, if_neg c]; exact badW h
/-! SUM -/
theorem total_eq {S1 : KS} {T1 : MS} {x L : Nat} (hx : x < 60) (hL : L ≤ 8) (es : T1.sizes x = nI L) (hc : ∀ i, i < L → f_X1_cellOf S1 (nI x) (nI i) = T1.nums (8 * x + i)) : ∀ (n : Nat) (a : Int64) (j : Nat), j + n = 9 → j ≤ 8 → f_X2_totalOf_c15 n S1 (nI x) a (nI L) j = f_X3_sumOf_c5 n T1 (nI x) a j := by
  intro n
  induction n with
  | zero => intro a j h1 h2; exact absurd h1 (by omega)
  | succ n ih =>
    intro a j h1 h2
    simp only [f_X2_totalOf_c15, f_X3_sumOf_c5]
    rw [cl1 (by omega), es]
    by_cases cc : nI L ≤ nI j
    · rw [if_pos cc, if_pos cc]
    · have hl : ¬ L ≤ j := fun q => cc ((nI_leI (by omega) (by omega)).mpr q)
      rw [if_neg cc, if_neg cc, hc j (by omega), mx (by omega) (by omega)]
      exact ih _ _ (by omega) (by omega)
theorem total_of {S S1 : KS} {T T1 : MS} {m f k x : Nat} {c cn : Nat → Int64} {cl : Nat → Int32} (h : RelM S T m) (hm : m < 60) (hK : NewK S S1 m f k 0 c) (hM : NewM T T1 m f k 0 cn cl) (hx : x < m) (hr : ∃ g, g ≤ 2 ∧ T.forms x = nI g) : f_X2_totalOf S1 (nI x) = f_X3_sumOf T1 (nI x) := by
  obtain ⟨g, hg, eg⟩ := hr
  obtain ⟨f2, L, hf, hL, a3, a4, a5, a6, a7, a8, a9⟩ := h.2.2.2.1 x hx
  have hfg : f2 = g := (nI_eq (by omega) (by omega)).mp (a4.symm.trans eg)
  unfold f_X2_totalOf f_X3_sumOf
  rw [lenK hK.1 (by omega) (by omega) (hK.lenOf hm hx a5)]
  refine total_eq (by omega) hL ((hM.sizeAt hx).trans a6) (fun i hi => ?_) _ _ _ rfl (by decide)
  rw [hK.cellAt hm hx hL a5 hi, (a8 (by omega) i hi).1, hM.2.2.2.2.1 _ (by omega)]
theorem total_m1 {S1 : KS} {m : Nat} (e : S1.made = nI m) (hm : m ≤ 60) : f_X2_totalOf S1 (-1) = 0 := by
  unfold f_X2_totalOf f_X1_lengthOf
  rw [has_0 e hm (not_m1 hm), if_pos rfl]
  rfl
theorem total_base {S : KS} {T T1 : MS} {m f k x : Nat} {cn : Nat → Int64} {cl : Nat → Int32} (h : RelM S T m) (hm : m < 60) (hM : NewM T T1 m f k 0 cn cl) (hx : x < m) (hr : ∃ g, g ≤ 2 ∧ T.forms x = nI g) : f_X2_totalOf S (nI x) = f_X3_sumOf T1 (nI x) := by
  obtain ⟨g, hg, eg⟩ := hr
  obtain ⟨f2, L, hf, hL, a3, a4, a5, a6, a7, a8, a9⟩ := h.2.2.2.1 x hx
  have hfg : f2 = g := (nI_eq (by omega) (by omega)).mp (a4.symm.trans eg)
  unfold f_X2_totalOf f_X3_sumOf
  rw [lenK h.2.1 h.1 hx a5]
  refine total_eq (by omega) hL ((hM.sizeAt hx).trans a6) (fun i hi => ?_) _ _ _ rfl (by decide)
  rw [cellK h.2.1 h.1 hx hL a5 hi, (a8 (by omega) i hi).1, hM.2.2.2.2.1 _ (by omega)]
theorem sum_at {S : KS} {T : MS} {m x L : Nat} (h : RelM S T m) (hm : m < 60) (hx : x < m) (a4 : T.forms x = nI 3) (a6 : T.sizes x = nI L) (hL8 : L ≤ 8) : ∀ (n : Nat) (S1 : KS) (T1 : MS) (j : Nat), j + n = 9 → j ≤ 8 → Both S T S1 T1 m 2 L → ∃ S2 T2, f_X2_sum_c74 n S1 (nI x) (nI L) (nI m) j = (nI m, S2) ∧ f_X3_sum_c60 n T1 (nI x) (nI m) j = (nI m, T2) ∧ Both S T S2 T2 m 2 L := by
  obtain ⟨f2, L2, hf, hL, b3, b4, b5, b6, b7, b8, b9⟩ := h.2.2.2.1 x hx
  have e1 : f2 = 3 := (nI_eq (by omega) (by omega)).mp (b4.symm.trans a4)
  subst e1
  intro n
  induction n with
  | zero => intro S1 T1 j h1 h2; exact absurd h1 (by omega)
  | succ n ih =>
    intro S1 T1 j h1 h2 hB
    obtain ⟨c, cn, cl, hK, hM, hC⟩ := id hB
    have eL : nI L = nI L2 := a6.symm.trans b6
    have es : T1.sizes (nI x).toNatClampNeg = nI L := by rw [cl1 (by omega), hM.sizeAt hx, a6]
    by_cases cc : nI L ≤ nI j
    · refine ⟨S1, T1, ?_, ?_, hB⟩
      · simp only [f_X2_sum_c74, if_pos cc]
      · simp only [f_X3_sum_c60, es, if_pos cc]
    · have hl2 : ¬ L2 ≤ j := fun q => cc (by rw [eL]; exact (nI_leI (by omega) (by omega)).mpr q)
      have cell := b9 (by omega) j (by omega)
      have ep : f_X1_placed S1 (nI x) (nI j) = T.lies (8 * x + j) := by rw [hK.placeAt hm hx hL b5 (by omega), cell.1, i32_rt]
      have el : T1.lies ((8 * nI x) + nI j).toNatClampNeg = T.lies (8 * x + j) := by rw [mx (by omega) (by omega), hM.2.2.2.2.2.1 _ (by omega)]
      have hLe : L = L2 := (nI_eq (by omega) (by omega)).mp eL
      subst hLe
      simp only [f_X2_sum_c74, f_X3_sum_c60, es, if_neg cc]
      rw [ep, el]
      rcases cell.2 with hy | ⟨y, hy, ey, ht, -⟩
      · rw [hy, if_pos rfl, total_m1 hK.1 (by omega), mx (by omega) (by omega)]
        exact ih _ _ (j + 1) (by omega) (by omega) (hB.num hm hL (by omega) (by omega) (cut_0 _) (cut_0 _))
      · rw [ey, if_neg (nI_ne_m1 (by omega)), total_of h hm hK hM hy ⟨1, by omega, ht rfl⟩, mx (by omega) (by omega)]
        exact ih _ _ (j + 1) (by omega) (by omega) (hB.num hm hL (by omega) (by omega) (cut_hi (by omega) (by omega) _) (cut_hi (by omega) (by omega) _))
theorem op_sum {S : KS} {T : MS} {m j : Nat} (h : RelM S T m) (hm : m < 60) (hj : j < m) : EqW T m (f_X2_sum S (nI j)) (f_X3_sum T (nI j)) := by
  have hv : VN m (nI j) := Or.inr ⟨j, hj, rfl⟩
  obtain ⟨f, k, hf, hk, a3, a4, a5, a6, a7, a8, a9⟩ := h.2.2.2.1 j hj
  unfold f_X2_sum f_X3_sum
  rw [if_neg (nI_ne_m1 (by omega)), row_eq h hj, isRow_nI (by omega) hf a4, (isA_eq (v := 3) h hv ⟨3, by decide, rfl⟩).trans (isOf_nI (by omega) a4), lenK h.2.1 h.1 hj a5, cl1 (by omega), a4, a6]
  simp only [ite01]
  by_cases h2 : f ≤ 2
  · rw [if_pos h2, if_neg n10, if_neg n10]
    obtain ⟨S1, T1, e1, e2, hB⟩ := both_add 2 1 h hm (by omega) (by omega) (by omega)
    have e1' : f_X1_add S 2 1 = (nI m, S1) := e1
    have e2' : f_X3_make T 2 1 = (nI m, T1) := e2
    obtain ⟨c, cn, cl, hK, hM, hC⟩ := id hB
    unfold f_X1_addSingle
    rw [e1', e2']
    (try dsimp only)
    rw [total_base h hm hM hj ⟨f, h2, a4⟩, mx0 (by omega)]
    exact ((hB.num (i := 0) hm (by omega) (by omega) (by omega) (cut_hi (by omega) (by omega) _) (cut_hi (by omega) (by omega) _))).w h hm (by omega) (by omega)
  · rw [if_neg h2, if_pos rfl, if_pos rfl]
    by_cases h3 : f = 3
    · subst h3
      rw [if_neg (show ¬ f_X3_formIs (nI 3) 3 = 0 by decide), if_pos (show nI 3 = 3 from rfl)]
      obtain ⟨S1, T1, e1, e2, hB⟩ := both_add 2 k h hm (by omega) hk (by omega)
      have e1' : f_X1_add S 2 (nI k) = (nI m, S1) := e1
      have e2' : f_X3_make T 2 (nI k) = (nI m, T1) := e2
      rw [e1', e2']
      (try dsimp only)
      obtain ⟨S2, T2, e3, e4, hB2⟩ := sum_at h hm hj a4 a6 hk 9 S1 T1 0 rfl (by decide) hB
      rw [e3, e4]
      exact (hB2).w h hm (by omega) hk
    · have : ∀ f, f < 11 → 3 ≤ f → f ≠ 3 → f_X3_formIs (nI f) 3 = 0 ∧ ¬ nI f = 3 := by decide
      rw [if_pos (this f (by omega) (by omega) h3).1, if_neg (this f (by omega) (by omega) h3).2]; exact badW h
