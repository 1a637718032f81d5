/-! LEVELS, POWER, PAIR, DRIVE, JOIN -/
theorem mul_rt (a b : Int32) : (a.toInt64 * b.toInt64).toInt32 = a * b := by simp
theorem cut1 (v : Int64) : f_X3_cut (nI 1) v = v.toInt32.toInt64 := by
  unfold f_X3_cut
  rw [if_neg (by decide), if_pos (by decide)]
theorem mul_cut (t l : Int32) : f_X3_cut (nI 1) (t.toInt64 * l.toInt64) = (t * l).toInt64 := by rw [cut1, mul_rt]
theorem cut1_i (x : Int32) : f_X3_cut (nI 1) x.toInt64 = x.toInt64 := by rw [cut1, i32_rt]
theorem mul0 (t : Int32) : (t * 0).toInt64 = 0 := by rw [Int32.mul_zero]; decide
theorem lev_at {S : KS} {T : MS} {m x L f : Nat} (t : Int32) (h : RelM S T m) (hm : m < 60) (hx : x < m) (a4 : T.forms x = nI f) (hf3 : 3 ≤ f) (hf10 : f ≤ 10) (a6 : T.sizes x = nI L) (hL8 : L ≤ 8) : ∀ (n : Nat) (S1 : KS) (T1 : MS) (j : Nat), j + n = 9 → j ≤ 8 → Both S T S1 T1 m 1 L → ∃ S2 T2, f_X2_levelsTimes_c25 n S1 (nI x) t.toInt64 (nI L) (nI m) j = (nI m, S2) ∧ f_X3_levelsOf_c15 n T1 (nI x) t (nI m) j = (nI m, T2) ∧ Both S T S2 T2 m 1 L := by
  obtain ⟨f2, L2, hf, hL, b3, b4, b5, b6, b7, b8, b9⟩ := h.2.2.2.1 x hx
  have e1 : f2 = f := (nI_eq (by omega) (by omega)).mp (b4.symm.trans a4)
  subst e1
  have eL : L = L2 := (nI_eq (by omega) (by omega)).mp (a6.symm.trans b6)
  subst eL
  intro n
  induction n with
  | zero => intro S1 T1 j h1 h2; exact absurd h1 (by omega)
  | succ n ih =>
    intro S1 T1 j h1 h2 hB
    obtain ⟨c, cn, cl, hK, hM, hC⟩ := id hB
    have es : T1.sizes (nI x).toNatClampNeg = nI L := by rw [cl1 (by omega), hM.sizeAt hx, a6]
    by_cases cc : nI L ≤ nI j
    · refine ⟨S1, T1, ?_, ?_, hB⟩
      · simp only [f_X2_levelsTimes_c25, if_pos cc]
      · simp only [f_X3_levelsOf_c15, es, if_pos cc]
    · have hl2 : ¬ L ≤ j := fun q => cc ((nI_leI (by omega) (by omega)).mpr q)
      have cell := b9 hf3 j (by omega)
      have ep : f_X1_placed S1 (nI x) (nI j) = T.lies (8 * x + j) := by rw [hK.placeAt hm hx hL b5 (by omega), cell.1, i32_rt]
      have el : T1.lies ((8 * nI x) + nI j).toNatClampNeg = T.lies (8 * x + j) := by rw [mx (by omega) (by omega), hM.2.2.2.2.2.1 _ (by omega)]
      simp only [f_X2_levelsTimes_c25, f_X3_levelsOf_c15, es, if_neg cc]
      rw [ep, el]
      rcases cell.2 with hy | ⟨y, hy, ey, -, -⟩
      · have e0 : f_X1_levelOf S1 (-1) = 0 := by
          unfold f_X1_levelOf
          rw [has_0 hK.1 (by omega) (not_m1 (by omega)), if_pos rfl]
        rw [hy, if_pos rfl, e0, mx (by omega) (by omega)]
        exact ih _ _ (j + 1) (by omega) (by omega) (hB.num hm hL (by omega) (by omega) (by rw [mul_cut, mul0]) (cut_0 _))
      · have e0 : f_X1_levelOf S1 (nI y) = T1.levels y := by
          obtain ⟨g, k3, -, -, -, -, -, -, g7, -⟩ := h.2.2.2.1 y hy
          rw [levK hK.1 (by omega) (by omega), hK.2.2.2.1, hM.2.2.2.1, pk_un (by omega), pk_un (by omega), g7]
        rw [ey, if_neg (nI_ne_m1 (by omega)), e0, mx (by omega) (by omega), cl1 (by omega)]
        exact ih _ _ (j + 1) (by omega) (by omega) (hB.num hm hL (by omega) (by omega) (mul_cut _ _) (cut1_i _))
theorem eq_lev {S : KS} {T : MS} {m x f : Nat} (t : Int32) (h : RelM S T m) (hm : m < 60) (hx : x < m) (a4 : T.forms x = nI f) (hf3 : 3 ≤ f) (hf10 : f ≤ 10) : EqW T m ((f_X2_levelsTimes S (nI x) t.toInt64).1, (f_X2_levelsTimes S (nI x) t.toInt64).2) ((f_X3_levelsOf T (nI x) t).1, (f_X3_levelsOf T (nI x) t).2) := by
  obtain ⟨f2, L, hf, hL, b3, b4, b5, b6, b7, b8, b9⟩ := h.2.2.2.1 x hx
  obtain ⟨S1, T1, e1, e2, hB⟩ := both_add 1 L h hm (by omega) hL (by omega)
  have e1' : f_X1_add S 1 (nI L) = (nI m, S1) := e1
  have e2' : f_X3_make T 1 (nI L) = (nI m, T1) := e2
  obtain ⟨S2, T2, e3, e4, hB2⟩ := lev_at t h hm hx a4 hf3 hf10 b6 hL 9 S1 T1 0 rfl (by decide) hB
  unfold f_X2_levelsTimes f_X3_levelsOf
  rw [lenK h.2.1 h.1 hx b5, cl1 (by omega), b6, e1', e2']
  (try dsimp only)
  rw [e3, e4]
  exact (hB2).w h hm (by omega) hL
theorem lev3 : ∀ f, f < 11 → (¬ f_X3_formIs (nI f) 6 = 0 ∨ ¬ f_X3_formIs (nI f) 8 = 0) → 3 ≤ f := by decide
theorem op_levels {S : KS} {T : MS} {m j : Nat} (h : RelM S T m) (hm : m < 60) (hj : j < m) : EqW T m (f_X2_levels S (nI j)) (if (f_X3_isOf T (nI j) 6) = 0 then (if (f_X3_isOf T (nI j) 8) = 0 then ((f_X3_with 1, T)) else (((f_X3_levelsOf T (nI j) 1).1, (f_X3_levelsOf T (nI j) 1).2))) else (((f_X3_levelsOf T (nI j) 1).1, (f_X3_levelsOf T (nI j) 1).2))) := by
  have hv : VN m (nI j) := Or.inr ⟨j, hj, rfl⟩
  obtain ⟨f, k, hf, hk, a3, a4, a5, a6, a7, a8, a9⟩ := h.2.2.2.1 j hj
  unfold f_X2_levels
  rw [if_neg (nI_ne_m1 (by omega)), isA_eq (v := 6) h hv ⟨6, by decide, rfl⟩, isA_eq (v := 8) h hv ⟨8, by decide, rfl⟩]
  have e6 := isOf_nI (v := 6) (T := T) (j := j) (by omega) a4
  have e8 := isOf_nI (v := 8) (T := T) (j := j) (by omega) a4
  have key : 3 ≤ f → EqW T m ((f_X2_levelsTimes S (nI j) 1).1, (f_X2_levelsTimes S (nI j) 1).2) ((f_X3_levelsOf T (nI j) 1).1, (f_X3_levelsOf T (nI j) 1).2) := fun h3 => by
    have := eq_lev 1 h hm hj a4 h3 hf
    rw [show (1 : Int32).toInt64 = 1 by decide] at this
    exact this
  by_cases c6 : f_X3_isOf T (nI j) 6 = 0
  · rw [if_pos c6, if_pos c6]
    by_cases c8 : f_X3_isOf T (nI j) 8 = 0
    · rw [if_pos c8, if_pos c8]; exact badW h
    · rw [if_neg c8, if_neg c8]
      exact key (lev3 f (by omega) (Or.inr (fun q => c8 (e8.trans (ite01.mpr q)))))
  · rw [if_neg c6, if_neg c6]
    exact key (lev3 f (by omega) (Or.inl (fun q => c6 (e6.trans (ite01.mpr q)))))
theorem pow_dec : ∀ f, f < 11 → (f_X3_formIs (nI f) 11 = 0 ↔ ¬ nI f = 5) := by decide
theorem op_power {S : KS} {T : MS} {m j : Nat} (h : RelM S T m) (hm : m < 60) (hj : j < m) : EqW T m (f_X2_power S (nI j)) (f_X3_power T (nI j)) := by
  have hv : VN m (nI j) := Or.inr ⟨j, hj, rfl⟩
  obtain ⟨f, k, hf, hk, a3, a4, a5, a6, a7, a8, a9⟩ := h.2.2.2.1 j hj
  unfold f_X2_power f_X3_power
  rw [if_neg (nI_ne_m1 (by omega)), (isA_eq (v := 11) h hv ⟨11, by decide, rfl⟩).trans (isOf_nI (by omega) a4), isA_eq (v := 8) h hv ⟨8, by decide, rfl⟩, levK h.2.1 h.1 hj, cl1 (by omega), a4]
  simp only [ite01]
  by_cases c5 : nI f = 5
  · rw [if_neg (fun q => (pow_dec f (by omega)).mp q c5), if_pos c5]
    obtain ⟨S1, T1, e1, e2, hB⟩ := both_add 1 1 h hm (by omega) (by omega) (by omega)
    have e1' : f_X1_add S 1 1 = (nI m, S1) := e1
    have e2' : f_X3_make T 1 1 = (nI m, T1) := e2
    obtain ⟨c, cn, cl, hK, hM, hC⟩ := id hB
    unfold f_X1_addSingle
    rw [e1', e2']
    (try dsimp only)
    rw [mx0 (by omega), show (3 : Int64) = (3 : Int32).toInt64 by decide, hM.2.2.2.1, pk_un (by omega), ← a7]
    exact ((hB.num (i := 0) hm (by omega) (by omega) (by omega) (mul_cut _ _) (cut1_i _))).w h hm (by omega) (by omega)
  · rw [if_pos ((pow_dec f (by omega)).mpr c5), if_neg c5]
    by_cases c8 : f_X3_isOf T (nI j) 8 = 0
    · rw [if_pos c8, if_pos c8]; exact badW h
    · rw [if_neg c8, if_neg c8]
      have e8 := isOf_nI (v := 8) (T := T) (j := j) (by omega) a4
      have := eq_lev 3 h hm hj a4 (lev3 f (by omega) (Or.inr (fun q => c8 (e8.trans (ite01.mpr q))))) hf
      rw [show (3 : Int32).toInt64 = 3 by decide] at this
      exact this
theorem noneOr_eq {S : KS} {T : MS} {m : Nat} {x v : Int32} (h : RelM S T m) (hx : VN m x) (hv : ∃ w, w < 12 ∧ v = nI w) : f_X2_isNoneOr S x v = if x = -1 then 1 else f_X3_isOf T x v := by
  have h60 := h.1
  rcases hx with rfl | ⟨j, hj, rfl⟩
  · rw [noneOr_m1, if_pos rfl]
  · rw [noneOr_nI h hj hv, if_neg (nI_ne_m1 (by omega))]
theorem fit_9 {T : MS} {m f y : Nat} (hf : f = 9 ∨ f = 10) (hy : y < m) : Fit T m f (nI y) := Or.inr ⟨y, hy, rfl, fun q => by omega, fun q => by omega⟩
theorem pair_c48 {S : KS} {T : MS} {m : Nat} {x y : Int32} (b n : Int32) (hb : b = 0 ↔ n = 0) (h : RelM S T m) (hm : m < 60) (hx : VN m x) (hy : VN m y) : EqW T m (f_X2_pair_c38 S x y b) (f_X3_pair_c48 T x y n) := by
  have h60 := h.1
  unfold f_X2_pair_c38 f_X3_pair_c48
  rcases hx with rfl | ⟨p, hp, rfl⟩
  · rw [if_pos rfl, if_pos rfl]; exact badW h
  rw [if_neg (nI_ne_m1 (by omega)), if_neg (nI_ne_m1 (by omega))]
  rcases hy with rfl | ⟨q, hq, rfl⟩
  · rw [if_pos rfl, if_pos rfl]; exact badW h
  rw [if_neg (nI_ne_m1 (by omega)), if_neg (nI_ne_m1 (by omega))]
  by_cases c : n = 0
  · rw [if_pos (hb.mpr c), if_pos c]
    obtain ⟨S1, T1, e1, e2, hB⟩ := both_add 9 2 h hm (by omega) (by omega) (by omega)
    have e1' : f_X1_add S 9 2 = (nI m, S1) := e1
    have e2' : f_X3_make T 9 2 = (nI m, T1) := e2
    rw [e1', e2']
    (try dsimp only)
    rw [mx0 (by omega), show ((8 * nI m) + 1).toNatClampNeg = 8 * m + 1 from mx (x := m) (i := 1) (by omega) (by omega)]
    exact (((hB.lie (i := 0) hm (by omega) (by omega) (by omega) (by omega) (fit_9 (Or.inl rfl) hp)).lie (i := 1) hm (by omega) (by omega) (by omega) (by omega) (fit_9 (Or.inl rfl) hq))).w h hm (by omega) (by omega)
  · rw [if_neg (fun q => c (hb.mp q)), if_neg c]
    obtain ⟨S1, T1, e1, e2, hB⟩ := both_add 10 2 h hm (by omega) (by omega) (by omega)
    have e1' : f_X1_add S 10 2 = (nI m, S1) := e1
    have e2' : f_X3_make T 10 2 = (nI m, T1) := e2
    rw [e1', e2']
    (try dsimp only)
    rw [mx0 (by omega), show ((8 * nI m) + 1).toNatClampNeg = 8 * m + 1 from mx (x := m) (i := 1) (by omega) (by omega)]
    exact (((hB.lie (i := 0) hm (by omega) (by omega) (by omega) (by omega) (fit_9 (Or.inr rfl) hp)).lie (i := 1) hm (by omega) (by omega) (by omega) (by omega) (fit_9 (Or.inr rfl) hq))).w h hm (by omega) (by omega)
theorem op_pair {S : KS} {T : MS} {m : Nat} {x y : Int32} (b n : Int32) (hb : b = 0 ↔ n = 0) (h : RelM S T m) (hm : m < 60) (hx : VN m x) (hy : VN m y) : EqW T m (f_X2_pair S x y b) (f_X3_pair T x y n) := by
  have key : ∀ w : Int32, (∃ w', w' < 12 ∧ w = nI w') → EqW T m (if (f_X2_isNoneOr S x w) = 0 then ((f_X2_fault 1, S)) else (if (f_X2_isNoneOr S y w) = 0 then ((f_X2_fault 1, S)) else (f_X2_pair_c38 S x y b))) (f_X3_pair_c13 T x y n w) := by
    intro w hw
    have hc := pair_c48 b n hb h hm hx hy
    unfold f_X3_pair_c13 f_X3_pair_c28
    rw [noneOr_eq h hx hw, noneOr_eq h hy hw]
    by_cases cx : x = -1
    · rw [if_pos cx, if_pos cx, if_neg n10]
      by_cases cy : y = -1
      · rw [if_pos cy, if_pos cy, if_neg n10]; exact hc
      · rw [if_neg cy, if_neg cy]
        by_cases co : f_X3_isOf T y w = 0
        · rw [if_pos co, if_pos co]; exact badW h
        · rw [if_neg co, if_neg co]; exact hc
    · rw [if_neg cx, if_neg cx]
      by_cases cw : f_X3_isOf T x w = 0
      · rw [if_pos cw, if_pos cw]; exact badW h
      · rw [if_neg cw, if_neg cw]
        by_cases cy : y = -1
        · rw [if_pos cy, if_pos cy, if_neg n10]; exact hc
        · rw [if_neg cy, if_neg cy]
          by_cases co : f_X3_isOf T y w = 0
          · rw [if_pos co, if_pos co]; exact badW h
          · rw [if_neg co, if_neg co]; exact hc
  unfold f_X2_pair f_X3_pair
  by_cases c : n = 0
  · rw [if_pos (hb.mpr c), if_pos c]; exact key 6 ⟨6, by decide, rfl⟩
  · rw [if_neg (fun q => c (hb.mp q)), if_neg c]; exact key 7 ⟨7, by decide, rfl⟩
/-! DRIVE -/
theorem drv2_at {S : KS} {T : MS} {m m0 x L fc : Nat} (hm : m < 60) (hx : x < m) (hfc : fc = 6 ∨ fc = 7) (a6 : T.sizes x = nI L) (hL : L ≤ 8) (h0 : m0 + L ≤ m) (hw : ∀ i, i < L → T.forms (m0 + i) = nI 4 ∨ T.forms (m0 + i) = nI 5) : ∀ (n : Nat) (S1 : KS) (T1 : MS) (j : Nat), j + n = 9 → j ≤ 8 → Both S T S1 T1 m fc L → ∃ S2 T2, f_X2_drive_c112 n S1 (nI L) (nI m0) (nI m) j = (nI m, S2) ∧ f_X3_drive_c102 n T1 (nI x) (nI m0) (nI m) j = (nI m, T2) ∧ Both S T S2 T2 m fc L := by
  intro n
  induction n with
  | zero => intro S1 T1 j h1 h2; exact absurd h1 (by omega)
  | succ n ih =>
    intro S1 T1 j h1 h2 hB
    obtain ⟨c, cn, cl, hK, hM, hC⟩ := id hB
    have es : T1.sizes (nI x).toNatClampNeg = nI L := by rw [cl1 (by omega), hM.sizeAt hx, a6]
    by_cases cc : nI L ≤ nI j
    · refine ⟨S1, T1, ?_, ?_, hB⟩
      · simp only [f_X2_drive_c112, if_pos cc]
      · simp only [f_X3_drive_c102, es, if_pos cc]
    · have hl : ¬ L ≤ j := fun q => cc ((nI_leI (by omega) (by omega)).mpr q)
      simp only [f_X2_drive_c112, f_X3_drive_c102, es, if_neg cc]
      rw [mx (by omega) (by omega), nI_add]
      exact ih _ _ (j + 1) (by omega) (by omega) (hB.lie hm hL (by omega) (by omega) (by omega) (Or.inr ⟨m0 + j, by omega, rfl, fun q => by omega, fun _ => hw j (by omega)⟩))
theorem drv_at {m0 x L : Nat} (b w : Int32) (hb : b = 0 ↔ w = 0) (hx : x < m0) (hL : L ≤ 8) (h60 : m0 + L < 60) : ∀ (n : Nat) (S : KS) (T : MS) (j : Nat), j + n = 9 → j ≤ L → RelM S T (m0 + j) → T.sizes x = nI L → T.forms x = nI 1 → (∀ i, i < j → T.forms (m0 + i) = nI 4 ∨ T.forms (m0 + i) = nI 5) → EqW T (m0 + j) (f_X2_drive_c48 n S (nI x) b (nI L) (nI m0) j) (f_X3_drive_c23 n T (nI x) w (nI m0) j) := by
  intro n
  induction n with
  | zero => intro S T j h1 h2; exact absurd h1 (by omega)
  | succ n ih =>
    intro S T j h1 h2 h a6 a4 hw
    have es : T.sizes (nI x).toNatClampNeg = nI L := by rw [cl1 (by omega), a6]
    by_cases cc : nI L ≤ nI j
    · have hl : L ≤ j := (nI_leI (by omega) (by omega)).mp cc
      have hj : j = L := by omega
      subst hj
      simp only [f_X2_drive_c48, f_X3_drive_c23, es, if_pos cc]
      have fin : ∀ fc, fc = 6 ∨ fc = 7 → EqW T (m0 + j) (f_X2_drive_c112 9 ((f_X1_add S (nI fc) (nI j)).2) (nI j) (nI m0) ((f_X1_add S (nI fc) (nI j)).1) 0) (f_X3_drive_c102 9 ((f_X3_make T (nI fc) (nI j)).2) (nI x) (nI m0) ((f_X3_make T (nI fc) (nI j)).1) 0) := by
        intro fc hfc
        obtain ⟨S1, T1, e1, e2, hB⟩ := both_add fc j h (by omega) (by omega) hL (by omega)
        rw [e1, e2]
        (try dsimp only)
        obtain ⟨S2, T2, e3, e4, hB2⟩ := drv2_at (by omega) (by omega) hfc a6 hL (Nat.le_refl _) hw 9 S1 T1 0 rfl (by decide) hB
        rw [e3, e4]
        exact (hB2).w h (by omega) (by omega) hL
      by_cases c : w = 0
      · rw [if_pos (hb.mpr c), if_pos c]; exact fin 6 (Or.inl rfl)
      · rw [if_neg (fun q => c (hb.mp q)), if_neg c]; exact fin 7 (Or.inr rfl)
    · have hl : ¬ L ≤ j := fun q => cc ((nI_leI (by omega) (by omega)).mpr q)
      obtain ⟨f2, L2, hf, hL2, b3, b4, b5, b6, b7, b8, b9⟩ := h.2.2.2.1 x (by omega)
      have eL : L = L2 := (nI_eq (by omega) (by omega)).mp (a6.symm.trans b6)
      subst eL
      have ef : f2 = 1 := (nI_eq (by omega) (by omega)).mp (b4.symm.trans a4)
      subst ef
      have ec : f_X1_cellOf S (nI x) (nI j) = T.nums (8 * x + j) := by rw [cellK h.2.1 (by omega) (by omega) hL b5 (by omega), (b8 (by omega) j (by omega)).1]
      have stp : ∀ f4, f4 = 4 ∨ f4 = 5 → EqW T (m0 + j) (f_X2_drive_c48 n ((f_X1_addWire S (nI f4) ((T.nums (8 * x + j)).toInt32)).2) (nI x) b (nI L) (nI m0) (j + 1)) (f_X3_drive_c23 n (((f_X3_make T (nI f4) 0).2).set_levels (upd (((f_X3_make T (nI f4) 0).2).levels) ((f_X3_make T (nI f4) 0).1).toNatClampNeg (((((f_X3_make T (nI f4) 0).2).nums) ((8 * nI x) + nI j).toNatClampNeg).toInt32))) (nI x) w (nI m0) (j + 1)) := by
        intro f4 hf4
        obtain ⟨S', T', e1, e2, hR, hsz, hfm, hnm, hst⟩ := both_wire f4 ((T.nums (8 * x + j)).toInt32) h (by omega) hf4
        rw [e1, e2]
        (try dsimp only)
        rw [mx (by omega) (by omega), cl1 (by omega), hnm _ (by omega)]
        refine (ih _ _ (j + 1) (by omega) (by omega) hR ?_ ?_ (fun i hi => ?_)).mono (by omega) hst
        · rw [MS.sizes_set_levels, (hsz x (by omega)).1, a6]
        · rw [MS.forms_set_levels, (hsz x (by omega)).2, a4]
        · rw [MS.forms_set_levels]
          by_cases hij : i = j
          · subst hij
            rw [hfm]
            rcases hf4 with q | q
            · rw [q]; exact Or.inl rfl
            · rw [q]; exact Or.inr rfl
          · rw [(hsz (m0 + i) (by omega)).2]; exact hw i (by omega)
      simp only [f_X2_drive_c48, f_X3_drive_c23, es, if_neg cc]
      rw [ec]
      by_cases c : w = 0
      · rw [if_pos (hb.mpr c), if_pos c]; exact stp 4 (Or.inl rfl)
      · rw [if_neg (fun q => c (hb.mp q)), if_neg c]; exact stp 5 (Or.inr rfl)
theorem drv_dec : ∀ f, f < 11 → (f_X3_formIs (nI f) 1 = 0 ↔ ¬ nI f = 1) := by decide
theorem op_drive {S : KS} {T : MS} {m j : Nat} (b w : Int32) (hb : b = 0 ↔ w = 0) (h : RelM S T m) (hj : j < m) (hr : T.forms j = nI 1 → m + (T.sizes j).toNatClampNeg < 60) : EqW T m (f_X2_drive S (nI j) b) (f_X3_drive T (nI j) w) := by
  have hv : VN m (nI j) := Or.inr ⟨j, hj, rfl⟩
  have h60 := h.1
  obtain ⟨f, k, hf, hk, a3, a4, a5, a6, a7, a8, a9⟩ := h.2.2.2.1 j hj
  unfold f_X2_drive f_X3_drive
  rw [if_neg (nI_ne_m1 (by omega)), (isA_eq (v := 1) h hv ⟨1, by decide, rfl⟩).trans (isOf_nI (by omega) a4), cl1 (by omega), a4]
  simp only [ite01]
  by_cases c : nI f = 1
  · rw [if_neg (fun q => (drv_dec f (by omega)).mp q c), if_pos c, lenK h.2.1 h.1 hj a5]
    have a4' : T.forms j = nI 1 := by rw [a4]; exact c
    have hr' := hr a4'
    rw [a6, cl1 (by omega)] at hr'
    unfold f_X1_made
    rw [h.2.1, h.2.2.1]
    exact drv_at b w hb hj hk hr' 9 S T 0 rfl (by omega) h a6 a4' (fun i hi => by omega)
  · rw [if_pos ((drv_dec f (by omega)).mpr c), if_neg c]; exact badW h
/-! JOIN -/
theorem join_at {T : MS} {m f x y p q : Nat} (hm : m < 60) (hx : x < m) (hy : y < m) (hpq : p + q ≤ 8) : ∀ (n : Nat) (T1 : MS) (j : Nat) (cn : Nat → Int64) (cl : Nat → Int32), j + n = 9 → j ≤ 8 → NewM T T1 m f (p + q) 0 cn cl → ∃ T2, f_X3_join_c184 n T1 (nI x) (nI y) (nI p) (nI q) (nI m) j = (nI m, T2) ∧ NewM T T2 m f (p + q) 0 (fun i => if j ≤ i ∧ i < p + q then (if i < p then T.nums (8 * x + i) else T.nums (8 * y + (i - p))) else cn i) (fun i => if j ≤ i ∧ i < p + q then (if i < p then T.lies (8 * x + i) else T.lies (8 * y + (i - p))) else cl i) := by
  intro n
  induction n with
  | zero => intro T1 j cn cl h1 h2; exact absurd h1 (by omega)
  | succ n ih =>
    intro T1 j cn cl h1 h2 hM
    by_cases cc : nI p + nI q ≤ nI j
    · have hc : p + q ≤ j := by rw [nI_add] at cc; exact (nI_leI (by omega) (by omega)).mp cc
      refine ⟨T1, ?_, hM.congr (fun i hi => by rw [if_neg (by omega)]) (fun i hi => by rw [if_neg (by omega)])⟩
      simp only [f_X3_join_c184, if_pos cc]
    · have hc : ¬ p + q ≤ j := fun z => cc (by rw [nI_add]; exact (nI_leI (by omega) (by omega)).mpr z)
      simp only [f_X3_join_c184, if_neg cc, MS.lies_set_nums]
      by_cases cp : nI p ≤ nI j
      · have hp : p ≤ j := (nI_leI (by omega) (by omega)).mp cp
        have ei : (((8 * nI y) + nI j) - nI p).toNatClampNeg = 8 * y + (j - p) := by
          rw [show (8 : Int32) = nI 8 from rfl, pk_mul, nI_add, pk_sub (by omega), nI_clamp (by omega)]
          omega
        rw [if_pos cp, ei, mx (by omega) (by omega), hM.2.2.2.2.1 (8 * y + (j - p)) (by omega), hM.2.2.2.2.2.1 (8 * y + (j - p)) (by omega)]
        obtain ⟨T2, e, h⟩ := ih _ (j + 1) _ _ (by omega) (by omega) ((hM.num (i := j) (by omega) (T.nums (8 * y + (j - p)))).lie (i := j) (by omega) (T.lies (8 * y + (j - p))))
        refine ⟨T2, e, h.congr (fun i hi => ?_) (fun i hi => ?_)⟩
        · (try dsimp only)
          by_cases h3 : j + 1 ≤ i ∧ i < p + q
          · rw [if_pos h3, if_pos (show j ≤ i ∧ i < p + q by omega)]
          · rw [if_neg h3]
            by_cases h4 : i = j
            · subst h4
              rw [if_pos rfl, if_pos (by omega), if_neg (by omega)]
            · rw [if_neg h4, if_neg (by omega)]
        · (try dsimp only)
          by_cases h3 : j + 1 ≤ i ∧ i < p + q
          · rw [if_pos h3, if_pos (show j ≤ i ∧ i < p + q by omega)]
          · rw [if_neg h3]
            by_cases h4 : i = j
            · subst h4
              rw [if_pos rfl, if_pos (by omega), if_neg (by omega)]
            · rw [if_neg h4, if_neg (by omega)]
      · have hp : ¬ p ≤ j := fun z => cp ((nI_leI (by omega) (by omega)).mpr z)
        rw [if_neg cp, mx (by omega) (by omega), mx (by omega) (by omega), hM.2.2.2.2.1 (8 * x + j) (by omega), hM.2.2.2.2.2.1 (8 * x + j) (by omega)]
        obtain ⟨T2, e, h⟩ := ih _ (j + 1) _ _ (by omega) (by omega) ((hM.num (i := j) (by omega) (T.nums (8 * x + j))).lie (i := j) (by omega) (T.lies (8 * x + j)))
        refine ⟨T2, e, h.congr (fun i hi => ?_) (fun i hi => ?_)⟩
        · (try dsimp only)
          by_cases h3 : j + 1 ≤ i ∧ i < p + q
          · rw [if_pos h3, if_pos (show j ≤ i ∧ i < p + q by omega)]
          · rw [if_neg h3]
            by_cases h4 : i = j
            · subst h4
              rw [if_pos rfl, if_pos (by omega), if_pos (by omega)]
            · rw [if_neg h4, if_neg (by omega)]
        · (try dsimp only)
          by_cases h3 : j + 1 ≤ i ∧ i < p + q
          · rw [if_pos h3, if_pos (show j ≤ i ∧ i < p + q by omega)]
          · rw [if_neg h3]
            by_cases h4 : i = j
            · subst h4
              rw [if_pos rfl, if_pos (by omega), if_pos (by omega)]
            · rw [if_neg h4, if_neg (by omega)]
