/-! the calls, one by one: answers agree, and the states go on agreeing -/
theorem n10 : ¬ (1 : Int32) = 0 := by decide
theorem bad {S : KS} {T : MS} {m : Nat} {r : Int32} (h : RelM S T m) : EqO (r, S) (r, T) := ⟨rfl, m, h⟩
theorem add_full {S : KS} {a b : Int32} (h : S.made = nI 60) : f_X1_add S a b = (-4, S) := by
  unfold f_X1_add
  rw [if_pos (by rw [h]; decide)]
theorem eq_add {S : KS} {T : MS} {m f k : Nat} (h : RelM S T m) (hm : m < 60) (hf : f ≤ 10) (hk : k ≤ 8) (hw : f = 4 ∨ f = 5 → k = 0) : EqO (f_X1_add S (nI f) (nI k)) (f_X3_make T (nI f) (nI k)) := by
  obtain ⟨S', T', e1, e2, hB⟩ := both_add f k h hm hf hk hw
  rw [e1, e2]
  exact ⟨rfl, m + 1, hB.rel h hm hf hk⟩
theorem vals60 {T : MS} {m : Nat} (e : T.vals = nI m) (hm : m ≤ 60) : T.vals = 60 ↔ m = 60 := by
  rw [e]; exact nI_eq (a := m) (b := 60) (by omega) (by decide)
theorem isIn_rng {x lo hi : Int32} (h : ¬ f_X3_isIn x lo hi = 0) {a b : Nat} (ha : lo.toInt = a) (hb : hi.toInt = b) : ∃ f, a ≤ f ∧ f ≤ b ∧ x = nI f := by
  have h1 := isIn_in h
  obtain ⟨n, hn, rfl⟩ := nI_of (x := x) (by rw [Int32.lt_iff_toInt_lt]; have : (0 : Int32).toInt = 0 := by decide
                                            omega)
  rw [nI_toInt hn] at h1
  exact ⟨n, by omega, by omega, rfl⟩
theorem len_isIn (x : Int32) : f_X2_isLength x = f_X3_isIn x 0 8 := rfl
theorem view_isIn (x : Int32) : f_X2_isView x = f_X3_isIn x 0 11 := rfl
theorem act_isIn (x : Int32) : f_X2_isAct x = f_X3_isIn x 0 12 := rfl
/-- a new value by row or board -/
theorem new_eq {S : KS} {T : MS} {m f : Nat} {x2 : Int32} (h : RelM S T m) (hf : f ≤ 10) (hw : ¬ (f = 4 ∨ f = 5)) (c : ¬ f_X3_isIn x2 0 8 = 0) : EqO ((f_X1_add S (nI f) x2).1, (f_X1_add S (nI f) x2).2) (if T.vals = 60 then (-4, T) else ((f_X3_make T (nI f) x2).1, (f_X3_make T (nI f) x2).2)) := by
  obtain ⟨k, -, hk, rfl⟩ := isIn_rng c (a := 0) (b := 8) rfl rfl
  by_cases h6 : m = 60
  · rw [if_pos ((vals60 h.2.2.1 h.1).mpr h6), add_full (by rw [h.2.1, h6])]
    exact bad h
  · rw [if_neg (fun q => h6 ((vals60 h.2.2.1 h.1).mp q))]
    exact eq_add h (by have := h.1; omega) hf hk (fun q => absurd q hw)
theorem op_row {S : KS} {T : MS} {m : Nat} (x1 x2 : Int32) (h : RelM S T m) : EqO (f_X2_row S x1 x2) (f_X3_row T x1 x2) := by
  unfold f_X2_row f_X3_row
  by_cases c : f_X3_isIn x1 0 2 = 0
  · rw [if_pos c]
    by_cases c1 : x1 < 0
    · rw [if_pos c1]; exact bad h
    · by_cases c2 : 2 < x1
      · rw [if_neg c1, if_pos c2]; exact bad h
      · unfold f_X3_isIn at c
        rw [if_neg c1, if_neg c2] at c
        exact absurd c n10
  · rw [if_neg c]
    have hc := c
    unfold f_X3_isIn at hc
    obtain ⟨c1, hc⟩ := ne_ite hc
    obtain ⟨c2, hc⟩ := ne_ite hc
    rw [if_neg c1, if_neg c2, len_isIn]
    by_cases c3 : f_X3_isIn x2 0 8 = 0
    · rw [if_pos c3, if_pos c3]; exact bad h
    · rw [if_neg c3, if_neg c3]
      obtain ⟨f, -, hf, rfl⟩ := isIn_rng c (a := 0) (b := 2) rfl rfl
      exact new_eq h (by omega) (by omega) c3
theorem brd_dec : ∀ f, f < 11 → (f_X2_isBoardForm (nI f) = 0 ↔ ¬ (f = 3 ∨ 6 ≤ f)) := by decide
theorem brd_eq (x : Int32) : f_X2_isBoardForm x = if x = 3 then 1 else f_X3_isIn x 6 10 := rfl
theorem op_board {S : KS} {T : MS} {m : Nat} (x1 x2 : Int32) (h : RelM S T m) : EqO (f_X2_board S x1 x2) (f_X3_board T x1 x2) := by
  unfold f_X2_board f_X3_board f_X3_board_c16
  rw [brd_eq, len_isIn]
  by_cases c : x1 = 3
  · rw [if_pos c, if_pos c, if_neg n10]
    by_cases c3 : f_X3_isIn x2 0 8 = 0
    · rw [if_pos c3, if_pos c3]; exact bad h
    · rw [if_neg c3, if_neg c3]
      subst c
      exact new_eq (f := 3) h (by omega) (by omega) c3
  · rw [if_neg c, if_neg c]
    by_cases c2 : f_X3_isIn x1 6 10 = 0
    · rw [if_pos c2, if_pos c2]; exact bad h
    · rw [if_neg c2, if_neg c2]
      by_cases c3 : f_X3_isIn x2 0 8 = 0
      · rw [if_pos c3, if_pos c3]; exact bad h
      · rw [if_neg c3, if_neg c3]
        obtain ⟨f, h6, hf, rfl⟩ := isIn_rng c2 (a := 6) (b := 10) rfl rfl
        exact new_eq h (by omega) (by omega) c3
/-- a wire on both sides -/
theorem both_wire {S : KS} {T : MS} {m : Nat} (f : Nat) (l : Int32) (h : RelM S T m) (hm : m < 60) (hf : f = 4 ∨ f = 5) : ∃ S' T', f_X1_addWire S (nI f) l = (nI m, S') ∧ f_X3_make T (nI f) 0 = (nI m, T') ∧ RelM S' (T'.set_levels (upd T'.levels m l)) (m + 1) ∧ (∀ x, x < m → T'.sizes x = T.sizes x ∧ T'.forms x = T.forms x) ∧ T'.forms m = nI f ∧ (∀ q, q < 8 * m → T'.nums q = T.nums q) ∧ SameP T T' := by
  obtain ⟨S', T', e1, e2, c, cn, cl, hK, hM, hC⟩ := both_add f 0 h hm (by omega) (by omega) (fun _ => rfl)
  have e1' : f_X1_add S (nI f) 0 = (nI m, S') := e1
  have hK2 := hK
  obtain ⟨k1, k2, k3, k4, k5, k6, k7⟩ := hK
  have hM2 := hM
  obtain ⟨m1, m2, m3, m4, m5, m6, m7, m8, m9⟩ := hM
  refine ⟨S'.set_levels (upd S'.levels m l), T', ?_, e2, ?_, fun x hx => ⟨by rw [m3, pk_un (by omega)], by rw [m2, pk_un (by omega)]⟩, by rw [m2, pk_us], m5, hM2.same⟩
  · unfold f_X1_addWire
    rw [e1']
    dsimp only
    rw [has_1 k1 (by omega) (by omega), if_neg n10, cl1 (by omega)]
  · have u : ∀ (g : Nat → Int32), upd (upd g m 0) m l = upd g m l := fun g => funext fun q => by
      rw [upd_at, upd_at, upd_at]
      by_cases hq : q = m
      · rw [if_pos hq, if_pos hq]
      · rw [if_neg hq, if_neg hq, if_neg hq]
    refine R_new (lv := l) (c := c) (cn := cn) (cl := cl) (k := 0) (f := f) h hm ⟨k1, k2, k3, ?_, k5, k6, k7⟩ ⟨m1, m2, m3, ?_, m5, m6, m7, m8, m9⟩ (by omega) (by omega) hC
    · rw [KS.levels_set_levels, k4, u]
    · rw [MS.levels_set_levels, m4, u]
theorem wire_full {S : KS} {a b : Int32} (h : S.made = nI 60) : f_X1_addWire S a b = (-4, S) := by
  unfold f_X1_addWire
  rw [add_full h]
  dsimp only
  rw [has_0 h (by decide) (fun ⟨j, h1, h2⟩ => by
    have h1 := congrArg Int32.toInt h2
    rw [nI_toInt (by omega), show (-4 : Int32).toInt = -4 by decide] at h1
    omega), if_pos rfl]
theorem op_wire {S : KS} {T : MS} {m : Nat} (x1 x2 : Int32) (h : RelM S T m) : EqO (f_X2_wire S x1 x2) (f_X3_wire T x1 x2) := by
  unfold f_X2_wire f_X3_wire
  by_cases h6 : m = 60
  · have h7 : S.made = nI 60 := by rw [h.2.1, h6]
    rw [if_pos ((vals60 h.2.2.1 h.1).mpr h6), wire_full h7, wire_full h7]
    dsimp only
    by_cases c : x1 = 0
    · rw [if_pos c]; exact bad h
    · rw [if_neg c]; exact bad h
  · rw [if_neg (fun q => h6 ((vals60 h.2.2.1 h.1).mp q))]
    have hm : m < 60 := by have := h.1; omega
    by_cases c : x1 = 0
    · rw [if_pos c, if_pos c]
      obtain ⟨S', T', e1, e2, hR, -⟩ := both_wire 4 x2 h hm (Or.inl rfl)
      have e1' : f_X1_addWire S 4 x2 = (nI m, S') := e1
      have e2' : f_X3_make T 4 0 = (nI m, T') := e2
      rw [e1', e2']
      dsimp only
      rw [cl1 (by omega)]
      exact ⟨rfl, m + 1, hR⟩
    · rw [if_neg c, if_neg c]
      obtain ⟨S', T', e1, e2, hR, -⟩ := both_wire 5 x2 h hm (Or.inr rfl)
      have e1' : f_X1_addWire S 5 x2 = (nI m, S') := e1
      have e2' : f_X3_make T 5 0 = (nI m, T') := e2
      rw [e1', e2']
      dsimp only
      rw [cl1 (by omega)]
      exact ⟨rfl, m + 1, hR⟩
/-- a number of a row becomes another -/
theorem R_set {S : KS} {T : MS} {m j i f k : Nat} {w : Int64} (h : RelM S T m) (hj : j < m) (e3 : T.forms j = nI f) (e5 : T.sizes j = nI k) (hf : f ≤ 2) (hk : k ≤ 8) (hi : i < k) (hw : f_X3_cut (nI f) w = w) : RelM (S.set_cells (vp_updL S.cells (8 * j + i) w)) (T.set_nums (vp_updL T.nums (8 * j + i) w)) m := by
  obtain ⟨h60, e1, e2, hV, hP, hN⟩ := h
  refine ⟨h60, e1, e2, fun x hx => ?_, hP, hN⟩
  obtain ⟨g, q, a1, a2, a3, a4, a5, a6, a7, a8, a9⟩ := hV x hx
  refine ⟨g, q, a1, a2, a3, a4, a5, a6, a7, fun h2 y hy => ?_, fun h3 y hy => ?_⟩
  · rw [KS.cells_set_cells, MS.nums_set_nums, updL_at, updL_at]
    by_cases hxy : 8 * x + y = 8 * j + i
    · rw [if_pos hxy, if_pos hxy]
      have : x = j := by omega
      subst this
      have := (nI_eq (by omega) (by omega)).mp (a4.symm.trans e3)
      subst this
      exact ⟨rfl, hw⟩
    · rw [if_neg hxy, if_neg hxy]; exact a8 h2 y hy
  · rw [KS.cells_set_cells, updL_at]
    have hne : ¬ 8 * x + y = 8 * j + i := fun hxy => by
      have : x = j := by omega
      subst this
      have := (nI_eq (by omega) (by omega)).mp (a4.symm.trans e3)
      omega
    rw [if_neg hne]
    exact a9 h3 y hy
theorem op_set {S : KS} {T : MS} {m : Nat} (x1 x2 : Int32) (v : Int64) (h : RelM S T m) : EqO (f_X2_set S x1 x2 v) (f_X3_set T x1 x2 v) := by
  have h60 := h.1
  have hS := h.2.1
  have hT := h.2.2.1
  unfold f_X2_set f_X3_set
  by_cases hx : ∃ j, j < m ∧ x1 = nI j
  · obtain ⟨j, hj, rfl⟩ := hx
    obtain ⟨f, k, hf, hk, a3, a4, a5, a6, a7, a8, a9⟩ := h.2.2.2.1 j hj
    rw [isV_1 hT h60 hj, if_neg n10, row_eq h hj]
    by_cases c : f_X3_isRow T (nI j) = 0
    · rw [if_pos c, if_pos c]; exact bad h
    · rw [if_neg c, if_neg c, cl1 (by omega), a6]
      rw [isRow_nI (by omega) hf a4] at c
      have hf2 : f ≤ 2 := by
        by_cases q : f ≤ 2
        · exact q
        · rw [if_neg q] at c; exact absurd rfl c
      by_cases hi : ∃ i, i < k ∧ x2 = nI i
      · obtain ⟨i, hi, rfl⟩ := hi
        rw [place_1 hS h60 hj hk a5 hi, if_neg n10, isIn_1 (by omega) hi, if_neg n10, putK v hS h60 hj hk a5 hi, mx (by omega) (by omega), a3, a4]
        exact ⟨rfl, m, R_set h hj a4 a6 hf2 hk hi (cut_idem _ _)⟩
      · rw [place_0 hS h60 hj hk a5 hi, if_pos rfl, isIn_0 (by omega) hi, if_pos rfl]; exact bad h
  · rw [isV_0 hT h60 hx, if_pos rfl]
    unfold f_X1_isNumbers
    rw [has_0 hS h60 hx, if_pos rfl, if_pos rfl]; exact bad h
theorem op_number {S : KS} {T : MS} {m : Nat} (x1 x2 : Int32) (h : RelM S T m) : f_X2_number S x1 x2 = f_X3_number T x1 x2 := by
  have h60 := h.1
  have hS := h.2.1
  have hT := h.2.2.1
  unfold f_X2_number f_X3_number
  by_cases hx : ∃ j, j < m ∧ x1 = nI j
  · obtain ⟨j, hj, rfl⟩ := hx
    obtain ⟨f, k, hf, hk, a3, a4, a5, a6, a7, a8, a9⟩ := h.2.2.2.1 j hj
    rw [isV_1 hT h60 hj, if_neg n10, isA_eq (v := 4) h (Or.inr ⟨j, hj, rfl⟩) ⟨4, by decide, rfl⟩, row_eq h hj, levK hS h60 hj, cl1 (by omega), a7, a6]
    by_cases c4 : f_X3_isOf T (nI j) 4 = 0
    · rw [if_pos c4, if_pos c4]
      by_cases c : f_X3_isRow T (nI j) = 0
      · rw [if_pos c, if_pos c]
      · rw [if_neg c, if_neg c]
        rw [isRow_nI (by omega) hf a4] at c
        have hf2 : f ≤ 2 := by
          by_cases q : f ≤ 2
          · exact q
          · rw [if_neg q] at c; exact absurd rfl c
        by_cases hi : ∃ i, i < k ∧ x2 = nI i
        · obtain ⟨i, hi, rfl⟩ := hi
          rw [cellK hS h60 hj hk a5 hi, isIn_1 (by omega) hi, if_neg n10, mx (by omega) (by omega)]
          exact (a8 hf2 i hi).1
        · unfold f_X1_cellOf
          rw [place_0 hS h60 hj hk a5 hi, if_pos rfl, isIn_0 (by omega) hi, if_pos rfl]
    · rw [if_neg c4, if_neg c4]
  · rw [isV_0 hT h60 hx, if_pos rfl]
    unfold f_X1_isNumbers f_X1_isA
    rw [has_0 hS h60 hx, if_pos rfl, if_pos rfl, if_pos rfl, if_pos rfl]
theorem op_is {S : KS} {T : MS} {m : Nat} (x1 x2 : Int32) (h : RelM S T m) : f_X2_is S x1 x2 = f_X3_is T x1 x2 := by
  unfold f_X2_is f_X3_is
  rw [view_isIn]
  by_cases hx : ∃ j, j < m ∧ x1 = nI j
  · obtain ⟨j, hj, rfl⟩ := hx
    rw [has_1 h.2.1 h.1 hj, isV_1 h.2.2.1 h.1 hj, if_neg n10, if_neg n10]
    by_cases c : f_X3_isIn x2 0 11 = 0
    · rw [if_pos c, if_pos c]
    · rw [if_neg c, if_neg c]
      obtain ⟨w, -, hw, rfl⟩ := isIn_rng c (a := 0) (b := 11) rfl rfl
      rw [isA_eq h (Or.inr ⟨j, hj, rfl⟩) ⟨w, by omega, rfl⟩]
  · rw [has_0 h.2.1 h.1 hx, isV_0 h.2.2.1 h.1 hx, if_pos rfl, if_pos rfl]
theorem views_c15 (T T2 : MS) (x x' : Int32) (he : ∀ v, f_X3_isOf T x v = f_X3_isOf T2 x' v) : ∀ (n : Nat) (a : Int32) (j : Nat), f_X3_views_c15 n T x a j = f_X3_views_c15 n T2 x' a j := by
  intro n
  induction n with
  | zero => intro a j; rfl
  | succ n ih =>
    intro a j
    simp only [f_X3_views_c15]
    rw [he, ih, ih]
def vwT (f : Nat) : MS := mkMS 0 0 0 0 (fun _ => nI f) (fun _ => 0) (fun _ => 0) (fun _ => 0) (fun _ => 0) (fun _ => 0) (fun _ => 0) (fun _ => 0) (fun _ => 0)
theorem views_all : ∀ f, f < 11 → f_X2_viewsOfForm (nI f) = f_X3_views_c15 13 (vwT f) 0 0 0 := by decide +kernel
theorem op_views {S : KS} {T : MS} {m : Nat} (x1 : Int32) (h : RelM S T m) : f_X2_views S x1 = f_X3_views T x1 := by
  unfold f_X2_views f_X3_views
  by_cases hx : ∃ j, j < m ∧ x1 = nI j
  · obtain ⟨j, hj, rfl⟩ := hx
    have h60 := h.1
    obtain ⟨f, k, hf, hk, a3, a4, -⟩ := h.2.2.2.1 j hj
    rw [has_1 h.2.1 h.1 hj, isV_1 h.2.2.1 h.1 hj, if_neg n10, if_neg n10, formK h.2.1 h.1 hj a3, views_all f (by omega)]
    refine views_c15 _ _ _ _ (fun v => ?_) _ _ _
    rw [isOf_nI (by omega) a4]
    rfl
  · rw [has_0 h.2.1 h.1 hx, isV_0 h.2.2.1 h.1 hx, if_pos rfl, if_pos rfl]
theorem op_size {S : KS} {T : MS} {m : Nat} (x1 : Int32) (h : RelM S T m) : f_X2_size S x1 = f_X3_size T x1 := by
  unfold f_X2_size f_X3_size
  by_cases hx : ∃ j, j < m ∧ x1 = nI j
  · obtain ⟨j, hj, rfl⟩ := hx
    have h60 := h.1
    obtain ⟨f, k, hf, hk, a3, a4, a5, a6, -⟩ := h.2.2.2.1 j hj
    rw [has_1 h.2.1 h.1 hj, isV_1 h.2.2.1 h.1 hj, if_neg n10, if_neg n10, lenK h.2.1 h.1 hj a5, cl1 (by omega), a6]
  · rw [has_0 h.2.1 h.1 hx, isV_0 h.2.2.1 h.1 hx, if_pos rfl, if_pos rfl]
theorem op_count {S : KS} {T : MS} {m : Nat} (x1 : Int32) (h : RelM S T m) : f_X2_count S x1 = f_X3_count T x1 := by
  unfold f_X2_count f_X3_count f_X1_made
  rw [h.2.1, h.2.2.1, h.2.2.2.2.2.1, h.2.2.2.2.2.2.1]
theorem op_stopped {S : KS} {T : MS} {m : Nat} (h : RelM S T m) : f_X2_stopped S = f_X3_stopped T := h.2.2.2.2.2.2.2
