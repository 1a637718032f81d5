/-! what is asked of a number, on both sides -/
def VN (m : Nat) (x : Int32) : Prop := x = -1 ∨ ∃ j, j < m ∧ x = nI j
def EqO (a : Int32 × KS) (b : Int32 × MS) : Prop := a.1 = b.1 ∧ ∃ m', RelM a.2 b.2 m'
/-- what a work of both gives: the same answer, which is a fault or a value's number or none; states that agree; no fewer values; the same steps and stop -/
def SameP (T T' : MS) : Prop := T'.steps = T.steps ∧ T'.stop = T.stop
def EqW (T : MS) (m : Nat) (a : Int32 × KS) (b : Int32 × MS) : Prop := a.1 = b.1 ∧ ∃ m', m ≤ m' ∧ RelM a.2 b.2 m' ∧ SameP T b.2 ∧ (-10 ≤ b.1 → VN m' b.1)
theorem EqW.eqO {T : MS} {m : Nat} {a : Int32 × KS} {b : Int32 × MS} (h : EqW T m a b) : EqO a b := by
  obtain ⟨h1, m', -, h2, -⟩ := h
  exact ⟨h1, m', h2⟩
theorem EqW.eta {T : MS} {m : Nat} {a : Int32 × KS} {b : Int32 × MS} (h : EqW T m a b) : EqW T m (a.1, a.2) (b.1, b.2) := h
theorem EqW.mono {T T2 : MS} {m m2 : Nat} {a : Int32 × KS} {b : Int32 × MS} (h : EqW T2 m2 a b) (hm : m ≤ m2) (e : SameP T T2) : EqW T m a b := by
  obtain ⟨h1, m', h2, h3, h4, h5⟩ := h
  exact ⟨h1, m', by omega, h3, ⟨h4.1.trans e.1, h4.2.trans e.2⟩, h5⟩
theorem badW {S : KS} {T : MS} {m : Nat} {r : Int32} (h : RelM S T m) (hr : ¬ -10 ≤ r := by decide) : EqW T m (r, S) (r, T) := ⟨rfl, m, Nat.le_refl _, h, ⟨rfl, rfl⟩, fun q => absurd q hr⟩
theorem NewM.same {T T' : MS} {m f k : Nat} {lv : Int32} {cn : Nat → Int64} {cl : Nat → Int32} (h : NewM T T' m f k lv cn cl) : SameP T T' := ⟨h.2.2.2.2.2.2.2.2.1, h.2.2.2.2.2.2.2.2.2.2.2.2.2.2⟩
theorem vn_new {m : Nat} : VN (m + 1) (nI m) := Or.inr ⟨m, by omega, rfl⟩
theorem Both.w {S S' : KS} {T T' : MS} {m f k : Nat} (hB : Both S T S' T' m f k) (h : RelM S T m) (hm : m < 60) (hf : f ≤ 10) (hk : k ≤ 8) : EqW T m (nI m, S') (nI m, T') := by
  refine ⟨rfl, m + 1, by omega, hB.rel h hm hf hk, ?_, fun _ => vn_new⟩
  obtain ⟨c, cn, cl, -, hM, -⟩ := hB
  exact hM.same
theorem isIn_1 {k j : Nat} (hk : k ≤ 1000) (hj : j < k) : f_X3_isIn (nI j) 0 (nI k - 1) = 1 := by
  cases k with
  | zero => omega
  | succ k =>
    rw [nI_pred]
    unfold f_X3_isIn
    rw [if_neg (nI_pos (by omega)), if_neg (nI_nlt (by omega) (by omega))]
theorem isIn_0 {k : Nat} {x : Int32} (hk : k ≤ 1000) (h : ¬ ∃ j, j < k ∧ x = nI j) : f_X3_isIn x 0 (nI k - 1) = 0 := by
  unfold f_X3_isIn
  by_cases c : x < 0
  · rw [if_pos c]
  · rw [if_neg c]
    obtain ⟨n, hn, rfl⟩ := nI_of c
    rw [if_pos]
    have hkn : k ≤ n := Nat.not_lt.mp (fun q => h ⟨n, q, rfl⟩)
    cases k with
    | zero =>
      rw [Int32.lt_iff_toInt_lt, nI_toInt hn]
      have : (nI 0 - 1 : Int32).toInt = -1 := by decide
      omega
    | succ k =>
      rw [nI_pred]
      exact nI_lt (by omega) hn
theorem has_1 {S : KS} {m j : Nat} (e : S.made = nI m) (hm : m ≤ 60) (hj : j < m) : f_X1_has S (nI j) = 1 := by
  unfold f_X1_has
  rw [if_neg (nI_pos (by omega)), e, if_neg (nI_ge hj (by omega))]
theorem has_0 {S : KS} {m : Nat} {x : Int32} (e : S.made = nI m) (hm : m ≤ 60) (h : ¬ ∃ j, j < m ∧ x = nI j) : f_X1_has S x = 0 := by
  unfold f_X1_has
  by_cases c : x < 0
  · rw [if_pos c]
  · rw [if_neg c]
    obtain ⟨n, hn, rfl⟩ := nI_of c
    rw [e, if_pos (nI_le (Nat.not_lt.mp (fun q => h ⟨n, q, rfl⟩)) hn)]
theorem isV_1 {T : MS} {m j : Nat} (e : T.vals = nI m) (hm : m ≤ 60) (hj : j < m) : f_X3_isValue T (nI j) = 1 := by
  unfold f_X3_isValue
  rw [e]; exact isIn_1 (by omega) hj
theorem isV_0 {T : MS} {m : Nat} {x : Int32} (e : T.vals = nI m) (hm : m ≤ 60) (h : ¬ ∃ j, j < m ∧ x = nI j) : f_X3_isValue T x = 0 := by
  unfold f_X3_isValue
  rw [e]; exact isIn_0 (by omega) h
theorem nI_ne_m1 {j : Nat} (h : j < 1000) : ¬ nI j = -1 := fun e => by
  have h1 := congrArg Int32.toInt e
  rw [nI_toInt (by omega), show (-1 : Int32).toInt = -1 by decide] at h1
  omega
theorem mayBe_1 {T : MS} {m : Nat} {x : Int32} (e : T.vals = nI m) (hm : m ≤ 60) (h : VN m x) : f_X3_mayBe T x = 1 := by
  have hv : (nI m - 1 : Int32).toInt = (m : Int) - 1 := by rw [sub1 (by rw [nI_toInt (by omega)]; omega) (by rw [nI_toInt (by omega)]; omega), nI_toInt (by omega)]
  have h1 : (-1 : Int32).toInt = -1 := by decide
  unfold f_X3_mayBe f_X3_isIn
  rw [e]
  rcases h with rfl | ⟨j, hj, rfl⟩
  · rw [if_neg (by decide), if_neg (by rw [Int32.lt_iff_toInt_lt, hv, h1]; omega)]
  · rw [if_neg (by rw [Int32.lt_iff_toInt_lt, h1, nI_toInt (by omega)]; omega), if_neg (by rw [Int32.lt_iff_toInt_lt, hv, nI_toInt (by omega)]; omega)]
theorem mayBe_0 {T : MS} {m : Nat} {x : Int32} (e : T.vals = nI m) (hm : m ≤ 60) (h : ¬ VN m x) : f_X3_mayBe T x = 0 := by
  have hv : (nI m - 1 : Int32).toInt = (m : Int) - 1 := by rw [sub1 (by rw [nI_toInt (by omega)]; omega) (by rw [nI_toInt (by omega)]; omega), nI_toInt (by omega)]
  have h1 : (-1 : Int32).toInt = -1 := by decide
  unfold f_X3_mayBe f_X3_isIn
  rw [e]
  by_cases c : x < -1
  · rw [if_pos c]
  · rw [if_neg c]
    have c2 := nlt c
    have hne : ¬ x.toInt = -1 := fun q => h (Or.inl (Int32.toInt_inj.mp (q.trans h1.symm)))
    obtain ⟨n, hn, rfl⟩ := nI_of (x := x) (by rw [Int32.lt_iff_toInt_lt]; have : (0 : Int32).toInt = 0 := by decide
                                              omega)
    rw [if_pos]
    rw [Int32.lt_iff_toInt_lt, hv, nI_toInt hn]
    have : ¬ n < m := fun q => h (Or.inr ⟨n, q, rfl⟩)
    omega
theorem vnK_1 {S : KS} {m : Nat} {x : Int32} (e : S.made = nI m) (hm : m ≤ 60) (h : VN m x) : f_X2_isValueOrNone S x = 1 := by
  unfold f_X2_isValueOrNone
  rcases h with rfl | ⟨j, hj, rfl⟩
  · rw [if_pos rfl]
  · rw [if_neg (nI_ne_m1 (by omega)), has_1 e hm hj]; decide
theorem vnK_0 {S : KS} {m : Nat} {x : Int32} (e : S.made = nI m) (hm : m ≤ 60) (h : ¬ VN m x) : f_X2_isValueOrNone S x = 0 := by
  unfold f_X2_isValueOrNone
  rw [if_neg (fun q => h (Or.inl q)), has_0 e hm (fun q => h (Or.inr q))]; decide
theorem place_1 {S : KS} {m j k i : Nat} (e : S.made = nI m) (hm : m ≤ 60) (hj : j < m) (hk : k ≤ 8) (el : S.lens j = nI k) (hi : i < k) : f_X1_hasPlace S (nI j) (nI i) = 1 := by
  unfold f_X1_hasPlace
  rw [if_neg (nI_pos (by omega)), e, if_neg (nI_ge hj (by omega)), if_neg (nI_pos (by omega)), cl1 (by omega), el, if_neg (nI_ge hi (by omega))]
theorem place_0 {S : KS} {m j k : Nat} {x : Int32} (e : S.made = nI m) (hm : m ≤ 60) (hj : j < m) (hk : k ≤ 8) (el : S.lens j = nI k) (h : ¬ ∃ i, i < k ∧ x = nI i) : f_X1_hasPlace S (nI j) x = 0 := by
  unfold f_X1_hasPlace
  rw [if_neg (nI_pos (by omega)), e, if_neg (nI_ge hj (by omega))]
  by_cases c : x < 0
  · rw [if_pos c]
  · rw [if_neg c]
    obtain ⟨n, hn, rfl⟩ := nI_of c
    rw [cl1 (by omega), el, if_pos (nI_le (Nat.not_lt.mp (fun q => h ⟨n, q, rfl⟩)) hn)]
theorem placeN_0 {S : KS} {m : Nat} {x y : Int32} (e : S.made = nI m) (hm : m ≤ 60) (h : ¬ ∃ j, j < m ∧ x = nI j) : f_X1_hasPlace S x y = 0 := by
  unfold f_X1_hasPlace
  by_cases c : x < 0
  · rw [if_pos c]
  · rw [if_neg c]
    obtain ⟨n, hn, rfl⟩ := nI_of c
    rw [e, if_pos (nI_le (Nat.not_lt.mp (fun q => h ⟨n, q, rfl⟩)) hn)]
theorem views_dec : ∀ f, f < 11 → ∀ w, w < 12 → (if ((f_X2_viewsOfForm (nI f) >>> (nI w &&& 31)) &&& 1) = 1 then (1 : Int32) else 0) = (if f_X3_formIs (nI f) (nI w) = 0 then 0 else 1) := by decide +kernel
theorem isA_eq {S : KS} {T : MS} {m : Nat} {x v : Int32} (h : RelM S T m) (hx : VN m x) (hv : ∃ w, w < 12 ∧ v = nI w) : f_X1_isA S x v = f_X3_isOf T x v := by
  obtain ⟨h60, e1, e2, hV, -, -⟩ := h
  obtain ⟨w, hw, rfl⟩ := hv
  rcases hx with rfl | ⟨j, hj, rfl⟩
  · unfold f_X1_isA f_X3_isOf
    rw [has_0 e1 h60 (fun ⟨j, h1, h2⟩ => nI_ne_m1 (by omega) h2.symm), if_pos rfl, if_pos (by decide)]
  · obtain ⟨f, k, hf, hk, a3, a4, -⟩ := hV j hj
    unfold f_X1_isA f_X3_isOf
    rw [has_1 e1 h60 hj, if_neg (by decide), if_neg (nI_pos (by omega)), cl1 (by omega), a3, a4]
    exact views_dec f (by omega) w hw
theorem isOf_nI {T : MS} {j f : Nat} {v : Int32} (hj : j < 60) (e : T.forms j = nI f) : f_X3_isOf T (nI j) v = if f_X3_formIs (nI f) v = 0 then 0 else 1 := by
  unfold f_X3_isOf
  rw [if_neg (nI_pos (by omega)), cl1 (by omega), e]
theorem noneOr_m1 (S : KS) (v : Int32) : f_X2_isNoneOr S (-1) v = 1 := by unfold f_X2_isNoneOr; rw [if_pos rfl]
theorem noneOr_nI {S : KS} {T : MS} {m j : Nat} {v : Int32} (h : RelM S T m) (hj : j < m) (hv : ∃ w, w < 12 ∧ v = nI w) : f_X2_isNoneOr S (nI j) v = f_X3_isOf T (nI j) v := by
  unfold f_X2_isNoneOr
  have := h.1
  rw [if_neg (nI_ne_m1 (by omega)), isA_eq h (Or.inr ⟨j, hj, rfl⟩) hv]
  rcases isOf_01 T (nI j) v with e | e <;> rw [e] <;> decide
theorem row_eq {S : KS} {T : MS} {m j : Nat} (h : RelM S T m) (hj : j < m) : f_X1_isNumbers S (nI j) = f_X3_isRow T (nI j) := by
  obtain ⟨h60, e1, e2, hV, -, -⟩ := h
  obtain ⟨f, k, hf, hk, a3, a4, -⟩ := hV j hj
  unfold f_X1_isNumbers f_X3_isRow
  rw [has_1 e1 h60 hj, if_neg (by decide), if_neg (nI_pos (by omega)), cl1 (by omega), a3, a4]
theorem isRow_nI {T : MS} {j f : Nat} (hj : j < 60) (hf : f ≤ 10) (e : T.forms j = nI f) : f_X3_isRow T (nI j) = if f ≤ 2 then 1 else 0 := by
  unfold f_X3_isRow
  rw [if_neg (nI_pos (by omega)), cl1 (by omega), e]
  by_cases c : f ≤ 2
  · rw [if_pos c, if_neg (show ¬ (2 : Int32) < nI f from nI_nlt (a := 2) (b := f) (by omega) (by decide))]
  · rw [if_neg c, if_pos (show (2 : Int32) < nI f from nI_lt (a := 2) (b := f) (by omega) (by omega))]
theorem lenK {S : KS} {m j k : Nat} (e : S.made = nI m) (hm : m ≤ 60) (hj : j < m) (el : S.lens j = nI k) : f_X1_lengthOf S (nI j) = nI k := by
  unfold f_X1_lengthOf
  rw [has_1 e hm hj, if_neg (by decide), cl1 (by omega), el]
theorem formK {S : KS} {m j f : Nat} (e : S.made = nI m) (hm : m ≤ 60) (hj : j < m) (el : S.forms j = nI f) : f_X1_formOf S (nI j) = nI f := by
  unfold f_X1_formOf
  rw [has_1 e hm hj, if_neg (by decide), cl1 (by omega), el]
theorem levK {S : KS} {m j : Nat} (e : S.made = nI m) (hm : m ≤ 60) (hj : j < m) : f_X1_levelOf S (nI j) = S.levels j := by
  unfold f_X1_levelOf
  rw [has_1 e hm hj, if_neg (by decide), cl1 (by omega)]
theorem not_m1 {m : Nat} (hm : m ≤ 60) : ¬ ∃ j, j < m ∧ (-1 : Int32) = nI j := fun ⟨j, h1, h2⟩ => nI_ne_m1 (by omega) h2.symm
theorem cellK {S : KS} {m j k i : Nat} (e : S.made = nI m) (hm : m ≤ 60) (hj : j < m) (hk : k ≤ 8) (el : S.lens j = nI k) (hi : i < k) : f_X1_cellOf S (nI j) (nI i) = S.cells (8 * j + i) := by
  unfold f_X1_cellOf
  rw [place_1 e hm hj hk el hi, if_neg (by decide), kx (by omega) (by omega)]
theorem placedK {S : KS} {m j k i : Nat} (e : S.made = nI m) (hm : m ≤ 60) (hj : j < m) (hk : k ≤ 8) (el : S.lens j = nI k) (hi : i < k) : f_X1_placed S (nI j) (nI i) = (S.cells (8 * j + i)).toInt32 := by
  unfold f_X1_placed
  rw [place_1 e hm hj hk el hi, if_neg (by decide), kx (by omega) (by omega)]
theorem putK {S : KS} {m j k i : Nat} (v : Int64) (e : S.made = nI m) (hm : m ≤ 60) (hj : j < m) (hk : k ≤ 8) (el : S.lens j = nI k) (hi : i < k) : f_X1_put S (nI j) (nI i) v = S.set_cells (vp_updL S.cells (8 * j + i) (f_X3_cut (S.forms j) v)) := by
  unfold f_X1_put
  rw [place_1 e hm hj hk el hi, if_neg (by decide), kx (by omega) (by omega), cl1 (by omega), low_cut]
theorem i32_rt (y : Int32) : y.toInt64.toInt32 = y := by simp
/-! the state of a new value under the hands of both -/
theorem NewK.put {S S' : KS} {m f k i : Nat} {lv : Int32} {c : Nat → Int64} (h : NewK S S' m f k lv c) (hm : m < 60) (hk : k ≤ 8) (hi : i < k) (v : Int64) : NewK S (f_X1_put S' (nI m) (nI i) v) m f k lv (fun q => if q = i then f_X3_cut (nI f) v else c q) := by
  obtain ⟨k1, k2, k3, k4, k5, k6, k7⟩ := h
  rw [putK v k1 (by omega) (by omega) hk (by rw [k3, pk_us]) hi, k2, pk_us]
  refine ⟨k1, k2, k3, k4, fun q hq => ?_, fun q hq => ?_, k7⟩
  · rw [KS.cells_set_cells, updL_at, if_neg (by omega)]; exact k5 q hq
  · rw [KS.cells_set_cells, updL_at]
    dsimp only
    by_cases hqi : q = i
    · subst hqi; rw [if_pos rfl, if_pos rfl]
    · rw [if_neg (by omega), if_neg hqi]; exact k6 q hq
theorem NewM.num {T T' : MS} {m f k i : Nat} {lv : Int32} {cn : Nat → Int64} {cl : Nat → Int32} (h : NewM T T' m f k lv cn cl) (hi : i < 8) (w : Int64) : NewM T (T'.set_nums (vp_updL T'.nums (8 * m + i) w)) m f k lv (fun q => if q = i then w else cn q) cl := by
  obtain ⟨m1, m2, m3, m4, m5, m6, m7, m8, m9⟩ := h
  refine ⟨m1, m2, m3, m4, fun q hq => ?_, m6, fun q hq => ?_, m8, m9⟩
  · rw [MS.nums_set_nums, updL_at, if_neg (by omega)]; exact m5 q hq
  · rw [MS.nums_set_nums, updL_at]
    dsimp only
    by_cases hqi : q = i
    · subst hqi; rw [if_pos rfl, if_pos rfl]
    · rw [if_neg (by omega), if_neg hqi]; exact m7 q hq
theorem NewM.lie {T T' : MS} {m f k i : Nat} {lv : Int32} {cn : Nat → Int64} {cl : Nat → Int32} (h : NewM T T' m f k lv cn cl) (hi : i < 8) (w : Int32) : NewM T (T'.set_lies (upd T'.lies (8 * m + i) w)) m f k lv cn (fun q => if q = i then w else cl q) := by
  obtain ⟨m1, m2, m3, m4, m5, m6, m7, m8, m9⟩ := h
  refine ⟨m1, m2, m3, m4, m5, fun q hq => ?_, m7, fun q hq => ?_, m9⟩
  · rw [MS.lies_set_lies, upd_at, if_neg (by omega)]; exact m6 q hq
  · rw [MS.lies_set_lies, upd_at]
    dsimp only
    by_cases hqi : q = i
    · subst hqi; rw [if_pos rfl, if_pos rfl]
    · rw [if_neg (by omega), if_neg hqi]; exact m8 q hq
theorem Both.num {S S' : KS} {T T' : MS} {m f k i : Nat} (h : Both S T S' T' m f k) (hm : m < 60) (hk : k ≤ 8) (hf : f ≤ 2) (hi : i < k) {v w : Int64} (e1 : f_X3_cut (nI f) v = w) (e2 : f_X3_cut (nI f) w = w) : Both S T (f_X1_put S' (nI m) (nI i) v) (T'.set_nums (vp_updL T'.nums (8 * m + i) w)) m f k := by
  obtain ⟨c, cn, cl, a, b, d⟩ := h
  refine ⟨_, _, _, a.put hm hk hi v, b.num (by omega) w, fun h2 q hq => ?_, fun h3 => by omega⟩
  dsimp only
  by_cases hqi : q = i
  · rw [if_pos hqi, if_pos hqi]; exact ⟨e1, e2⟩
  · rw [if_neg hqi, if_neg hqi]; exact d.1 h2 q hq
theorem Both.lie {S S' : KS} {T T' : MS} {m f k i : Nat} (h : Both S T S' T' m f k) (hm : m < 60) (hk : k ≤ 8) (hf : 3 ≤ f) (hf2 : f ≤ 10) (hi : i < k) {y : Int32} (hy : Fit T m f y) : Both S T (f_X1_put S' (nI m) (nI i) y.toInt64) (T'.set_lies (upd T'.lies (8 * m + i) y)) m f k := by
  obtain ⟨c, cn, cl, a, b, d⟩ := h
  refine ⟨_, _, _, a.put hm hk hi _, b.lie (by omega) y, fun h2 => by omega, fun h3 q hq => ?_⟩
  dsimp only
  by_cases hqi : q = i
  · rw [if_pos hqi, if_pos hqi, cut_hi (by omega) hf2]; exact ⟨rfl, hy⟩
  · rw [if_neg hqi, if_neg hqi]; exact d.2 h3 q hq
