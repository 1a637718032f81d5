/-! the class and the reference, tied: their states hold the same values -/
theorem kx {x i : Nat} (hx : x < 1000) (hi : i < 1000) : ((nI x * 8) + nI i).toNatClampNeg = 8 * x + i := by
  rw [show (8 : Int32) = nI 8 from rfl, pk_mul, nI_add, nI_clamp (by omega)]; omega
theorem mx {x i : Nat} (hx : x < 1000) (hi : i < 1000) : ((8 * nI x) + nI i).toNatClampNeg = 8 * x + i := by
  rw [show (8 : Int32) = nI 8 from rfl, pk_mul, nI_add, nI_clamp (by omega)]
theorem mx0 {x : Nat} (hx : x < 1000) : (8 * nI x).toNatClampNeg = 8 * x := by
  rw [show (8 : Int32) = nI 8 from rfl, pk_mul, nI_clamp (by omega)]
theorem kp {x i : Nat} (hx : x < 1000) (hi : i < 1000) : ((nI x * 12) + nI i).toNatClampNeg = 12 * x + i := by
  rw [show (12 : Int32) = nI 12 from rfl, pk_mul, nI_add, nI_clamp (by omega)]; omega
theorem mp {x i : Nat} (hx : x < 1000) (hi : i < 1000) : ((12 * nI x) + nI i).toNatClampNeg = 12 * x + i := by
  rw [show (12 : Int32) = nI 12 from rfl, pk_mul, nI_add, nI_clamp (by omega)]
theorem cl1 {x : Nat} (hx : x < 1000) : (nI x).toNatClampNeg = x := nI_clamp (by omega)
theorem upd_at (f : Nat → Int32) (k : Nat) (v : Int32) (j : Nat) : upd f k v j = if j = k then v else f j := rfl
theorem updL_at (f : Nat → Int64) (k : Nat) (v : Int64) (j : Nat) : vp_updL f k v j = if j = k then v else f j := rfl
/-- in a place of x, of form f, may stand -/
def Fit (T : MS) (m f : Nat) (v : Int32) : Prop := v = -1 ∨ ∃ y, y < m ∧ v = nI y ∧ (f = 3 → T.forms y = nI 1) ∧ (f = 6 ∨ f = 7 → T.forms y = nI 4 ∨ T.forms y = nI 5)
def VX (S : KS) (T : MS) (m x : Nat) : Prop := ∃ f k : Nat, f ≤ 10 ∧ k ≤ 8 ∧ S.forms x = nI f ∧ T.forms x = nI f ∧ S.lens x = nI k ∧ T.sizes x = nI k ∧ S.levels x = T.levels x ∧ (f ≤ 2 → ∀ i, i < k → S.cells (8 * x + i) = T.nums (8 * x + i) ∧ f_X3_cut (nI f) (T.nums (8 * x + i)) = T.nums (8 * x + i)) ∧ (3 ≤ f → ∀ i, i < k → S.cells (8 * x + i) = (T.lies (8 * x + i)).toInt64 ∧ Fit T m f (T.lies (8 * x + i)))
def OT (m : Nat) (y : Int32) : Prop := y = -2 ∨ y = -1 ∨ ∃ j, j < m ∧ y = nI j
def PX (S : KS) (T : MS) (m : Nat) : Prop := ∀ p, p < 6 → ∃ k, k ≤ 12 ∧ S.plen p = nI k ∧ T.steps p = nI k ∧ ∀ i, i < k → S.pact (12 * p + i) = T.sact (12 * p + i) ∧ S.py (12 * p + i) = T.soth (12 * p + i) ∧ S.pn (12 * p + i) = T.snum (12 * p + i) ∧ OT m (T.soth (12 * p + i)) ∧ ∃ w, w ≤ 12 ∧ T.sact (12 * p + i) = nI w
def NX (S : KS) (T : MS) : Prop := S.faults = T.faults ∧ S.latest = T.latest ∧ S.stop = T.stop
def RelM (S : KS) (T : MS) (m : Nat) : Prop := m ≤ 60 ∧ S.made = nI m ∧ T.vals = nI m ∧ (∀ x, x < m → VX S T m x) ∧ PX S T m ∧ NX S T
def SameK (S S' : KS) : Prop := S'.plen = S.plen ∧ S'.pact = S.pact ∧ S'.py = S.py ∧ S'.pn = S.pn ∧ S'.faults = S.faults ∧ S'.latest = S.latest ∧ S'.stop = S.stop
def SameM (T T' : MS) : Prop := T'.steps = T.steps ∧ T'.sact = T.sact ∧ T'.soth = T.soth ∧ T'.snum = T.snum ∧ T'.faults = T.faults ∧ T'.latest = T.latest ∧ T'.stop = T.stop
def NewK (S S' : KS) (m f k : Nat) (lv : Int32) (c : Nat → Int64) : Prop := S'.made = nI (m + 1) ∧ S'.forms = upd S.forms m (nI f) ∧ S'.lens = upd S.lens m (nI k) ∧ S'.levels = upd S.levels m lv ∧ (∀ q, q < 8 * m → S'.cells q = S.cells q) ∧ (∀ i, i < k → S'.cells (8 * m + i) = c i) ∧ SameK S S'
def NewM (T T' : MS) (m f k : Nat) (lv : Int32) (cn : Nat → Int64) (cl : Nat → Int32) : Prop := T'.vals = nI (m + 1) ∧ T'.forms = upd T.forms m (nI f) ∧ T'.sizes = upd T.sizes m (nI k) ∧ T'.levels = upd T.levels m lv ∧ (∀ q, q < 8 * m → T'.nums q = T.nums q) ∧ (∀ q, q < 8 * m → T'.lies q = T.lies q) ∧ (∀ i, i < 8 → T'.nums (8 * m + i) = cn i) ∧ (∀ i, i < 8 → T'.lies (8 * m + i) = cl i) ∧ SameM T T'
def Cmp (T : MS) (m f k : Nat) (c cn : Nat → Int64) (cl : Nat → Int32) : Prop := (f ≤ 2 → ∀ i, i < k → c i = cn i ∧ f_X3_cut (nI f) (cn i) = cn i) ∧ (3 ≤ f → ∀ i, i < k → c i = (cl i).toInt64 ∧ Fit T m f (cl i))
theorem OT.up {m : Nat} {y : Int32} (h : OT m y) : OT (m + 1) y := by
  rcases h with h | h | ⟨j, h1, h2⟩
  · exact Or.inl h
  · exact Or.inr (Or.inl h)
  · exact Or.inr (Or.inr ⟨j, by omega, h2⟩)
theorem Fit.up {T T' : MS} {m f : Nat} {v : Int32} {b : Int32} (e : T'.forms = upd T.forms m b) (h : Fit T m f v) : Fit T' (m + 1) f v := by
  rcases h with h | ⟨y, h1, h2, h3, h4⟩
  · exact Or.inl h
  · refine Or.inr ⟨y, by omega, h2, ?_, ?_⟩ <;> rw [e, pk_un (by omega)] <;> assumption
theorem R_new {S S' : KS} {T T' : MS} {m f k : Nat} {lv : Int32} {c cn : Nat → Int64} {cl : Nat → Int32} (h : RelM S T m) (hm : m < 60) (hK : NewK S S' m f k lv c) (hM : NewM T T' m f k lv cn cl) (hf : f ≤ 10) (hk : k ≤ 8) (hc : Cmp T m f k c cn cl) : RelM S' T' (m + 1) := by
  obtain ⟨h60, e1, e2, hV, hP, hN⟩ := h
  obtain ⟨k1, k2, k3, k4, k5, k6, k7, k8, k9, k10, k11, k12, k13⟩ := hK
  obtain ⟨m1, m2, m3, m4, m5, m6, m7, m8, n1, n2, n3, n4, n5, n6, n7⟩ := hM
  refine ⟨by omega, k1, m1, fun x hx => ?_, fun p hp => ?_, ?_⟩
  · by_cases hxm : x = m
    · subst hxm
      refine ⟨f, k, hf, hk, by rw [k2, pk_us], by rw [m2, pk_us], by rw [k3, pk_us], by rw [m3, pk_us], by rw [k4, m4, pk_us, pk_us], fun h2 i hi => ?_, fun h3 i hi => ?_⟩
      · rw [k6 i hi, m7 i (by omega)]; exact hc.1 h2 i hi
      · rw [k6 i hi, m8 i (by omega)]; exact ⟨(hc.2 h3 i hi).1, (hc.2 h3 i hi).2.up m2⟩
    · obtain ⟨g, q, a1, a2, a3, a4, a5, a6, a7, a8, a9⟩ := hV x (by omega)
      refine ⟨g, q, a1, a2, by rw [k2, pk_un hxm]; exact a3, by rw [m2, pk_un hxm]; exact a4, by rw [k3, pk_un hxm]; exact a5, by rw [m3, pk_un hxm]; exact a6, by rw [k4, m4, pk_un hxm, pk_un hxm]; exact a7, fun h2 i hi => ?_, fun h3 i hi => ?_⟩
      · rw [k5 _ (by omega), m5 _ (by omega)]; exact a8 h2 i hi
      · rw [k5 _ (by omega), m6 _ (by omega)]; exact ⟨(a9 h3 i hi).1, (a9 h3 i hi).2.up m2⟩
  · obtain ⟨q, b1, b2, b3, b4⟩ := hP p hp
    refine ⟨q, b1, by rw [k7]; exact b2, by rw [n1]; exact b3, fun i hi => ?_⟩
    rw [k8, k9, k10, n2, n3, n4]
    obtain ⟨d1, d2, d3, d4, d5⟩ := b4 i hi
    exact ⟨d1, d2, d3, d4.up, d5⟩
  · obtain ⟨d1, d2, d3⟩ := hN
    exact ⟨by rw [k11, n5]; exact d1, by rw [k12, n6]; exact d2, by rw [k13, n7]; exact d3⟩
def Both (S : KS) (T : MS) (S' : KS) (T' : MS) (m f k : Nat) : Prop := ∃ (c cn : Nat → Int64) (cl : Nat → Int32), NewK S S' m f k 0 c ∧ NewM T T' m f k 0 cn cl ∧ Cmp T m f k c cn cl
theorem Both.rel {S S' : KS} {T T' : MS} {m f k : Nat} (h : RelM S T m) (hm : m < 60) (hf : f ≤ 10) (hk : k ≤ 8) (hB : Both S T S' T' m f k) : RelM S' T' (m + 1) := by
  obtain ⟨c, cn, cl, a, b, d⟩ := hB
  exact R_new h hm a b hf hk d
/-! adding a value -/
theorem add_c72 (k m : Nat) (v : Int32) (hk : k ≤ 8) (hm : m < 60) : ∀ (n : Nat) (S : KS) (j : Nat), j + n = 9 → j ≤ 8 → ∃ C, f_X1_add_c72 n S (nI k) (nI m) v j = (nI m, S.set_cells C) ∧ ∀ q, C q = if 8 * m + j ≤ q ∧ q < 8 * m + k then v.toInt64 else S.cells q := by
  intro n
  induction n with
  | zero => intro S j h1 h2; exact absurd h1 (by omega)
  | succ n ih =>
    intro S j h1 h2
    by_cases c : nI k ≤ nI j
    · have hc := (nI_leI (by omega) (by omega)).mp c
      exact ⟨S.cells, by simp only [f_X1_add_c72, if_pos c]; rfl, fun q => by rw [if_neg (by omega)]⟩
    · have hc : ¬ k ≤ j := fun q => c ((nI_leI (by omega) (by omega)).mpr q)
      obtain ⟨C, e, hC⟩ := ih (S.set_cells (vp_updL S.cells (8 * m + j) v.toInt64)) (j + 1) (by omega) (by omega)
      refine ⟨C, ?_, fun q => ?_⟩
      · simp only [f_X1_add_c72, if_neg c]
        rw [kx (by omega) (by omega), e]
        rfl
      · rw [hC q, KS.cells_set_cells, updL_at]
        by_cases h3 : q = 8 * m + j
        · rw [if_pos (show 8 * m + j ≤ q ∧ q < 8 * m + k by omega), if_pos h3, if_neg (by omega)]
        · rw [if_neg h3]
          by_cases h4 : 8 * m + (j + 1) ≤ q ∧ q < 8 * m + k
          · rw [if_pos h4, if_pos (by omega)]
          · rw [if_neg h4, if_neg (by omega)]
theorem isLen_nI {k : Nat} (hk : k ≤ 8) : ¬ f_X2_isLength (nI k) = 0 := by
  unfold f_X2_isLength
  rw [if_neg (nI_pos (by omega)), if_neg (show ¬ (8 : Int32) < nI k from fun h => by
    have := (nI_ltI (a := 8) (b := k) (by decide) (by omega)).mp h
    omega)]
  decide
def v0 (f : Nat) : Int32 := if f_X2_isBoardForm (nI f) = 0 then 0 else -1
theorem add_new {S : KS} {m f k : Nat} (hm : S.made = nI m) (h60 : m < 60) (hk : k ≤ 8) : ∃ S', f_X1_add S (nI f) (nI k) = (nI m, S') ∧ NewK S S' m f k 0 (fun _ => (v0 f).toInt64) := by
  have c1 : ¬ (60 : Int32) ≤ S.made := by
    rw [hm]; intro h
    have := (nI_leI (a := 60) (b := m) (by decide) (by omega)).mp h
    omega
  have c2 := isLen_nI hk
  have key : ∀ (v : Int32) (S0 : KS), ∃ C, f_X1_add_c72 9 S0 (nI k) (nI m) v 0 = (nI m, S0.set_cells C) ∧ ∀ q, C q = if 8 * m + 0 ≤ q ∧ q < 8 * m + k then v.toInt64 else S0.cells q := fun v S0 => add_c72 k m v hk h60 9 S0 0 rfl (by decide)
  have fin : ∀ (v : Int32) (C : Nat → Int64), v0 f = v → (∀ q, C q = if 8 * m + 0 ≤ q ∧ q < 8 * m + k then v.toInt64 else S.cells q) → NewK S (((((S.set_made (nI (m + 1))).set_forms (upd S.forms m (nI f))).set_lens (upd S.lens m (nI k))).set_levels (upd S.levels m 0)).set_cells C) m f k 0 (fun _ => (v0 f).toInt64) := by
    intro v C hv hC
    refine ⟨rfl, rfl, rfl, rfl, fun q hq => ?_, fun i hi => ?_, rfl, rfl, rfl, rfl, rfl, rfl, rfl⟩
    · rw [KS.cells_set_cells, hC, if_neg (by omega)]
    · rw [KS.cells_set_cells, hC, if_pos (by omega), hv]
  have e1 : S.made + 1 = nI (m + 1) := by rw [hm, nI_1]
  have e2 : S.made.toNatClampNeg = m := by rw [hm]; exact cl1 (by omega)
  by_cases c3 : f_X2_isBoardForm (nI f) = 0
  · obtain ⟨C, e, hC⟩ := key 0 ((((S.set_made (nI (m + 1))).set_forms (upd S.forms m (nI f))).set_lens (upd S.lens m (nI k))).set_levels (upd S.levels m 0))
    refine ⟨_, ?_, fin 0 C (by rw [v0, if_pos c3]) hC⟩
    simp only [f_X1_add, if_neg c1, if_neg c2, if_pos c3, KS.forms_set_made, KS.lens_set_forms, KS.lens_set_made, KS.levels_set_lens, KS.levels_set_forms, KS.levels_set_made, e1, e2]
    rw [hm]
    exact e
  · obtain ⟨C, e, hC⟩ := key (-1) ((((S.set_made (nI (m + 1))).set_forms (upd S.forms m (nI f))).set_lens (upd S.lens m (nI k))).set_levels (upd S.levels m 0))
    refine ⟨_, ?_, fin (-1) C (by rw [v0, if_neg c3]) hC⟩
    simp only [f_X1_add, if_neg c1, if_neg c2, if_neg c3, KS.forms_set_made, KS.lens_set_forms, KS.lens_set_made, KS.levels_set_lens, KS.levels_set_forms, KS.levels_set_made, e1, e2]
    rw [hm]
    exact e
theorem fillN_at (m : Nat) (hm : m < 60) : ∀ (n : Nat) (f : Nat → Int64) (j : Nat), j + n = 9 → j ≤ 8 → ∀ q, fillN n f (nI m) j q = if 8 * m + j ≤ q ∧ q < 8 * m + 8 then 0 else f q := by
  intro n
  induction n with
  | zero => intro f j h1 h2; exact absurd h1 (by omega)
  | succ n ih =>
    intro f j h1 h2 q
    by_cases c : (8 : Int32) ≤ nI j
    · have hc := (nI_leI (a := 8) (b := j) (by decide) (by omega)).mp c
      simp only [fillN, if_pos c]
      rw [if_neg (by omega)]
    · have hc : ¬ 8 ≤ j := fun q => c ((nI_leI (a := 8) (b := j) (by decide) (by omega)).mpr q)
      simp only [fillN, if_neg c]
      rw [mx (by omega) (by omega), ih _ _ (by omega) (by omega), updL_at]
      by_cases h3 : q = 8 * m + j
      · rw [if_pos (show 8 * m + j ≤ q ∧ q < 8 * m + 8 by omega), if_pos h3, if_neg (by omega)]
      · rw [if_neg h3]
        by_cases h4 : 8 * m + (j + 1) ≤ q ∧ q < 8 * m + 8
        · rw [if_pos h4, if_pos (by omega)]
        · rw [if_neg h4, if_neg (by omega)]
theorem fillL_at (m : Nat) (hm : m < 60) : ∀ (n : Nat) (f : Nat → Int32) (j : Nat), j + n = 9 → j ≤ 8 → ∀ q, fillL n f (nI m) j q = if 8 * m + j ≤ q ∧ q < 8 * m + 8 then -1 else f q := by
  intro n
  induction n with
  | zero => intro f j h1 h2; exact absurd h1 (by omega)
  | succ n ih =>
    intro f j h1 h2 q
    by_cases c : (8 : Int32) ≤ nI j
    · have hc := (nI_leI (a := 8) (b := j) (by decide) (by omega)).mp c
      simp only [fillL, if_pos c]
      rw [if_neg (by omega)]
    · have hc : ¬ 8 ≤ j := fun q => c ((nI_leI (a := 8) (b := j) (by decide) (by omega)).mpr q)
      simp only [fillL, if_neg c]
      rw [mx (by omega) (by omega), ih _ _ (by omega) (by omega), upd_at]
      by_cases h3 : q = 8 * m + j
      · rw [if_pos (show 8 * m + j ≤ q ∧ q < 8 * m + 8 by omega), if_pos h3, if_neg (by omega)]
      · rw [if_neg h3]
        by_cases h4 : 8 * m + (j + 1) ≤ q ∧ q < 8 * m + 8
        · rw [if_pos h4, if_pos (by omega)]
        · rw [if_neg h4, if_neg (by omega)]
def mkd (S : MS) (f k : Int32) (N : Nat → Int64) (L : Nat → Int32) : MS := (((((S.set_vals (S.vals + 1)).set_forms (upd S.forms S.vals.toNatClampNeg f)).set_sizes (upd S.sizes S.vals.toNatClampNeg k)).set_levels (upd S.levels S.vals.toNatClampNeg 0)).set_nums N).set_lies L
theorem made_mkd (S : MS) (f k : Int32) : made S f k = mkd S f k (fillN 9 S.nums S.vals 0) (fillL 9 S.lies S.vals 0) := by unfold made mkd; exact Eq.refl _
theorem mkd_vals (T : MS) (f k : Int32) (N : Nat → Int64) (L : Nat → Int32) : (mkd T f k N L).vals = T.vals + 1 := rfl
theorem made_vals (T : MS) (f k : Int32) : (made T f k).vals = T.vals + 1 := (congrArg MS.vals (made_mkd T f k)).trans (mkd_vals T f k _ _)
theorem mkd_forms (T : MS) (f k : Int32) (N : Nat → Int64) (L : Nat → Int32) : (mkd T f k N L).forms = upd T.forms T.vals.toNatClampNeg f := rfl
theorem made_forms (T : MS) (f k : Int32) : (made T f k).forms = upd T.forms T.vals.toNatClampNeg f := (congrArg MS.forms (made_mkd T f k)).trans (mkd_forms T f k _ _)
theorem mkd_sizes (T : MS) (f k : Int32) (N : Nat → Int64) (L : Nat → Int32) : (mkd T f k N L).sizes = upd T.sizes T.vals.toNatClampNeg k := rfl
theorem made_sizes (T : MS) (f k : Int32) : (made T f k).sizes = upd T.sizes T.vals.toNatClampNeg k := (congrArg MS.sizes (made_mkd T f k)).trans (mkd_sizes T f k _ _)
theorem mkd_levels (T : MS) (f k : Int32) (N : Nat → Int64) (L : Nat → Int32) : (mkd T f k N L).levels = upd T.levels T.vals.toNatClampNeg 0 := rfl
theorem made_levels (T : MS) (f k : Int32) : (made T f k).levels = upd T.levels T.vals.toNatClampNeg 0 := (congrArg MS.levels (made_mkd T f k)).trans (mkd_levels T f k _ _)
theorem mkd_nums (T : MS) (f k : Int32) (N : Nat → Int64) (L : Nat → Int32) : (mkd T f k N L).nums = N := rfl
theorem made_nums (T : MS) (f k : Int32) : (made T f k).nums = fillN 9 T.nums T.vals 0 := (congrArg MS.nums (made_mkd T f k)).trans (mkd_nums T f k _ _)
theorem mkd_lies (T : MS) (f k : Int32) (N : Nat → Int64) (L : Nat → Int32) : (mkd T f k N L).lies = L := rfl
theorem made_lies (T : MS) (f k : Int32) : (made T f k).lies = fillL 9 T.lies T.vals 0 := (congrArg MS.lies (made_mkd T f k)).trans (mkd_lies T f k _ _)
theorem mkd_steps (T : MS) (f k : Int32) (N : Nat → Int64) (L : Nat → Int32) : (mkd T f k N L).steps = T.steps := rfl
theorem made_steps (T : MS) (f k : Int32) : (made T f k).steps = T.steps := (congrArg MS.steps (made_mkd T f k)).trans (mkd_steps T f k _ _)
theorem mkd_sact (T : MS) (f k : Int32) (N : Nat → Int64) (L : Nat → Int32) : (mkd T f k N L).sact = T.sact := rfl
theorem made_sact (T : MS) (f k : Int32) : (made T f k).sact = T.sact := (congrArg MS.sact (made_mkd T f k)).trans (mkd_sact T f k _ _)
theorem mkd_soth (T : MS) (f k : Int32) (N : Nat → Int64) (L : Nat → Int32) : (mkd T f k N L).soth = T.soth := rfl
theorem made_soth (T : MS) (f k : Int32) : (made T f k).soth = T.soth := (congrArg MS.soth (made_mkd T f k)).trans (mkd_soth T f k _ _)
theorem mkd_snum (T : MS) (f k : Int32) (N : Nat → Int64) (L : Nat → Int32) : (mkd T f k N L).snum = T.snum := rfl
theorem made_snum (T : MS) (f k : Int32) : (made T f k).snum = T.snum := (congrArg MS.snum (made_mkd T f k)).trans (mkd_snum T f k _ _)
theorem mkd_faults (T : MS) (f k : Int32) (N : Nat → Int64) (L : Nat → Int32) : (mkd T f k N L).faults = T.faults := rfl
theorem made_faults (T : MS) (f k : Int32) : (made T f k).faults = T.faults := (congrArg MS.faults (made_mkd T f k)).trans (mkd_faults T f k _ _)
theorem mkd_latest (T : MS) (f k : Int32) (N : Nat → Int64) (L : Nat → Int32) : (mkd T f k N L).latest = T.latest := rfl
theorem made_latest (T : MS) (f k : Int32) : (made T f k).latest = T.latest := (congrArg MS.latest (made_mkd T f k)).trans (mkd_latest T f k _ _)
theorem mkd_stop (T : MS) (f k : Int32) (N : Nat → Int64) (L : Nat → Int32) : (mkd T f k N L).stop = T.stop := rfl
theorem made_stop (T : MS) (f k : Int32) : (made T f k).stop = T.stop := (congrArg MS.stop (made_mkd T f k)).trans (mkd_stop T f k _ _)
theorem make_new {T : MS} {m f k : Nat} (hm : T.vals = nI m) (h60 : m < 60) : ∃ T', f_X3_make T (nI f) (nI k) = (nI m, T') ∧ NewM T T' m f k 0 (fun _ => 0) (fun _ => -1) := by
  refine ⟨made T (nI f) (nI k), by rw [make_eq, hm], ?_⟩
  have e2 : T.vals.toNatClampNeg = m := by rw [hm]; exact cl1 (by omega)
  refine ⟨?_, ?_, ?_, ?_, fun q hq => ?_, fun q hq => ?_, fun i hi => ?_, fun i hi => ?_, made_steps _ _ _, made_sact _ _ _, made_soth _ _ _, made_snum _ _ _, made_faults _ _ _, made_latest _ _ _, made_stop _ _ _⟩
  · rw [made_vals, hm, nI_1]
  · rw [made_forms, e2]
  · rw [made_sizes, e2]
  · rw [made_levels, e2]
  · rw [made_nums, hm, fillN_at m h60 9 _ 0 rfl (by decide), if_neg (by omega)]
  · rw [made_lies, hm, fillL_at m h60 9 _ 0 rfl (by decide), if_neg (by omega)]
  · rw [made_nums, hm, fillN_at m h60 9 _ 0 rfl (by decide), if_pos (by omega)]
  · rw [made_lies, hm, fillL_at m h60 9 _ 0 rfl (by decide), if_pos (by omega)]
theorem low_cut (f : Int32) (v : Int64) : f_X1_lowestBits f v = f_X3_cut f v := rfl
theorem cut_idem (f : Int32) (v : Int64) : f_X3_cut f (f_X3_cut f v) = f_X3_cut f v := by
  unfold f_X3_cut
  by_cases h : f = 0
  · simp [h]
  · by_cases h1 : f = 1
    · simp [h1]
    · simp [h, h1]
theorem cut_0 (f : Int32) : f_X3_cut f 0 = 0 := by
  unfold f_X3_cut
  by_cases h : f = 0
  · rw [if_pos h]; decide
  · rw [if_neg h]
    by_cases h1 : f = 1
    · rw [if_pos h1]; decide
    · rw [if_neg h1]
theorem cut_hi {f : Nat} (hf : 2 ≤ f) (hf2 : f ≤ 10) (v : Int64) : f_X3_cut (nI f) v = v := by
  unfold f_X3_cut
  rw [if_neg (fun h => by have := (nI_eq (a := f) (b := 0) (by omega) (by decide)).mp h; omega), if_neg (fun h => by have := (nI_eq (a := f) (b := 1) (by omega) (by decide)).mp h; omega)]
theorem v0_row {f : Nat} (hf : f ≤ 2) : v0 f = 0 := by
  have : ∀ f, f ≤ 2 → v0 f = 0 := by decide
  exact this f hf
theorem v0_brd {f : Nat} (h3 : 3 ≤ f) (hf : f ≤ 10) (hw : ¬ (f = 4 ∨ f = 5)) : v0 f = -1 := by
  have : ∀ f, f ≤ 10 → 3 ≤ f → ¬ (f = 4 ∨ f = 5) → v0 f = -1 := by decide
  exact this f hf h3 hw
theorem both_add {S : KS} {T : MS} {m : Nat} (f k : Nat) (h : RelM S T m) (hm : m < 60) (hf : f ≤ 10) (hk : k ≤ 8) (hw : f = 4 ∨ f = 5 → k = 0) : ∃ S' T', f_X1_add S (nI f) (nI k) = (nI m, S') ∧ f_X3_make T (nI f) (nI k) = (nI m, T') ∧ Both S T S' T' m f k := by
  obtain ⟨S', e1, hK⟩ := add_new (f := f) h.2.1 hm hk
  obtain ⟨T', e2, hM⟩ := make_new (f := f) (k := k) h.2.2.1 hm
  refine ⟨S', T', e1, e2, _, _, _, hK, hM, fun h2 i hi => ?_, fun h3 i hi => ?_⟩
  · rw [v0_row h2, cut_0]; exact ⟨by show Int32.toInt64 0 = 0; decide, rfl⟩
  · by_cases hw2 : f = 4 ∨ f = 5
    · have := hw hw2; omega
    · rw [v0_brd h3 hf hw2]; exact ⟨rfl, Or.inl rfl⟩
