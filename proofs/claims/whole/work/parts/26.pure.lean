def CX (S : KS) (T : MS) (m x f k : Nat) : Prop := (f ≤ 2 → ∀ i, i < k → S.cells (8 * x + i) = T.nums (8 * x + i) ∧ f_X3_cut (nI f) (T.nums (8 * x + i)) = T.nums (8 * x + i)) ∧ (3 ≤ f → ∀ i, i < k → S.cells (8 * x + i) = (T.lies (8 * x + i)).toInt64 ∧ Fit T m f (T.lies (8 * x + i)))
theorem fit_67 {T : MS} {m f g : Nat} {v : Int32} (hf : f = 6 ∨ f = 7) (hg : g = 6 ∨ g = 7) (h : Fit T m g v) : Fit T m f v := by
  rcases h with h | ⟨y, h1, h2, -, h4⟩
  · exact Or.inl h
  · exact Or.inr ⟨y, h1, h2, fun q => by omega, fun _ => h4 hg⟩
theorem join_end {S : KS} {T : MS} {m a b f g p q : Nat} (h : RelM S T m) (hm : m < 60) (ha : a < m) (hb : b < m) (a4 : T.forms a = nI f) (hf : f ≤ 10) (a5 : S.lens a = nI p) (b5 : S.lens b = nI q) (hp : p ≤ 8) (hq : q ≤ 8) (hpq : p + q ≤ 8) (ca : CX S T m a f p) (cb : CX S T m b g q) (hk : (f ≤ 2 ∧ g = f) ∨ ((f = 6 ∨ f = 7) ∧ (g = 6 ∨ g = 7))) : EqW T m (f_X2_join_c127 S (nI a) (nI b) (nI f) (nI p) (nI p + nI q)) (f_X3_join_c164 T (nI a) (nI b) (nI p) (nI q)) := by
  have h60 := h.1
  obtain ⟨S1, e1, hK⟩ := add_new (S := S) (f := f) (k := p + q) h.2.1 hm hpq
  obtain ⟨T1, e2, hM1⟩ := make_new (T := T) (f := f) (k := p + q) h.2.2.1 hm
  obtain ⟨T2, e3, hM⟩ := join_at hm ha hb hpq 9 T1 0 _ _ rfl (by decide) hM1
  have hK1 := copyCells_new hm hpq ha a5 hp (at_ := 0) (by omega) hK
  have hK2 := copyCells_new hm hpq hb b5 hq (at_ := p) (by omega) hK1
  unfold f_X2_join_c127 f_X3_join_c164
  rw [cl1 (by omega), a4, nI_add, e1, e2]
  (try dsimp only)
  rw [e3]
  refine ⟨rfl, m + 1, by omega, R_new h hm hK2 hM hf hpq ⟨fun h2 i hi => ?_, fun h3 i hi => ?_⟩, hM.same, fun _ => vn_new⟩
  · (try dsimp only)
    have hgf : g = f := by
      rcases hk with z | z
      · exact z.2
      · omega
    subst hgf
    rw [if_pos (show 0 ≤ i ∧ i < p + q by omega)]
    by_cases hip : i < p
    · rw [if_neg (by omega), if_pos (by omega), if_pos hip, Nat.sub_zero, (ca.1 h2 i hip).1, (ca.1 h2 i hip).2]
      exact ⟨rfl, rfl⟩
    · rw [if_pos (by omega), if_neg hip, (cb.1 h2 (i - p) (by omega)).1, (cb.1 h2 (i - p) (by omega)).2]
      exact ⟨rfl, rfl⟩
  · (try dsimp only)
    have h67 : (f = 6 ∨ f = 7) ∧ (g = 6 ∨ g = 7) := by
      rcases hk with z | z
      · omega
      · exact z
    rw [if_pos (show 0 ≤ i ∧ i < p + q by omega)]
    by_cases hip : i < p
    · rw [if_neg (by omega), if_pos (by omega), if_pos hip, Nat.sub_zero, cut_hi (by omega) hf]
      exact ca.2 h3 i hip
    · rw [if_pos (by omega), if_neg hip, cut_hi (by omega) hf]
      exact ⟨(cb.2 (by omega) (i - p) (by omega)).1, fit_67 h67.1 h67.2 (cb.2 (by omega) (i - p) (by omega)).2⟩
theorem holds7 {S : KS} {T : MS} {m a b g q : Nat} {x3 : Int32} (h : RelM S T m) (ha : a < m) (hb : b < m) (a4 : T.forms a = nI 7) (b5 : S.lens b = nI q) (hq : q ≤ 8) (hx3 : ¬ x3 = 0) (cb : CX S T m b g q) (hg : 3 ≤ g) (p : Int32) : ∀ (n j : Nat), j + n = 9 → j ≤ 8 → f_X3_join_c112 n T (nI a) (nI b) x3 p (nI q) j = if f_X2_holdsOnlyLives_c11 n S (nI b) (nI q) j = 0 then (f_X3_with 4, T) else f_X3_join_c164 T (nI a) (nI b) p (nI q) := by
  have h60 := h.1
  intro n
  induction n with
  | zero => intro j h1 h2; exact absurd h1 (by omega)
  | succ n ih =>
    intro j h1 h2
    by_cases cc : nI q ≤ nI j
    · simp only [f_X3_join_c112, f_X2_holdsOnlyLives_c11, if_pos cc, if_neg n10]
    · have hl : ¬ q ≤ j := fun z => cc ((nI_leI (by omega) (by omega)).mpr z)
      have cell := cb.2 hg j (by omega)
      have ep : f_X1_placed S (nI b) (nI j) = T.lies (8 * b + j) := by rw [placedK h.2.1 h.1 hb hq b5 (by omega), cell.1, i32_rt]
      simp only [f_X3_join_c112, f_X2_holdsOnlyLives_c11, if_neg cc, if_neg hx3]
      rw [ep, mx (by omega) (by omega), ih (j + 1) (by omega) (by omega)]
      rcases cell.2 with hy | ⟨z, hz, ez, -, -⟩
      · rw [hy, if_pos rfl, noneOr_m1, if_neg n10]
      · rw [ez, if_neg (nI_ne_m1 (by omega)), noneOr_nI (v := 5) h hz ⟨5, by decide, rfl⟩, takes_M (f := 7) (by omega) (by omega) a4 (by decide), show f_X2_takenBy (nI 7) = 5 by decide]
        by_cases c : f_X3_isOf T (nI z) 5 = 0
        · rw [if_pos c, if_pos c, if_pos rfl]
        · rw [if_neg c, if_neg c]
theorem holds6 {S : KS} {T : MS} {m a b g q : Nat} {x3 : Int32} (h : RelM S T m) (ha : a < m) (hb : b < m) (a4 : T.forms a = nI 6) (hq : q ≤ 8) (hx3 : ¬ x3 = 0) (cb : CX S T m b g q) (hg : g = 6 ∨ g = 7) (p : Int32) : ∀ (n j : Nat), j + n = 9 → j ≤ 8 → f_X3_join_c112 n T (nI a) (nI b) x3 p (nI q) j = f_X3_join_c164 T (nI a) (nI b) p (nI q) := by
  have h60 := h.1
  intro n
  induction n with
  | zero => intro j h1 h2; exact absurd h1 (by omega)
  | succ n ih =>
    intro j h1 h2
    by_cases cc : nI q ≤ nI j
    · simp only [f_X3_join_c112, if_pos cc]
    · have hl : ¬ q ≤ j := fun z => cc ((nI_leI (by omega) (by omega)).mpr z)
      have cell := cb.2 (by omega) j (by omega)
      simp only [f_X3_join_c112, if_neg cc, if_neg hx3]
      rw [mx (by omega) (by omega), ih (j + 1) (by omega) (by omega)]
      rcases cell.2 with hy | ⟨z, hz, ez, -, ht⟩
      · rw [hy, if_pos rfl]
      · have c : ¬ f_X3_isOf T (nI z) 4 = 0 := by
          rcases ht hg with e | e
          · rw [isOf_nI (by omega) e]; decide
          · rw [isOf_nI (by omega) e]; decide
        rw [ez, if_neg (nI_ne_m1 (by omega)), takes_M (f := 6) (by omega) (by omega) a4 (by decide), show f_X2_takenBy (nI 6) = 4 by decide, if_neg c]
theorem same_dec : ∀ f, f < 11 → f ≤ 2 → ∀ g, g < 11 → ¬ f_X3_formIs (nI g) (nI f) = 0 → g = f := by decide
theorem cab_dec : ∀ g, g < 11 → (¬ f_X3_formIs (nI g) 6 = 0 ↔ g = 6 ∨ g = 7) := by decide
theorem join_row {T : MS} {a b p q : Int32} (n : Nat) : f_X3_join_c112 (n + 1) T a b 0 p q 0 = f_X3_join_c164 T a b p q := by
  simp only [f_X3_join_c112, if_true, ite_self]
/-- the ends of JOIN, where x and y are asked for and there -/
theorem join_c63 {S : KS} {T : MS} {m a b f g : Nat} {x3 : Int32} (h : RelM S T m) (hm : m < 60) (ha : a < m) (hb : b < m) (a4 : T.forms a = nI f) (b4 : T.forms b = nI g) (hf : f ≤ 10) (hg : g ≤ 10) (hk : (f ≤ 2 ∧ g = f ∧ x3 = 0) ∨ ((f = 6 ∨ f = 7) ∧ (g = 6 ∨ g = 7) ∧ ¬ x3 = 0)) : EqW T m (f_X2_join_c57 S (nI a) (nI b) (nI f)) (f_X3_join_c63 T (nI a) (nI b) x3) := by
  have h60 := h.1
  obtain ⟨f2, p, y1, hp, x3_, x4, a5, x6, x7, x8, x9⟩ := h.2.2.2.1 a ha
  have ef : f2 = f := (nI_eq (by omega) (by omega)).mp (x4.symm.trans a4)
  subst ef
  obtain ⟨g2, q, y2, hq, z3, z4, b5, z6, z7, z8, z9⟩ := h.2.2.2.1 b hb
  have eg : g2 = g := (nI_eq (by omega) (by omega)).mp (z4.symm.trans b4)
  subst eg
  unfold f_X2_join_c57 f_X3_join_c63
  rw [if_neg (nI_ne_m1 (by omega)), if_neg (nI_ne_m1 (by omega)), if_neg (nI_ne_m1 (by omega)), if_neg (nI_ne_m1 (by omega)), lenK h.2.1 h.1 ha a5, lenK h.2.1 h.1 hb b5, cl1 (by omega), cl1 (by omega), x6, z6]
  by_cases c8 : nI p + nI q ≤ 8
  · rw [if_pos c8, if_pos c8]
    have hpq : p + q ≤ 8 := by
      rw [nI_add] at c8
      exact (nI_leI (a := p + q) (b := 8) (by omega) (by decide)).mp c8
    have fin : ((f2 ≤ 2 ∧ g2 = f2) ∨ ((f2 = 6 ∨ f2 = 7) ∧ (g2 = 6 ∨ g2 = 7))) → EqW T m (f_X2_join_c127 S (nI a) (nI b) (nI f2) (nI p) (nI p + nI q)) (f_X3_join_c164 T (nI a) (nI b) (nI p) (nI q)) := join_end h hm ha hb a4 hf a5 b5 hp hq hpq ⟨x8, x9⟩ ⟨z8, z9⟩
    rcases hk with ⟨k1, k2, k3⟩ | ⟨k1, k2, k3⟩
    · rw [if_neg (fun z => by have := (nI_eq (a := f2) (b := 7) (by omega) (by decide)).mp z; omega), k3, join_row]
      exact fin (Or.inl ⟨k1, k2⟩)
    · rcases k1 with k6 | k7
      · subst k6
        rw [if_neg (by decide), holds6 h ha hb a4 hq k3 ⟨z8, z9⟩ k2 (nI p) 9 0 rfl (by decide)]
        exact fin (Or.inr ⟨Or.inl rfl, k2⟩)
      · subst k7
        rw [if_pos (by decide), holds7 h ha hb a4 b5 hq k3 ⟨z8, z9⟩ (by omega) (nI p) 9 0 rfl (by decide)]
        unfold f_X2_holdsOnlyLives
        rw [lenK h.2.1 h.1 hb b5]
        by_cases c : f_X2_holdsOnlyLives_c11 9 S (nI b) (nI q) 0 = 0
        · rw [if_pos c, if_pos c]; exact badW h
        · rw [if_neg c, if_neg c]; exact fin (Or.inr ⟨Or.inr rfl, k2⟩)
  · rw [if_neg c8, if_neg c8]; exact badW h
theorem numK_m1 {S : KS} {m : Nat} (e : S.made = nI m) (hm : m ≤ 60) : f_X1_isNumbers S (-1) = 0 := by
  unfold f_X1_isNumbers
  rw [has_0 e hm (not_m1 hm), if_pos rfl]
theorem isOf_m1 (T : MS) (v : Int32) : f_X3_isOf T (-1) v = 0 := by
  unfold f_X3_isOf
  rw [if_pos (by decide)]
theorem join_y {S : KS} {T : MS} {m a f : Nat} {x3 : Int32} (h : RelM S T m) (ha : a < m) : EqW T m (f_X2_join_c57 S (nI a) (-1) (nI f)) (f_X3_join_c63 T (nI a) (-1) x3) := by
  have h60 := h.1
  unfold f_X2_join_c57 f_X3_join_c63
  rw [if_neg (nI_ne_m1 (by omega)), if_neg (nI_ne_m1 (by omega)), if_pos rfl, if_pos rfl]; exact badW h
theorem op_join {S : KS} {T : MS} {m : Nat} {x y : Int32} (h : RelM S T m) (hm : m < 60) (hx : VN m x) (hy : VN m y) : EqW T m (f_X2_join S x y) (f_X3_join T x y) := by
  have h60 := h.1
  rcases hx with rfl | ⟨a, ha, rfl⟩
  · have cx : ∀ w, EqW T m (f_X2_join_c57 S (-1) y w) (f_X3_join_c63 T (-1) y 0) := fun w => by
      unfold f_X2_join_c57 f_X3_join_c63
      rw [if_pos rfl, if_pos rfl]; exact badW h
    unfold f_X2_join f_X3_join f_X3_join_c25
    rw [numK_m1 h.2.1 h.1, if_pos rfl, noneOr_m1, if_neg n10, if_pos rfl, isOf_m1, if_pos rfl, if_pos rfl, noneOr_eq (v := 6) h hy ⟨6, by decide, rfl⟩]
    by_cases cy : y = -1
    · rw [if_pos cy, if_pos cy, if_neg n10]; exact cx _
    · rw [if_neg cy, if_neg cy]
      by_cases co : f_X3_isOf T y 6 = 0
      · rw [if_pos co, if_pos co]; exact badW h
      · rw [if_neg co, if_neg co]; exact cx _
  · obtain ⟨f, p, hf, hp, a3, a4, a5, a6, a7, a8, a9⟩ := h.2.2.2.1 a ha
    unfold f_X2_join f_X3_join f_X3_join_c25
    rw [if_neg (nI_ne_m1 (by omega)), row_eq h ha, isRow_nI (by omega) hf a4, formK h.2.1 h.1 ha a3, noneOr_nI (v := 6) h ha ⟨6, by decide, rfl⟩, isOf_nI (by omega) a4, cl1 (by omega), a4, if_neg (nI_ne_m1 (by omega))]
    by_cases h2 : f ≤ 2
    · have c6 : f_X3_formIs (nI f) 6 = 0 := by
        have : ∀ f, f ≤ 2 → f_X3_formIs (nI f) 6 = 0 := by decide
        exact this f h2
      rw [if_pos h2, if_neg n10, if_neg n10, if_pos c6, if_pos rfl, noneOr_eq h hy ⟨f, by omega, rfl⟩]
      rcases hy with rfl | ⟨b, hb, rfl⟩
      · rw [if_pos rfl, if_pos rfl, if_neg n10]; exact join_y h ha
      · rw [if_neg (nI_ne_m1 (by omega)), if_neg (nI_ne_m1 (by omega))]
        obtain ⟨g, q, hg, hq, b3, b4, -⟩ := h.2.2.2.1 b hb
        by_cases co : f_X3_isOf T (nI b) (nI f) = 0
        · rw [if_pos co, if_pos co]; exact badW h
        · rw [if_neg co, if_neg co]
          rw [isOf_nI (by omega) b4] at co
          exact join_c63 h hm ha hb a4 b4 hf hg (Or.inl ⟨h2, same_dec f (by omega) h2 g (by omega) (fun z => co (ite01.mpr z)), rfl⟩)
    · rw [if_neg h2, if_pos rfl, if_pos rfl]
      by_cases c6 : f_X3_formIs (nI f) 6 = 0
      · rw [if_pos c6, if_pos rfl, if_pos rfl]; exact badW h
      · rw [if_neg c6, if_neg n10, if_neg n10, if_neg n10, noneOr_eq (v := 6) h hy ⟨6, by decide, rfl⟩]
        rcases hy with rfl | ⟨b, hb, rfl⟩
        · rw [if_pos rfl, if_pos rfl, if_neg n10]; exact join_y h ha
        · rw [if_neg (nI_ne_m1 (by omega)), if_neg (nI_ne_m1 (by omega))]
          obtain ⟨g, q, hg, hq, b3, b4, -⟩ := h.2.2.2.1 b hb
          by_cases co : f_X3_isOf T (nI b) 6 = 0
          · rw [if_pos co, if_pos co]; exact badW h
          · rw [if_neg co, if_neg co]
            rw [isOf_nI (by omega) b4] at co
            exact join_c63 h hm ha hb a4 b4 hf hg (Or.inr ⟨(cab_dec f (by omega)).mp c6, (cab_dec g (by omega)).mp (fun z => co (ite01.mpr z)), n10⟩)
