/-! what both make room for, what both answer of an act -/
theorem makes_eq {S : KS} {T : MS} {m w : Nat} {x : Int32} (h : RelM S T m) (hx : VN m x) (hw : w ≤ 12) : f_X2_makes S (nI w) x = f_X3_makes T (nI w) x := by
  match w, hw with
  | 0, _ => rfl
  | 1, _ => rfl
  | 2, _ => rfl
  | 3, _ => rfl
  | 4, _ => rfl
  | 5, _ => rfl
  | 6, _ =>
    have e1 : f_X2_makes S (nI 6) x = if f_X1_isA S x 1 = 0 then 1 else 1 + f_X1_lengthOf S x := rfl
    have e2 : f_X3_makes T (nI 6) x = if f_X3_isOf T x 1 = 0 then 1 else T.sizes x.toNatClampNeg + 1 := rfl
    rw [e1, e2, isA_eq (v := 1) h hx ⟨1, by decide, rfl⟩]
    by_cases c : f_X3_isOf T x 1 = 0
    · rw [if_pos c, if_pos c]
    · rw [if_neg c, if_neg c]
      have h60 := h.1
      rcases hx with rfl | ⟨j, hj, rfl⟩
      · exact absurd (isOf_m1 T 1) c
      · obtain ⟨f, k, hf, hk, a3, a4, a5, a6, -⟩ := h.2.2.2.1 j hj
        rw [lenK h.2.1 h.1 hj a5, cl1 (by omega), a6, Int32.add_comm]
  | 7, _ => rfl
  | 8, _ => rfl
  | 9, _ => rfl
  | 10, _ => rfl
  | 11, _ => rfl
  | 12, _ => rfl
theorem makes_ge {S : KS} {T : MS} {m w : Nat} {x : Int32} (h : RelM S T m) (hx : VN m x) (hw : w ≤ 2 ∨ (5 ≤ w ∧ w ≤ 11)) : ∃ c, 1 ≤ c ∧ c ≤ 9 ∧ f_X3_makes T (nI w) x = nI c ∧ (w = 6 → ∀ j, x = nI j → j < m → T.forms j = nI 1 → T.sizes j = nI (c - 1)) := by
  have hw12 : w ≤ 12 := by omega
  match w, hw12, hw with
  | 0, _, _ => exact ⟨1, by omega, by omega, rfl, fun q => by omega⟩
  | 1, _, _ => exact ⟨1, by omega, by omega, rfl, fun q => by omega⟩
  | 2, _, _ => exact ⟨1, by omega, by omega, rfl, fun q => by omega⟩
  | 3, _, hw => omega
  | 4, _, hw => omega
  | 5, _, _ => exact ⟨1, by omega, by omega, rfl, fun q => by omega⟩
  | 6, _, _ =>
    have e2 : f_X3_makes T (nI 6) x = if f_X3_isOf T x 1 = 0 then 1 else T.sizes x.toNatClampNeg + 1 := rfl
    rw [e2]
    have h60 := h.1
    by_cases c : f_X3_isOf T x 1 = 0
    · rw [if_pos c]
      refine ⟨1, by omega, by omega, rfl, fun _ j e hj ef => ?_⟩
      subst e
      rw [isOf_nI (by omega) ef] at c
      exact absurd c (by decide)
    · rw [if_neg c]
      rcases hx with rfl | ⟨j, hj, rfl⟩
      · exact absurd (isOf_m1 T 1) c
      · obtain ⟨f, k, hf, hk, a3, a4, a5, a6, -⟩ := h.2.2.2.1 j hj
        rw [cl1 (by omega), a6, nI_1]
        refine ⟨k + 1, by omega, by omega, rfl, fun _ i e hi _ => ?_⟩
        have : j = i := (nI_eq (by omega) (by omega)).mp e
        subst this
        rw [a6, Nat.add_sub_cancel]
  | 7, _, _ => exact ⟨1, by omega, by omega, rfl, fun q => by omega⟩
  | 8, _, _ => exact ⟨1, by omega, by omega, rfl, fun q => by omega⟩
  | 9, _, _ => exact ⟨1, by omega, by omega, rfl, fun q => by omega⟩
  | 10, _, _ => exact ⟨1, by omega, by omega, rfl, fun q => by omega⟩
  | 11, _, _ => exact ⟨1, by omega, by omega, rfl, fun q => by omega⟩
  | 12, _, hw => omega
theorem room_lt {S : KS} {T : MS} {m w : Nat} {x : Int32} (h : RelM S T m) (hx : VN m x) (hw : w ≤ 2 ∨ (5 ≤ w ∧ w ≤ 11)) (hc : T.vals + f_X3_makes T (nI w) x ≤ 60) : m < 60 ∧ (w = 6 → ∀ j, x = nI j → j < m → T.forms j = nI 1 → m + (T.sizes j).toNatClampNeg < 60) := by
  obtain ⟨c, h1, h9, e, hs⟩ := makes_ge h hx hw
  have h60 := h.1
  rw [e, h.2.2.1, nI_add] at hc
  have hc2 := (nI_leI (a := m + c) (b := 60) (by omega) (by decide)).mp hc
  refine ⟨by omega, fun q j e2 hj ef => ?_⟩
  rw [hs q j e2 hj ef, cl1 (by omega)]
  omega
theorem wk_0 {S : KS} {x y n : Int32} (hc : f_X1_made S + f_X2_makes S (nI 0) x ≤ 60) : f_X2_answerOf S (nI 0) x y n = ((f_X2_sum S x).1, (f_X2_sum S x).2) := by
  unfold f_X2_answerOf
  rw [if_pos hc, if_pos (show nI 0 = (0 : Int32) from rfl)]
theorem wc_0 {T : MS} {x y n : Int32} : f_X3_work_c145 T (nI 0) x y n = ((f_X3_sum T x).1, (f_X3_sum T x).2) := by
  unfold f_X3_work_c145
  rw [if_pos (show nI 0 = (0 : Int32) from rfl)]
theorem wm_0 {T : MS} {x y n : Int32} (hc : T.vals + f_X3_makes T (nI 0) x ≤ 60) : f_X3_work T (nI 0) x y n = if x = -1 then (f_X3_with 2, T) else (((f_X3_sum T x).1, (f_X3_sum T x).2)) := by
  unfold f_X3_work
  rw [if_pos hc, if_neg (show ¬ nI 0 = (3 : Int32) by decide), if_neg (show ¬ nI 0 = (4 : Int32) by decide), if_neg (show ¬ nI 0 = (11 : Int32) by decide), if_neg (show ¬ nI 0 = (12 : Int32) by decide), wc_0, if_neg (show ¬ nI 0 = (7 : Int32) by decide), if_neg (show ¬ nI 0 = (9 : Int32) by decide)]
theorem wk_1 {S : KS} {x y n : Int32} (hc : f_X1_made S + f_X2_makes S (nI 1) x ≤ 60) : f_X2_answerOf S (nI 1) x y n = ((f_X2_widen S x).1, (f_X2_widen S x).2) := by
  unfold f_X2_answerOf
  rw [if_pos hc, if_neg (show ¬ nI 1 = (0 : Int32) by decide), if_pos (show nI 1 = (1 : Int32) from rfl)]
theorem wc_1 {T : MS} {x y n : Int32} : f_X3_work_c145 T (nI 1) x y n = ((f_X3_turned T x 1).1, (f_X3_turned T x 1).2) := by
  unfold f_X3_work_c145
  rw [if_neg (show ¬ nI 1 = (0 : Int32) by decide), if_pos (show nI 1 = (1 : Int32) from rfl)]
theorem wm_1 {T : MS} {x y n : Int32} (hc : T.vals + f_X3_makes T (nI 1) x ≤ 60) : f_X3_work T (nI 1) x y n = if x = -1 then (f_X3_with 2, T) else (((f_X3_turned T x 1).1, (f_X3_turned T x 1).2)) := by
  unfold f_X3_work
  rw [if_pos hc, if_neg (show ¬ nI 1 = (3 : Int32) by decide), if_neg (show ¬ nI 1 = (4 : Int32) by decide), if_neg (show ¬ nI 1 = (11 : Int32) by decide), if_neg (show ¬ nI 1 = (12 : Int32) by decide), wc_1, if_neg (show ¬ nI 1 = (7 : Int32) by decide), if_neg (show ¬ nI 1 = (9 : Int32) by decide)]
theorem wk_2 {S : KS} {x y n : Int32} (hc : f_X1_made S + f_X2_makes S (nI 2) x ≤ 60) : f_X2_answerOf S (nI 2) x y n = ((f_X2_narrow S x).1, (f_X2_narrow S x).2) := by
  unfold f_X2_answerOf
  rw [if_pos hc, if_neg (show ¬ nI 2 = (0 : Int32) by decide), if_neg (show ¬ nI 2 = (1 : Int32) by decide), if_pos (show nI 2 = (2 : Int32) from rfl)]
theorem wc_2 {T : MS} {x y n : Int32} : f_X3_work_c145 T (nI 2) x y n = ((f_X3_turned T x (-1)).1, (f_X3_turned T x (-1)).2) := by
  unfold f_X3_work_c145
  rw [if_neg (show ¬ nI 2 = (0 : Int32) by decide), if_neg (show ¬ nI 2 = (1 : Int32) by decide), if_pos (show nI 2 = (2 : Int32) from rfl)]
theorem wm_2 {T : MS} {x y n : Int32} (hc : T.vals + f_X3_makes T (nI 2) x ≤ 60) : f_X3_work T (nI 2) x y n = if x = -1 then (f_X3_with 2, T) else (((f_X3_turned T x (-1)).1, (f_X3_turned T x (-1)).2)) := by
  unfold f_X3_work
  rw [if_pos hc, if_neg (show ¬ nI 2 = (3 : Int32) by decide), if_neg (show ¬ nI 2 = (4 : Int32) by decide), if_neg (show ¬ nI 2 = (11 : Int32) by decide), if_neg (show ¬ nI 2 = (12 : Int32) by decide), wc_2, if_neg (show ¬ nI 2 = (7 : Int32) by decide), if_neg (show ¬ nI 2 = (9 : Int32) by decide)]
theorem wk_3 {S : KS} {x y n : Int32} (hc : f_X1_made S + f_X2_makes S (nI 3) x ≤ 60) : f_X2_answerOf S (nI 3) x y n = (f_X2_tap S x n, S) := by
  unfold f_X2_answerOf
  rw [if_pos hc, if_neg (show ¬ nI 3 = (0 : Int32) by decide), if_neg (show ¬ nI 3 = (1 : Int32) by decide), if_neg (show ¬ nI 3 = (2 : Int32) by decide), if_pos (show nI 3 = (3 : Int32) from rfl)]
theorem wm_3 {T : MS} {x y n : Int32} (hc : T.vals + f_X3_makes T (nI 3) x ≤ 60) : f_X3_work T (nI 3) x y n = (f_X3_tap T x n, T) := by
  unfold f_X3_work
  rw [if_pos hc, if_pos (show nI 3 = (3 : Int32) from rfl)]
theorem wk_4 {S : KS} {x y n : Int32} (hc : f_X1_made S + f_X2_makes S (nI 4) x ≤ 60) : f_X2_answerOf S (nI 4) x y n = ((f_X2_lay S x y n).1, (f_X2_lay S x y n).2) := by
  unfold f_X2_answerOf
  rw [if_pos hc, if_neg (show ¬ nI 4 = (0 : Int32) by decide), if_neg (show ¬ nI 4 = (1 : Int32) by decide), if_neg (show ¬ nI 4 = (2 : Int32) by decide), if_neg (show ¬ nI 4 = (3 : Int32) by decide), if_pos (show nI 4 = (4 : Int32) from rfl)]
theorem wm_4 {T : MS} {x y n : Int32} (hc : T.vals + f_X3_makes T (nI 4) x ≤ 60) : f_X3_work T (nI 4) x y n = ((f_X3_lay T x y n).1, (f_X3_lay T x y n).2) := by
  unfold f_X3_work
  rw [if_pos hc, if_neg (show ¬ nI 4 = (3 : Int32) by decide), if_pos (show nI 4 = (4 : Int32) from rfl)]
theorem wk_5 {S : KS} {x y n : Int32} (hc : f_X1_made S + f_X2_makes S (nI 5) x ≤ 60) : f_X2_answerOf S (nI 5) x y n = ((f_X2_levels S x).1, (f_X2_levels S x).2) := by
  unfold f_X2_answerOf
  rw [if_pos hc, if_neg (show ¬ nI 5 = (0 : Int32) by decide), if_neg (show ¬ nI 5 = (1 : Int32) by decide), if_neg (show ¬ nI 5 = (2 : Int32) by decide), if_neg (show ¬ nI 5 = (3 : Int32) by decide), if_neg (show ¬ nI 5 = (4 : Int32) by decide), if_pos (show nI 5 = (5 : Int32) from rfl)]
theorem wc_5 {T : MS} {x y n : Int32} : f_X3_work_c145 T (nI 5) x y n = if f_X3_isOf T x 6 = 0 then (if f_X3_isOf T x 8 = 0 then (f_X3_with 1, T) else ((f_X3_levelsOf T x 1).1, (f_X3_levelsOf T x 1).2)) else ((f_X3_levelsOf T x 1).1, (f_X3_levelsOf T x 1).2) := by
  unfold f_X3_work_c145
  rw [if_neg (show ¬ nI 5 = (0 : Int32) by decide), if_neg (show ¬ nI 5 = (1 : Int32) by decide), if_neg (show ¬ nI 5 = (2 : Int32) by decide), if_pos (show nI 5 = (5 : Int32) from rfl)]
theorem wm_5 {T : MS} {x y n : Int32} (hc : T.vals + f_X3_makes T (nI 5) x ≤ 60) : f_X3_work T (nI 5) x y n = if x = -1 then (f_X3_with 2, T) else (if f_X3_isOf T x 6 = 0 then (if f_X3_isOf T x 8 = 0 then (f_X3_with 1, T) else ((f_X3_levelsOf T x 1).1, (f_X3_levelsOf T x 1).2)) else ((f_X3_levelsOf T x 1).1, (f_X3_levelsOf T x 1).2)) := by
  unfold f_X3_work
  rw [if_pos hc, if_neg (show ¬ nI 5 = (3 : Int32) by decide), if_neg (show ¬ nI 5 = (4 : Int32) by decide), if_neg (show ¬ nI 5 = (11 : Int32) by decide), if_neg (show ¬ nI 5 = (12 : Int32) by decide), wc_5, if_neg (show ¬ nI 5 = (7 : Int32) by decide), if_neg (show ¬ nI 5 = (9 : Int32) by decide)]
theorem wk_6 {S : KS} {x y n : Int32} (hc : f_X1_made S + f_X2_makes S (nI 6) x ≤ 60) : f_X2_answerOf S (nI 6) x y n = if n = 0 then ((f_X2_drive S x 0).1, (f_X2_drive S x 0).2) else ((f_X2_drive S x 1).1, (f_X2_drive S x 1).2) := by
  unfold f_X2_answerOf
  rw [if_pos hc, if_neg (show ¬ nI 6 = (0 : Int32) by decide), if_neg (show ¬ nI 6 = (1 : Int32) by decide), if_neg (show ¬ nI 6 = (2 : Int32) by decide), if_neg (show ¬ nI 6 = (3 : Int32) by decide), if_neg (show ¬ nI 6 = (4 : Int32) by decide), if_neg (show ¬ nI 6 = (5 : Int32) by decide), if_pos (show nI 6 = (6 : Int32) from rfl)]
theorem wc_6 {T : MS} {x y n : Int32} : f_X3_work_c145 T (nI 6) x y n = ((f_X3_drive T x n).1, (f_X3_drive T x n).2) := by
  unfold f_X3_work_c145
  rw [if_neg (show ¬ nI 6 = (0 : Int32) by decide), if_neg (show ¬ nI 6 = (1 : Int32) by decide), if_neg (show ¬ nI 6 = (2 : Int32) by decide), if_neg (show ¬ nI 6 = (5 : Int32) by decide), if_pos (show nI 6 = (6 : Int32) from rfl)]
theorem wm_6 {T : MS} {x y n : Int32} (hc : T.vals + f_X3_makes T (nI 6) x ≤ 60) : f_X3_work T (nI 6) x y n = if x = -1 then (f_X3_with 2, T) else (((f_X3_drive T x n).1, (f_X3_drive T x n).2)) := by
  unfold f_X3_work
  rw [if_pos hc, if_neg (show ¬ nI 6 = (3 : Int32) by decide), if_neg (show ¬ nI 6 = (4 : Int32) by decide), if_neg (show ¬ nI 6 = (11 : Int32) by decide), if_neg (show ¬ nI 6 = (12 : Int32) by decide), wc_6, if_neg (show ¬ nI 6 = (7 : Int32) by decide), if_neg (show ¬ nI 6 = (9 : Int32) by decide)]
theorem wk_7 {S : KS} {x y n : Int32} (hc : f_X1_made S + f_X2_makes S (nI 7) x ≤ 60) : f_X2_answerOf S (nI 7) x y n = if n = 0 then ((f_X2_pair S x y 0).1, (f_X2_pair S x y 0).2) else ((f_X2_pair S x y 1).1, (f_X2_pair S x y 1).2) := by
  unfold f_X2_answerOf
  rw [if_pos hc, if_neg (show ¬ nI 7 = (0 : Int32) by decide), if_neg (show ¬ nI 7 = (1 : Int32) by decide), if_neg (show ¬ nI 7 = (2 : Int32) by decide), if_neg (show ¬ nI 7 = (3 : Int32) by decide), if_neg (show ¬ nI 7 = (4 : Int32) by decide), if_neg (show ¬ nI 7 = (5 : Int32) by decide), if_neg (show ¬ nI 7 = (6 : Int32) by decide), if_pos (show nI 7 = (7 : Int32) from rfl)]
theorem wc_7 {T : MS} {x y n : Int32} : f_X3_work_c145 T (nI 7) x y n = ((f_X3_pair T x y n).1, (f_X3_pair T x y n).2) := by
  unfold f_X3_work_c145
  rw [if_neg (show ¬ nI 7 = (0 : Int32) by decide), if_neg (show ¬ nI 7 = (1 : Int32) by decide), if_neg (show ¬ nI 7 = (2 : Int32) by decide), if_neg (show ¬ nI 7 = (5 : Int32) by decide), if_neg (show ¬ nI 7 = (6 : Int32) by decide), if_pos (show nI 7 = (7 : Int32) from rfl)]
theorem wm_7 {T : MS} {x y n : Int32} (hc : T.vals + f_X3_makes T (nI 7) x ≤ 60) : f_X3_work T (nI 7) x y n = ((f_X3_pair T x y n).1, (f_X3_pair T x y n).2) := by
  unfold f_X3_work
  rw [if_pos hc, if_neg (show ¬ nI 7 = (3 : Int32) by decide), if_neg (show ¬ nI 7 = (4 : Int32) by decide), if_neg (show ¬ nI 7 = (11 : Int32) by decide), if_neg (show ¬ nI 7 = (12 : Int32) by decide), wc_7]
  by_cases c : x = -1
  · rw [if_pos c, if_pos (show nI 7 = (7 : Int32) from rfl)]
  · rw [if_neg c]
theorem wk_8 {S : KS} {x y n : Int32} (hc : f_X1_made S + f_X2_makes S (nI 8) x ≤ 60) : f_X2_answerOf S (nI 8) x y n = ((f_X2_power S x).1, (f_X2_power S x).2) := by
  unfold f_X2_answerOf
  rw [if_pos hc, if_neg (show ¬ nI 8 = (0 : Int32) by decide), if_neg (show ¬ nI 8 = (1 : Int32) by decide), if_neg (show ¬ nI 8 = (2 : Int32) by decide), if_neg (show ¬ nI 8 = (3 : Int32) by decide), if_neg (show ¬ nI 8 = (4 : Int32) by decide), if_neg (show ¬ nI 8 = (5 : Int32) by decide), if_neg (show ¬ nI 8 = (6 : Int32) by decide), if_neg (show ¬ nI 8 = (7 : Int32) by decide), if_pos (show nI 8 = (8 : Int32) from rfl)]
theorem wc_8 {T : MS} {x y n : Int32} : f_X3_work_c145 T (nI 8) x y n = ((f_X3_power T x).1, (f_X3_power T x).2) := by
  unfold f_X3_work_c145
  rw [if_neg (show ¬ nI 8 = (0 : Int32) by decide), if_neg (show ¬ nI 8 = (1 : Int32) by decide), if_neg (show ¬ nI 8 = (2 : Int32) by decide), if_neg (show ¬ nI 8 = (5 : Int32) by decide), if_neg (show ¬ nI 8 = (6 : Int32) by decide), if_neg (show ¬ nI 8 = (7 : Int32) by decide), if_pos (show nI 8 = (8 : Int32) from rfl)]
theorem wm_8 {T : MS} {x y n : Int32} (hc : T.vals + f_X3_makes T (nI 8) x ≤ 60) : f_X3_work T (nI 8) x y n = if x = -1 then (f_X3_with 2, T) else (((f_X3_power T x).1, (f_X3_power T x).2)) := by
  unfold f_X3_work
  rw [if_pos hc, if_neg (show ¬ nI 8 = (3 : Int32) by decide), if_neg (show ¬ nI 8 = (4 : Int32) by decide), if_neg (show ¬ nI 8 = (11 : Int32) by decide), if_neg (show ¬ nI 8 = (12 : Int32) by decide), wc_8, if_neg (show ¬ nI 8 = (7 : Int32) by decide), if_neg (show ¬ nI 8 = (9 : Int32) by decide)]
theorem wk_9 {S : KS} {x y n : Int32} (hc : f_X1_made S + f_X2_makes S (nI 9) x ≤ 60) : f_X2_answerOf S (nI 9) x y n = ((f_X2_join S x y).1, (f_X2_join S x y).2) := by
  unfold f_X2_answerOf
  rw [if_pos hc, if_neg (show ¬ nI 9 = (0 : Int32) by decide), if_neg (show ¬ nI 9 = (1 : Int32) by decide), if_neg (show ¬ nI 9 = (2 : Int32) by decide), if_neg (show ¬ nI 9 = (3 : Int32) by decide), if_neg (show ¬ nI 9 = (4 : Int32) by decide), if_neg (show ¬ nI 9 = (5 : Int32) by decide), if_neg (show ¬ nI 9 = (6 : Int32) by decide), if_neg (show ¬ nI 9 = (7 : Int32) by decide), if_neg (show ¬ nI 9 = (8 : Int32) by decide), if_pos (show nI 9 = (9 : Int32) from rfl)]
theorem wc_9 {T : MS} {x y n : Int32} : f_X3_work_c145 T (nI 9) x y n = ((f_X3_join T x y).1, (f_X3_join T x y).2) := by
  unfold f_X3_work_c145
  rw [if_neg (show ¬ nI 9 = (0 : Int32) by decide), if_neg (show ¬ nI 9 = (1 : Int32) by decide), if_neg (show ¬ nI 9 = (2 : Int32) by decide), if_neg (show ¬ nI 9 = (5 : Int32) by decide), if_neg (show ¬ nI 9 = (6 : Int32) by decide), if_neg (show ¬ nI 9 = (7 : Int32) by decide), if_neg (show ¬ nI 9 = (8 : Int32) by decide), if_pos (show nI 9 = (9 : Int32) from rfl)]
theorem wm_9 {T : MS} {x y n : Int32} (hc : T.vals + f_X3_makes T (nI 9) x ≤ 60) : f_X3_work T (nI 9) x y n = ((f_X3_join T x y).1, (f_X3_join T x y).2) := by
  unfold f_X3_work
  rw [if_pos hc, if_neg (show ¬ nI 9 = (3 : Int32) by decide), if_neg (show ¬ nI 9 = (4 : Int32) by decide), if_neg (show ¬ nI 9 = (11 : Int32) by decide), if_neg (show ¬ nI 9 = (12 : Int32) by decide), wc_9]
  by_cases c : x = -1
  · rw [if_pos c, if_neg (show ¬ nI 9 = (7 : Int32) by decide), if_pos (show nI 9 = (9 : Int32) from rfl)]
  · rw [if_neg c]
theorem wk_10 {S : KS} {x y n : Int32} (hc : f_X1_made S + f_X2_makes S (nI 10) x ≤ 60) : f_X2_answerOf S (nI 10) x y n = ((f_X2_copy S x).1, (f_X2_copy S x).2) := by
  unfold f_X2_answerOf
  rw [if_pos hc, if_neg (show ¬ nI 10 = (0 : Int32) by decide), if_neg (show ¬ nI 10 = (1 : Int32) by decide), if_neg (show ¬ nI 10 = (2 : Int32) by decide), if_neg (show ¬ nI 10 = (3 : Int32) by decide), if_neg (show ¬ nI 10 = (4 : Int32) by decide), if_neg (show ¬ nI 10 = (5 : Int32) by decide), if_neg (show ¬ nI 10 = (6 : Int32) by decide), if_neg (show ¬ nI 10 = (7 : Int32) by decide), if_neg (show ¬ nI 10 = (8 : Int32) by decide), if_neg (show ¬ nI 10 = (9 : Int32) by decide), if_pos (show nI 10 = (10 : Int32) from rfl)]
theorem wc_10 {T : MS} {x y n : Int32} : f_X3_work_c145 T (nI 10) x y n = ((f_X3_copy T x).1, (f_X3_copy T x).2) := by
  unfold f_X3_work_c145
  rw [if_neg (show ¬ nI 10 = (0 : Int32) by decide), if_neg (show ¬ nI 10 = (1 : Int32) by decide), if_neg (show ¬ nI 10 = (2 : Int32) by decide), if_neg (show ¬ nI 10 = (5 : Int32) by decide), if_neg (show ¬ nI 10 = (6 : Int32) by decide), if_neg (show ¬ nI 10 = (7 : Int32) by decide), if_neg (show ¬ nI 10 = (8 : Int32) by decide), if_neg (show ¬ nI 10 = (9 : Int32) by decide)]
theorem wm_10 {T : MS} {x y n : Int32} (hc : T.vals + f_X3_makes T (nI 10) x ≤ 60) : f_X3_work T (nI 10) x y n = if x = -1 then (f_X3_with 2, T) else (((f_X3_copy T x).1, (f_X3_copy T x).2)) := by
  unfold f_X3_work
  rw [if_pos hc, if_neg (show ¬ nI 10 = (3 : Int32) by decide), if_neg (show ¬ nI 10 = (4 : Int32) by decide), if_neg (show ¬ nI 10 = (11 : Int32) by decide), if_neg (show ¬ nI 10 = (12 : Int32) by decide), wc_10, if_neg (show ¬ nI 10 = (7 : Int32) by decide), if_neg (show ¬ nI 10 = (9 : Int32) by decide)]
theorem wk_11 {S : KS} {x y n : Int32} (hc : f_X1_made S + f_X2_makes S (nI 11) x ≤ 60) : f_X2_answerOf S (nI 11) x y n = ((f_X2_makeCable S n).1, (f_X2_makeCable S n).2) := by
  unfold f_X2_answerOf
  rw [if_pos hc, if_neg (show ¬ nI 11 = (0 : Int32) by decide), if_neg (show ¬ nI 11 = (1 : Int32) by decide), if_neg (show ¬ nI 11 = (2 : Int32) by decide), if_neg (show ¬ nI 11 = (3 : Int32) by decide), if_neg (show ¬ nI 11 = (4 : Int32) by decide), if_neg (show ¬ nI 11 = (5 : Int32) by decide), if_neg (show ¬ nI 11 = (6 : Int32) by decide), if_neg (show ¬ nI 11 = (7 : Int32) by decide), if_neg (show ¬ nI 11 = (8 : Int32) by decide), if_neg (show ¬ nI 11 = (9 : Int32) by decide), if_neg (show ¬ nI 11 = (10 : Int32) by decide), if_pos (show nI 11 = (11 : Int32) from rfl)]
theorem wm_11 {T : MS} {x y n : Int32} (hc : T.vals + f_X3_makes T (nI 11) x ≤ 60) : f_X3_work T (nI 11) x y n = if f_X3_isIn n 0 8 = 0 then (f_X3_with 5, T) else ((f_X3_make T 6 n).1, (f_X3_make T 6 n).2) := by
  unfold f_X3_work
  rw [if_pos hc, if_neg (show ¬ nI 11 = (3 : Int32) by decide), if_neg (show ¬ nI 11 = (4 : Int32) by decide), if_pos (show nI 11 = (11 : Int32) from rfl)]
theorem wk_12 {S : KS} {x y n : Int32} (hc : f_X1_made S + f_X2_makes S (nI 12) x ≤ 60) : f_X2_answerOf S (nI 12) x y n = (f_X2_check S x n, S) := by
  unfold f_X2_answerOf
  rw [if_pos hc, if_neg (show ¬ nI 12 = (0 : Int32) by decide), if_neg (show ¬ nI 12 = (1 : Int32) by decide), if_neg (show ¬ nI 12 = (2 : Int32) by decide), if_neg (show ¬ nI 12 = (3 : Int32) by decide), if_neg (show ¬ nI 12 = (4 : Int32) by decide), if_neg (show ¬ nI 12 = (5 : Int32) by decide), if_neg (show ¬ nI 12 = (6 : Int32) by decide), if_neg (show ¬ nI 12 = (7 : Int32) by decide), if_neg (show ¬ nI 12 = (8 : Int32) by decide), if_neg (show ¬ nI 12 = (9 : Int32) by decide), if_neg (show ¬ nI 12 = (10 : Int32) by decide), if_neg (show ¬ nI 12 = (11 : Int32) by decide)]
theorem wm_12 {T : MS} {x y n : Int32} (hc : T.vals + f_X3_makes T (nI 12) x ≤ 60) : f_X3_work T (nI 12) x y n = if f_X3_isIn n 0 11 = 0 then (f_X3_with 1, T) else (if x = -1 then (x, T) else (if f_X3_isOf T x n = 0 then (f_X3_with 1, T) else (x, T))) := by
  unfold f_X3_work
  rw [if_pos hc, if_neg (show ¬ nI 12 = (3 : Int32) by decide), if_neg (show ¬ nI 12 = (4 : Int32) by decide), if_neg (show ¬ nI 12 = (11 : Int32) by decide), if_pos (show nI 12 = (12 : Int32) from rfl)]
def RVm (m : Nat) (r : Int32) : Prop := -10 ≤ r → VN m r
theorem tap_vn {S : KS} {T : MS} {m : Nat} {x n : Int32} (h : RelM S T m) (hx : VN m x) : RVm m (f_X3_tap T x n) := by
  have h60 := h.1
  have w : ∀ c : Int32, ¬ -10 ≤ f_X3_with c → RVm m (f_X3_with c) := fun c hc q => absurd q hc
  unfold f_X3_tap
  rcases hx with rfl | ⟨j, hj, rfl⟩
  · rw [if_pos rfl]; exact w 2 (by decide)
  · obtain ⟨f, k, hf, hk, a3, a4, a5, a6, a7, a8, a9⟩ := h.2.2.2.1 j hj
    rw [if_neg (nI_ne_m1 (by omega)), plc_eq (by omega) hf a4, cl1 (by omega), a6]
    by_cases c : f_X2_isBoardForm (nI f) = 0
    · rw [if_pos c]; exact w 1 (by decide)
    · rw [if_neg c]
      by_cases hi : ∃ i, i < k ∧ n = nI i
      · obtain ⟨i, hi, rfl⟩ := hi
        rw [isIn_1 (by omega) hi, if_neg n10, mx (by omega) (by omega)]
        rcases (a9 (brd_3 hf c) i hi).2 with e | ⟨y, hy, e, -⟩
        · rw [e, if_pos rfl]; exact w 2 (by decide)
        · rw [e, if_neg (nI_ne_m1 (by omega))]; exact fun _ => Or.inr ⟨y, hy, rfl⟩
      · rw [isIn_0 (by omega) hi, if_pos rfl]; exact w 3 (by decide)
theorem b01 (n : Int32) (c : ¬ n = 0) : (1 : Int32) = 0 ↔ n = 0 := ⟨fun q => absurd q n10, fun q => absurd q c⟩
theorem none2 {S : KS} {T : MS} {m : Nat} (h : RelM S T m) : EqW T m (f_X2_fault 2, S) (f_X3_with 2, T) := badW h
theorem ow_0 {S : KS} {T : MS} {m : Nat} {x y n : Int32} (h : RelM S T m) (hx : VN m x) (hy : VN m y) (hc : T.vals + f_X3_makes T (nI 0) x ≤ 60) (hk : f_X1_made S + f_X2_makes S (nI 0) x ≤ 60) : EqW T m (f_X2_answerOf S (nI 0) x y n) (f_X3_work T (nI 0) x y n) := by
  have h60 := h.1
  rw [wk_0 hk, wm_0 hc]
  have hm := (room_lt h hx (by omega) hc).1
  rcases hx with rfl | ⟨j, hj, rfl⟩
  · rw [if_pos rfl]
    have e9 : f_X2_sum S (-1) = (f_X2_fault 2, S) := by unfold f_X2_sum; rw [if_pos rfl]
    rw [e9]; exact none2 h
  · rw [if_neg (nI_ne_m1 (by omega))]; exact (op_sum h hm hj).eta
theorem ow_1 {S : KS} {T : MS} {m : Nat} {x y n : Int32} (h : RelM S T m) (hx : VN m x) (hy : VN m y) (hc : T.vals + f_X3_makes T (nI 1) x ≤ 60) (hk : f_X1_made S + f_X2_makes S (nI 1) x ≤ 60) : EqW T m (f_X2_answerOf S (nI 1) x y n) (f_X3_work T (nI 1) x y n) := by
  have h60 := h.1
  rw [wk_1 hk, wm_1 hc]
  have hm := (room_lt h hx (by omega) hc).1
  rcases hx with rfl | ⟨j, hj, rfl⟩
  · rw [if_pos rfl]
    have e9 : f_X2_widen S (-1) = (f_X2_fault 2, S) := by unfold f_X2_widen; rw [if_pos rfl]
    rw [e9]; exact none2 h
  · rw [if_neg (nI_ne_m1 (by omega))]; exact (op_widen h hm hj).eta
theorem ow_2 {S : KS} {T : MS} {m : Nat} {x y n : Int32} (h : RelM S T m) (hx : VN m x) (hy : VN m y) (hc : T.vals + f_X3_makes T (nI 2) x ≤ 60) (hk : f_X1_made S + f_X2_makes S (nI 2) x ≤ 60) : EqW T m (f_X2_answerOf S (nI 2) x y n) (f_X3_work T (nI 2) x y n) := by
  have h60 := h.1
  rw [wk_2 hk, wm_2 hc]
  have hm := (room_lt h hx (by omega) hc).1
  rcases hx with rfl | ⟨j, hj, rfl⟩
  · rw [if_pos rfl]
    have e9 : f_X2_narrow S (-1) = (f_X2_fault 2, S) := by unfold f_X2_narrow; rw [if_pos rfl]
    rw [e9]; exact none2 h
  · rw [if_neg (nI_ne_m1 (by omega))]; exact (op_narrow h hm hj).eta
theorem ow_3 {S : KS} {T : MS} {m : Nat} {x y n : Int32} (h : RelM S T m) (hx : VN m x) (hy : VN m y) (hc : T.vals + f_X3_makes T (nI 3) x ≤ 60) (hk : f_X1_made S + f_X2_makes S (nI 3) x ≤ 60) : EqW T m (f_X2_answerOf S (nI 3) x y n) (f_X3_work T (nI 3) x y n) := by
  have h60 := h.1
  rw [wk_3 hk, wm_3 hc, op_tap x n h hx]
  refine ⟨rfl, m, Nat.le_refl _, h, ⟨rfl, rfl⟩, ?_⟩
  show RVm m (f_X3_tap T x n)
  exact tap_vn h hx
theorem ow_4 {S : KS} {T : MS} {m : Nat} {x y n : Int32} (h : RelM S T m) (hx : VN m x) (hy : VN m y) (hc : T.vals + f_X3_makes T (nI 4) x ≤ 60) (hk : f_X1_made S + f_X2_makes S (nI 4) x ≤ 60) : EqW T m (f_X2_answerOf S (nI 4) x y n) (f_X3_work T (nI 4) x y n) := by
  have h60 := h.1
  rw [wk_4 hk, wm_4 hc]
  exact (op_lay x y n h hx hy).eta
theorem ow_5 {S : KS} {T : MS} {m : Nat} {x y n : Int32} (h : RelM S T m) (hx : VN m x) (hy : VN m y) (hc : T.vals + f_X3_makes T (nI 5) x ≤ 60) (hk : f_X1_made S + f_X2_makes S (nI 5) x ≤ 60) : EqW T m (f_X2_answerOf S (nI 5) x y n) (f_X3_work T (nI 5) x y n) := by
  have h60 := h.1
  rw [wk_5 hk, wm_5 hc]
  have hm := (room_lt h hx (by omega) hc).1
  rcases hx with rfl | ⟨j, hj, rfl⟩
  · rw [if_pos rfl]
    have e9 : f_X2_levels S (-1) = (f_X2_fault 2, S) := by unfold f_X2_levels; rw [if_pos rfl]
    rw [e9]; exact none2 h
  · rw [if_neg (nI_ne_m1 (by omega))]; exact (op_levels h hm hj)
theorem ow_6 {S : KS} {T : MS} {m : Nat} {x y n : Int32} (h : RelM S T m) (hx : VN m x) (hy : VN m y) (hc : T.vals + f_X3_makes T (nI 6) x ≤ 60) (hk : f_X1_made S + f_X2_makes S (nI 6) x ≤ 60) : EqW T m (f_X2_answerOf S (nI 6) x y n) (f_X3_work T (nI 6) x y n) := by
  have h60 := h.1
  rw [wk_6 hk, wm_6 hc]
  have hr := room_lt h hx (by omega) hc
  rcases hx with rfl | ⟨j, hj, rfl⟩
  · rw [if_pos rfl]
    have e9 : ∀ b, f_X2_drive S (-1) b = (f_X2_fault 2, S) := fun b => by unfold f_X2_drive; rw [if_pos rfl]
    rw [e9, e9]
    by_cases c : n = 0
    · rw [if_pos c]; exact none2 h
    · rw [if_neg c]; exact none2 h
  · rw [if_neg (nI_ne_m1 (by omega))]
    by_cases c : n = 0
    · rw [if_pos c]; exact (op_drive 0 n ⟨fun _ => c, fun _ => rfl⟩ h hj (hr.2 rfl j rfl hj)).eta
    · rw [if_neg c]; exact (op_drive 1 n (b01 n c) h hj (hr.2 rfl j rfl hj)).eta
theorem ow_7 {S : KS} {T : MS} {m : Nat} {x y n : Int32} (h : RelM S T m) (hx : VN m x) (hy : VN m y) (hc : T.vals + f_X3_makes T (nI 7) x ≤ 60) (hk : f_X1_made S + f_X2_makes S (nI 7) x ≤ 60) : EqW T m (f_X2_answerOf S (nI 7) x y n) (f_X3_work T (nI 7) x y n) := by
  have h60 := h.1
  rw [wk_7 hk, wm_7 hc]
  have hm := (room_lt h hx (by omega) hc).1
  by_cases c : n = 0
  · rw [if_pos c]; exact (op_pair 0 n ⟨fun _ => c, fun _ => rfl⟩ h hm hx hy).eta
  · rw [if_neg c]; exact (op_pair 1 n (b01 n c) h hm hx hy).eta
theorem ow_8 {S : KS} {T : MS} {m : Nat} {x y n : Int32} (h : RelM S T m) (hx : VN m x) (hy : VN m y) (hc : T.vals + f_X3_makes T (nI 8) x ≤ 60) (hk : f_X1_made S + f_X2_makes S (nI 8) x ≤ 60) : EqW T m (f_X2_answerOf S (nI 8) x y n) (f_X3_work T (nI 8) x y n) := by
  have h60 := h.1
  rw [wk_8 hk, wm_8 hc]
  have hm := (room_lt h hx (by omega) hc).1
  rcases hx with rfl | ⟨j, hj, rfl⟩
  · rw [if_pos rfl]
    have e9 : f_X2_power S (-1) = (f_X2_fault 2, S) := by unfold f_X2_power; rw [if_pos rfl]
    rw [e9]; exact none2 h
  · rw [if_neg (nI_ne_m1 (by omega))]; exact (op_power h hm hj).eta
theorem ow_9 {S : KS} {T : MS} {m : Nat} {x y n : Int32} (h : RelM S T m) (hx : VN m x) (hy : VN m y) (hc : T.vals + f_X3_makes T (nI 9) x ≤ 60) (hk : f_X1_made S + f_X2_makes S (nI 9) x ≤ 60) : EqW T m (f_X2_answerOf S (nI 9) x y n) (f_X3_work T (nI 9) x y n) := by
  have h60 := h.1
  rw [wk_9 hk, wm_9 hc]
  exact (op_join h (room_lt h hx (by omega) hc).1 hx hy).eta
theorem ow_10 {S : KS} {T : MS} {m : Nat} {x y n : Int32} (h : RelM S T m) (hx : VN m x) (hy : VN m y) (hc : T.vals + f_X3_makes T (nI 10) x ≤ 60) (hk : f_X1_made S + f_X2_makes S (nI 10) x ≤ 60) : EqW T m (f_X2_answerOf S (nI 10) x y n) (f_X3_work T (nI 10) x y n) := by
  have h60 := h.1
  rw [wk_10 hk, wm_10 hc]
  have hm := (room_lt h hx (by omega) hc).1
  rcases hx with rfl | ⟨j, hj, rfl⟩
  · rw [if_pos rfl]
    have e9 : f_X2_copy S (-1) = (f_X2_fault 2, S) := by unfold f_X2_copy; rw [if_pos rfl]
    rw [e9]; exact none2 h
  · rw [if_neg (nI_ne_m1 (by omega))]; exact (op_copy h hm hj).eta
theorem ow_11 {S : KS} {T : MS} {m : Nat} {x y n : Int32} (h : RelM S T m) (hx : VN m x) (hy : VN m y) (hc : T.vals + f_X3_makes T (nI 11) x ≤ 60) (hk : f_X1_made S + f_X2_makes S (nI 11) x ≤ 60) : EqW T m (f_X2_answerOf S (nI 11) x y n) (f_X3_work T (nI 11) x y n) := by
  have h60 := h.1
  rw [wk_11 hk, wm_11 hc]
  have hm := (room_lt h hx (by omega) hc).1
  unfold f_X2_makeCable
  rw [len_isIn]
  by_cases c : f_X3_isIn n 0 8 = 0
  · rw [if_pos c, if_pos c]; exact badW (r := f_X2_fault 5) h
  · rw [if_neg c, if_neg c]
    obtain ⟨k, -, hk8, rfl⟩ := isIn_rng c (a := 0) (b := 8) rfl rfl
    obtain ⟨S1, T1, e1, e2, hB⟩ := both_add 6 k h hm (by omega) hk8 (by omega)
    have e1' : f_X1_add S 6 (nI k) = (nI m, S1) := e1
    have e2' : f_X3_make T 6 (nI k) = (nI m, T1) := e2
    rw [e1', e2']
    exact hB.w h hm (by omega) hk8
theorem ow_12 {S : KS} {T : MS} {m : Nat} {x y n : Int32} (h : RelM S T m) (hx : VN m x) (hy : VN m y) (hc : T.vals + f_X3_makes T (nI 12) x ≤ 60) (hk : f_X1_made S + f_X2_makes S (nI 12) x ≤ 60) : EqW T m (f_X2_answerOf S (nI 12) x y n) (f_X3_work T (nI 12) x y n) := by
  have h60 := h.1
  rw [wk_12 hk, wm_12 hc]
  unfold f_X2_check
  rw [view_isIn]
  by_cases c : f_X3_isIn n 0 11 = 0
  · rw [if_pos c, if_pos c]; exact badW h
  · rw [if_neg c, if_neg c]
    obtain ⟨v, -, hv, rfl⟩ := isIn_rng c (a := 0) (b := 11) rfl rfl
    rw [noneOr_eq h hx ⟨v, by omega, rfl⟩]
    by_cases cx : x = -1
    · rw [if_pos cx, if_pos cx, if_neg n10]
      exact ⟨rfl, m, Nat.le_refl _, h, ⟨rfl, rfl⟩, fun _ => hx⟩
    · rw [if_neg cx, if_neg cx]
      by_cases co : f_X3_isOf T x (nI v) = 0
      · rw [if_pos co, if_pos co]; exact badW h
      · rw [if_neg co, if_neg co]
        exact ⟨rfl, m, Nat.le_refl _, h, ⟨rfl, rfl⟩, fun _ => hx⟩
theorem op_work {S : KS} {T : MS} {m w : Nat} {x y n : Int32} (h : RelM S T m) (hw : w ≤ 12) (hx : VN m x) (hy : VN m y) : EqW T m (f_X2_answerOf S (nI w) x y n) (f_X3_work T (nI w) x y n) := by
  have h60 := h.1
  have e : f_X1_made S = T.vals := h.2.1.trans h.2.2.1.symm
  have em := makes_eq h hx hw
  by_cases hcn : ¬ T.vals + f_X3_makes T (nI w) x ≤ 60
  · have e1 : f_X2_answerOf S (nI w) x y n = (f_X2_fault 6, S) := by
      unfold f_X2_answerOf
      rw [e, em, if_neg hcn]
    have e2 : f_X3_work T (nI w) x y n = (f_X3_with 6, T) := by
      unfold f_X3_work
      rw [if_neg hcn]
    rw [e1, e2]; exact badW h
  have hc : T.vals + f_X3_makes T (nI w) x ≤ 60 := Decidable.not_not.mp hcn
  have hk : f_X1_made S + f_X2_makes S (nI w) x ≤ 60 := by rw [e, em]; exact hc
  have hw13 : w = 0 ∨ w = 1 ∨ w = 2 ∨ w = 3 ∨ w = 4 ∨ w = 5 ∨ w = 6 ∨ w = 7 ∨ w = 8 ∨ w = 9 ∨ w = 10 ∨ w = 11 ∨ w = 12 := by omega
  rcases hw13 with rfl | rfl | rfl | rfl | rfl | rfl | rfl | rfl | rfl | rfl | rfl | rfl | rfl
  · exact ow_0 h hx hy hc hk
  · exact ow_1 h hx hy hc hk
  · exact ow_2 h hx hy hc hk
  · exact ow_3 h hx hy hc hk
  · exact ow_4 h hx hy hc hk
  · exact ow_5 h hx hy hc hk
  · exact ow_6 h hx hy hc hk
  · exact ow_7 h hx hy hc hk
  · exact ow_8 h hx hy hc hk
  · exact ow_9 h hx hy hc hk
  · exact ow_10 h hx hy hc hk
  · exact ow_11 h hx hy hc hk
  · exact ow_12 h hx hy hc hk
theorem R_faults {S : KS} {T : MS} {m : Nat} {a b : Int32} (h : RelM S T m) (e : a = b) : RelM (S.set_faults a) (T.set_faults b) m := by
  obtain ⟨h60, e1, e2, hV, hP, d1, d2, d3⟩ := h
  exact ⟨h60, e1, e2, hV, hP, e, d2, d3⟩
theorem R_latest {S : KS} {T : MS} {m : Nat} {a b : Int32} (h : RelM S T m) (e : a = b) : RelM (S.set_latest a) (T.set_latest b) m := by
  obtain ⟨h60, e1, e2, hV, hP, d1, d2, d3⟩ := h
  exact ⟨h60, e1, e2, hV, hP, d1, e, d3⟩
theorem P_noted (T : MS) (a b : Int32) : SameP T ((T.set_faults a).set_latest b) := ⟨rfl, rfl⟩
theorem op_noted {S : KS} {T : MS} {m : Nat} (r : Int32) (h : RelM S T m) : (f_X2_noted S r).1 = r ∧ (f_X3_noted T r).1 = r ∧ RelM (f_X2_noted S r).2 (f_X3_noted T r).2 m ∧ SameP T (f_X3_noted T r).2 := by
  unfold f_X2_noted f_X3_noted f_X2_isFault
  by_cases c : -10 ≤ r
  · rw [if_pos c, if_pos rfl, if_pos c]
    exact ⟨rfl, rfl, h, rfl, rfl⟩
  · rw [if_neg c, if_neg n10, if_neg c]
    have d1 := h.2.2.2.2.2.1
    exact ⟨rfl, rfl, R_latest (R_faults h (congrArg (· + 1) d1)) rfl, P_noted _ _ _⟩
theorem op_act {S : KS} {T : MS} {m : Nat} (x1 x2 x3 x4 : Int32) (h : RelM S T m) : EqO (f_X2_act S x1 x2 x3 x4) (f_X3_act T x1 x2 x3 x4) := by
  unfold f_X2_act f_X3_act
  rw [act_isIn]
  by_cases c : f_X3_isIn x1 0 12 = 0
  · rw [if_pos c, if_pos c]; exact bad h
  rw [if_neg c, if_neg c]
  by_cases hx : VN m x2
  · rw [vnK_1 h.2.1 h.1 hx, mayBe_1 h.2.2.1 h.1 hx, if_neg n10, if_neg n10]
    by_cases hy : VN m x3
    · rw [vnK_1 h.2.1 h.1 hy, mayBe_1 h.2.2.1 h.1 hy, if_neg n10, if_neg n10]
      obtain ⟨w, -, hw, rfl⟩ := isIn_rng c (a := 0) (b := 12) rfl rfl
      obtain ⟨e, m', -, hR, -⟩ := op_work (n := x4) h hw hx hy
      rw [e]
      generalize f_X2_answerOf S (nI w) x2 x3 x4 = A at *
      generalize f_X3_work T (nI w) x2 x3 x4 = B at *
      obtain ⟨n1, n2, n3, -⟩ := op_noted B.1 hR
      generalize f_X2_noted A.2 B.1 = C at *
      generalize f_X3_noted B.2 B.1 = D at *
      exact ⟨n1.trans n2.symm, m', n3⟩
    · rw [vnK_0 h.2.1 h.1 hy, mayBe_0 h.2.2.1 h.1 hy, if_pos rfl, if_pos rfl]; exact bad h
  · rw [vnK_0 h.2.1 h.1 hx, mayBe_0 h.2.2.1 h.1 hx, if_pos rfl, if_pos rfl]; exact bad h
theorem R_stop {S : KS} {T : MS} {m : Nat} (v : Int32) (h : RelM S T m) : RelM (S.set_stop v) (T.set_stop v) m := by
  obtain ⟨h60, e1, e2, hV, hP, d1, d2, d3⟩ := h
  exact ⟨h60, e1, e2, hV, hP, d1, d2, rfl⟩
theorem R_stopM {S : KS} {T : MS} {m : Nat} {v : Int32} (h : RelM S T m) (e : T.stop = v) : RelM S (T.set_stop v) m := by
  obtain ⟨h60, e1, e2, hV, hP, d1, d2, d3⟩ := h
  exact ⟨h60, e1, e2, hV, hP, d1, d2, d3.trans e⟩
theorem VN.le {m m' : Nat} {x : Int32} (h : VN m x) (hm : m ≤ m') : VN m' x := by
  rcases h with h | ⟨j, h1, h2⟩
  · exact Or.inl h
  · exact Or.inr ⟨j, by omega, h2⟩
theorem step_1 {S : KS} {p k j : Nat} (hp : p < 6) (hk : k ≤ 12) (e : S.plen p = nI k) (hj : j < k) : f_X0_hasStep S (nI p) (nI j) = 1 := by
  unfold f_X0_hasStep
  rw [hasP_eq, show (5 : Int32) = nI 6 - 1 from by decide, isIn_1 (by omega) hp, if_neg n10, if_neg (nI_pos (by omega)), cl1 (by omega), e, if_neg (nI_ge hj (by omega))]
/-- the two ends of a step that is played: what the class and the reference do next -/
theorem play_step {S : KS} {T : MS} {m p k w n j : Nat} {x2 x3 y nn : Int32} (h : RelM S T m) (hp : p < 6) (hk : k ≤ 12) (hj : j < k) (hn : j + (n + 1) = 13) (hw : w ≤ 12) (h2 : VN m x2) (h3 : VN m x3) (hy : VN m y) (hst : T.steps p = nI k) (hs : T.stop = -1)
    (ih : ∀ (S : KS) (T : MS) (x3 : Int32) (m : Nat), RelM S T m → VN m x2 → VN m x3 → T.steps p = nI k → T.stop = -1 → EqO (f_X2_play_c42 n S (nI p) x2 x3 (nI k) (j + 1)) (f_X3_play_c30 n T (nI p) x2 x3 (j + 1))) :
    EqO (if (f_X2_isFault ((f_X2_noted ((f_X2_answerOf S (nI w) x3 y nn).2) ((f_X2_answerOf S (nI w) x3 y nn).1)).1)) = 0 then (f_X2_play_c42 n ((f_X2_noted ((f_X2_answerOf S (nI w) x3 y nn).2) ((f_X2_answerOf S (nI w) x3 y nn).1)).2) (nI p) x2 ((f_X2_noted ((f_X2_answerOf S (nI w) x3 y nn).2) ((f_X2_answerOf S (nI w) x3 y nn).1)).1) (nI k) (j + 1)) else ((f_X2_noted ((f_X2_answerOf S (nI w) x3 y nn).2) ((f_X2_answerOf S (nI w) x3 y nn).1)).1, ((f_X2_noted ((f_X2_answerOf S (nI w) x3 y nn).2) ((f_X2_answerOf S (nI w) x3 y nn).1)).2).set_stop (nI j)))
      (if -10 ≤ ((f_X3_noted ((f_X3_work T (nI w) x3 y nn).2) ((f_X3_work T (nI w) x3 y nn).1)).1) then (f_X3_play_c30 n (((f_X3_noted ((f_X3_work T (nI w) x3 y nn).2) ((f_X3_work T (nI w) x3 y nn).1)).2).set_stop (-1)) (nI p) x2 ((f_X3_noted ((f_X3_work T (nI w) x3 y nn).2) ((f_X3_work T (nI w) x3 y nn).1)).1) (j + 1)) else (f_X3_play_c30 n (((f_X3_noted ((f_X3_work T (nI w) x3 y nn).2) ((f_X3_work T (nI w) x3 y nn).1)).2).set_stop (nI j)) (nI p) x2 ((f_X3_noted ((f_X3_work T (nI w) x3 y nn).2) ((f_X3_work T (nI w) x3 y nn).1)).1) (j + 1))) := by
  obtain ⟨e, m', hmm, hR, hsp, hv⟩ := op_work (n := nn) h hw h3 hy
  rw [e]
  generalize f_X2_answerOf S (nI w) x3 y nn = A at *
  generalize f_X3_work T (nI w) x3 y nn = B at *
  obtain ⟨n1, n2, n3, n4⟩ := op_noted B.1 hR
  generalize f_X2_noted A.2 B.1 = C at *
  generalize f_X3_noted B.2 B.1 = D at *
  rw [n1, n2]
  unfold f_X2_isFault
  have hD1 : D.2.steps p = nI k := by rw [n4.1, hsp.1, hst]
  have hD2 : D.2.stop = -1 := by rw [n4.2, hsp.2, hs]
  by_cases c : -10 ≤ B.1
  · rw [if_pos c, if_pos rfl, if_pos c]
    exact ih _ _ _ m' (R_stopM n3 hD2) (h2.le hmm) (hv c) hD1 rfl
  · rw [if_neg c, if_neg n10, if_neg c]
    cases n with
    | zero => omega
    | succ n =>
      have e30 : f_X3_play_c30 (n + 1) (D.2.set_stop (nI j)) (nI p) x2 B.1 (j + 1) = (B.1, D.2.set_stop (nI j)) := by
        simp only [f_X3_play_c30]
        by_cases cs : (D.2.set_stop (nI j)).steps (nI p).toNatClampNeg ≤ nI (j + 1)
        · rw [if_pos cs]
        · rw [if_neg cs, MS.stop_set_stop, if_neg (nI_ne_m1 (by omega))]
      rw [e30]
      exact ⟨rfl, m', R_stop _ n3⟩
theorem play_at {p k : Nat} {x2 : Int32} (hp : p < 6) (hk : k ≤ 12) : ∀ (n j : Nat), j + n = 13 → j ≤ k → ∀ (S : KS) (T : MS) (x3 : Int32) (m : Nat), RelM S T m → VN m x2 → VN m x3 → T.steps p = nI k → T.stop = -1 → EqO (f_X2_play_c42 n S (nI p) x2 x3 (nI k) j) (f_X3_play_c30 n T (nI p) x2 x3 j) := by
  intro n
  induction n with
  | zero => intro j h1 h2; exact absurd h1 (by omega)
  | succ n ih =>
    intro j h1 hjk S T x3 m h h2 h3 hst hs
    by_cases cc : nI k ≤ nI j
    · have e1 : f_X2_play_c42 (n + 1) S (nI p) x2 x3 (nI k) j = (x3, S) := by simp only [f_X2_play_c42, if_pos cc]
      have e2 : f_X3_play_c30 (n + 1) T (nI p) x2 x3 j = (x3, T) := by
        simp only [f_X3_play_c30]
        rw [cl1 (by omega), hst, if_pos cc]
      rw [e1, e2]; exact bad h
    · have hj : j < k := Nat.not_le.mp (fun q => cc ((nI_leI (by omega) (by omega)).mpr q))
      obtain ⟨k2, b1, b2, b3, b4⟩ := h.2.2.2.2.1 p hp
      have ek : k2 = k := (nI_eq (by omega) (by omega)).mp (b3.symm.trans hst)
      subst ek
      obtain ⟨d1, d2, d3, d4, w, hw, d5⟩ := b4 j hj
      have ea : f_X0_actOf S (nI p) (nI j) = nI w := by
        unfold f_X0_actOf
        rw [step_1 hp hk b2 hj, if_neg n10, kp (by omega) (by omega), d1, d5]
      have ey : f_X0_yOf S (nI p) (nI j) = T.soth (12 * p + j) := by
        unfold f_X0_yOf
        rw [step_1 hp hk b2 hj, if_neg n10, kp (by omega) (by omega), d2]
      have en : f_X0_nOf S (nI p) (nI j) = T.snum (12 * p + j) := by
        unfold f_X0_nOf
        rw [step_1 hp hk b2 hj, if_neg n10, kp (by omega) (by omega), d3]
      have ih' := ih (j + 1) (by omega) (by omega)
      simp only [f_X2_play_c42, f_X3_play_c30]
      rw [cl1 (by omega), hst, if_neg cc, if_neg cc, if_pos hs, mp (by omega) (by omega), ea, ey, en, d5]
      by_cases cy : T.soth (12 * p + j) = -2
      · rw [if_pos cy, if_pos cy]
        exact play_step h hp hk hj (by omega) hw h2 h3 h2 hst hs ih'
      · rw [if_neg cy, if_neg cy]
        have hy : VN m (T.soth (12 * p + j)) := by
          rcases d4 with q | q
          · exact absurd q cy
          · exact q
        exact play_step h hp hk hj (by omega) hw h2 h3 hy hst hs ih'
theorem op_play {S : KS} {T : MS} {m : Nat} (x1 x2 : Int32) (h : RelM S T m) : EqO (f_X2_play S x1 x2) (f_X3_play T x1 x2) := by
  unfold f_X2_play f_X3_play
  rw [hasP_eq]
  by_cases c : f_X3_isIn x1 0 5 = 0
  · rw [if_pos c, if_pos c]; exact bad h
  rw [if_neg c, if_neg c]
  by_cases hx : VN m x2
  · rw [vnK_1 h.2.1 h.1 hx, mayBe_1 h.2.2.1 h.1 hx, if_neg n10, if_neg n10]
    obtain ⟨p, -, hp, rfl⟩ := isIn_rng c (a := 0) (b := 5) rfl rfl
    obtain ⟨k, b1, b2, b3, b4⟩ := h.2.2.2.2.1 p (by omega)
    have el : f_X0_lengthOf (S.set_stop (-1)) (nI p) = nI k := by
      unfold f_X0_lengthOf
      rw [hasP_eq, if_neg c, cl1 (by omega), KS.plen_set_stop, b2]
    rw [el]
    exact play_at (by omega) b1 13 0 rfl (by omega) _ _ _ m (R_stop (-1) h) hx hx b3 rfl
  · rw [vnK_0 h.2.1 h.1 hx, mayBe_0 h.2.2.1 h.1 hx, if_pos rfl, if_pos rfl]; exact bad h

