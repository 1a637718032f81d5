theorem dropAll_at : ∀ (n : Nat) (S : KS) (j : Nat), j + n = 7 → j ≤ 6 → ∃ P, f_X0_dropAll_c2 n S j = S.set_plen P ∧ ∀ p, P p = if j ≤ p ∧ p < 6 then 0 else S.plen p := by
  intro n
  induction n with
  | zero => intro S j h1 h2; exact absurd h1 (by omega)
  | succ n ih =>
    intro S j h1 h2
    by_cases c : (6 : Int32) ≤ nI j
    · have hc := (nI_leI (a := 6) (b := j) (by decide) (by omega)).mp c
      exact ⟨S.plen, by simp only [f_X0_dropAll_c2, if_pos c]; rfl, fun q => by rw [if_neg (by omega)]⟩
    · have hc : ¬ 6 ≤ j := fun q => c ((nI_leI (a := 6) (b := j) (by decide) (by omega)).mpr q)
      obtain ⟨C, e, hC⟩ := ih (S.set_plen (upd S.plen j 0)) (j + 1) (by omega) (by omega)
      refine ⟨C, ?_, fun q => ?_⟩
      · simp only [f_X0_dropAll_c2, if_neg c]
        rw [cl1 (by omega), e]
        rfl
      · rw [hC q, KS.plen_set_plen, upd_at]
        by_cases h3 : q = j
        · rw [if_pos (show j ≤ q ∧ q < 6 by omega), if_pos h3, if_neg (by omega)]
        · rw [if_neg h3]
          by_cases h4 : j + 1 ≤ q ∧ q < 6
          · rw [if_pos h4, if_pos (by omega)]
          · rw [if_neg h4, if_neg (by omega)]
theorem clear_at (x : Int32) : ∀ (n : Nat) (T : MS) (j : Nat), j + n = 7 → j ≤ 6 → ∃ P, f_X3_clear_c12 n T x j = (x, T.set_steps P) ∧ ∀ p, P p = if j ≤ p ∧ p < 6 then 0 else T.steps p := by
  intro n
  induction n with
  | zero => intro T j h1 h2; exact absurd h1 (by omega)
  | succ n ih =>
    intro T j h1 h2
    by_cases c : (6 : Int32) ≤ nI j
    · have hc := (nI_leI (a := 6) (b := j) (by decide) (by omega)).mp c
      exact ⟨T.steps, by simp only [f_X3_clear_c12, if_pos c]; rfl, fun q => by rw [if_neg (by omega)]⟩
    · have hc : ¬ 6 ≤ j := fun q => c ((nI_leI (a := 6) (b := j) (by decide) (by omega)).mpr q)
      obtain ⟨C, e, hC⟩ := ih (T.set_steps (upd T.steps j 0)) (j + 1) (by omega) (by omega)
      refine ⟨C, ?_, fun q => ?_⟩
      · simp only [f_X3_clear_c12, if_neg c]
        rw [cl1 (by omega), e]
        rfl
      · rw [hC q, MS.steps_set_steps, upd_at]
        by_cases h3 : q = j
        · rw [if_pos (show j ≤ q ∧ q < 6 by omega), if_pos h3, if_neg (by omega)]
        · rw [if_neg h3]
          by_cases h4 : j + 1 ≤ q ∧ q < 6
          · rw [if_pos h4, if_pos (by omega)]
          · rw [if_neg h4, if_neg (by omega)]
theorem op_clear {S : KS} {T : MS} {m : Nat} (h : RelM S T m) : EqO (f_X2_clear S) (f_X3_clear T) := by
  unfold f_X2_clear f_X3_clear f_X0_dropAll f_X1_forgetAll
  obtain ⟨P, e1, hP⟩ := dropAll_at 7 S 0 rfl (by decide)
  obtain ⟨Q, e2, hQ⟩ := clear_at T.vals 7 (T.set_vals 0) 0 rfl (by decide)
  rw [e1, e2]
  refine ⟨?_, 0, by omega, rfl, rfl, fun x hx => by omega, fun p hp => ⟨0, by omega, ?_, ?_, fun i hi => by omega⟩, h.2.2.2.2.2⟩
  · show S.made = T.vals
    rw [h.2.1, h.2.2.1]
  · show P p = nI 0
    rw [hP, if_pos (by omega)]; rfl
  · show Q p = nI 0
    rw [hQ, if_pos (by omega)]; rfl
theorem hasP_eq (S : KS) (x : Int32) : f_X0_has S x = f_X3_isIn x 0 5 := by
  unfold f_X0_has f_X3_isIn
  by_cases c : x < 0
  · rw [if_pos c, if_pos c]
  · rw [if_neg c, if_neg c]
    obtain ⟨n, hn, rfl⟩ := nI_of c
    by_cases h6 : 6 ≤ n
    · rw [if_pos (show (6 : Int32) ≤ nI n from nI_le (a := 6) h6 hn), if_pos (show (5 : Int32) < nI n from nI_lt (a := 5) (by omega) hn)]
    · rw [if_neg (show ¬ (6 : Int32) ≤ nI n from nI_ge (a := n) (b := 6) (by omega) (by decide)), if_neg (show ¬ (5 : Int32) < nI n from nI_nlt (a := 5) (b := n) (by omega) (by decide))]
theorem R_plen {S : KS} {T : MS} {m p : Nat} (h : RelM S T m) : RelM (S.set_plen (upd S.plen p 0)) (T.set_steps (upd T.steps p 0)) m := by
  obtain ⟨h60, e1, e2, hV, hP, hN⟩ := h
  refine ⟨h60, e1, e2, hV, fun q hq => ?_, hN⟩
  obtain ⟨k, b1, b2, b3, b4⟩ := hP q hq
  by_cases hqp : q = p
  · subst hqp
    exact ⟨0, by omega, by rw [KS.plen_set_plen, pk_us]; rfl, by rw [MS.steps_set_steps, pk_us]; rfl, fun i hi => by omega⟩
  · exact ⟨k, b1, by rw [KS.plen_set_plen, pk_un hqp]; exact b2, by rw [MS.steps_set_steps, pk_un hqp]; exact b3, b4⟩
theorem op_empty {S : KS} {T : MS} {m : Nat} (x1 : Int32) (h : RelM S T m) : EqO (f_X2_empty S x1) (f_X3_empty T x1) := by
  unfold f_X2_empty f_X3_empty f_X0_drop f_X0_lengthOf
  rw [hasP_eq]
  by_cases c : f_X3_isIn x1 0 5 = 0
  · rw [if_pos c, if_pos c]; exact bad h
  · rw [if_neg c, if_neg c, if_neg c, if_neg c]
    obtain ⟨p, -, hp, rfl⟩ := isIn_rng c (a := 0) (b := 5) rfl rfl
    obtain ⟨k, b1, b2, b3, b4⟩ := h.2.2.2.2.1 p (by omega)
    rw [cl1 (by omega)]
    refine ⟨?_, m, R_plen h⟩
    show S.plen p = T.steps p
    rw [b2, b3]
theorem R_step {S : KS} {T : MS} {m p k : Nat} {a y n : Int32} (h : RelM S T m) (hp : p < 6) (e3 : S.plen p = nI k) (e4 : T.steps p = nI k) (hk : k < 12) (hy : OT m y) (ha : ∃ w, w ≤ 12 ∧ a = nI w) : RelM ((((S.set_pact (upd S.pact (12 * p + k) a)).set_py (upd S.py (12 * p + k) y)).set_pn (upd S.pn (12 * p + k) n)).set_plen (upd S.plen p (nI (k + 1)))) ((((T.set_sact (upd T.sact (12 * p + k) a)).set_soth (upd T.soth (12 * p + k) y)).set_snum (upd T.snum (12 * p + k) n)).set_steps (upd T.steps p (nI (k + 1)))) m := by
  obtain ⟨h60, e1, e2, hV, hP, hN⟩ := h
  refine ⟨h60, e1, e2, hV, fun q hq => ?_, hN⟩
  obtain ⟨k2, b1, b2, b3, b4⟩ := hP q hq
  have hpa : ((((S.set_pact (upd S.pact (12 * p + k) a)).set_py (upd S.py (12 * p + k) y)).set_pn (upd S.pn (12 * p + k) n)).set_plen (upd S.plen p (nI (k + 1)))).pact = upd S.pact (12 * p + k) a := rfl
  have hpy : ((((S.set_pact (upd S.pact (12 * p + k) a)).set_py (upd S.py (12 * p + k) y)).set_pn (upd S.pn (12 * p + k) n)).set_plen (upd S.plen p (nI (k + 1)))).py = upd S.py (12 * p + k) y := rfl
  have hpn : ((((S.set_pact (upd S.pact (12 * p + k) a)).set_py (upd S.py (12 * p + k) y)).set_pn (upd S.pn (12 * p + k) n)).set_plen (upd S.plen p (nI (k + 1)))).pn = upd S.pn (12 * p + k) n := rfl
  have hpl : ((((S.set_pact (upd S.pact (12 * p + k) a)).set_py (upd S.py (12 * p + k) y)).set_pn (upd S.pn (12 * p + k) n)).set_plen (upd S.plen p (nI (k + 1)))).plen = upd S.plen p (nI (k + 1)) := rfl
  have hta : ((((T.set_sact (upd T.sact (12 * p + k) a)).set_soth (upd T.soth (12 * p + k) y)).set_snum (upd T.snum (12 * p + k) n)).set_steps (upd T.steps p (nI (k + 1)))).sact = upd T.sact (12 * p + k) a := rfl
  have hty : ((((T.set_sact (upd T.sact (12 * p + k) a)).set_soth (upd T.soth (12 * p + k) y)).set_snum (upd T.snum (12 * p + k) n)).set_steps (upd T.steps p (nI (k + 1)))).soth = upd T.soth (12 * p + k) y := rfl
  have htn : ((((T.set_sact (upd T.sact (12 * p + k) a)).set_soth (upd T.soth (12 * p + k) y)).set_snum (upd T.snum (12 * p + k) n)).set_steps (upd T.steps p (nI (k + 1)))).snum = upd T.snum (12 * p + k) n := rfl
  have htl : ((((T.set_sact (upd T.sact (12 * p + k) a)).set_soth (upd T.soth (12 * p + k) y)).set_snum (upd T.snum (12 * p + k) n)).set_steps (upd T.steps p (nI (k + 1)))).steps = upd T.steps p (nI (k + 1)) := rfl
  rw [hpa, hpy, hpn, hpl, hta, hty, htn, htl]
  by_cases hqp : q = p
  · subst hqp
    have hk2 : k2 = k := (nI_eq (by omega) (by omega)).mp (b2.symm.trans e3)
    subst hk2
    refine ⟨k2 + 1, by omega, by rw [pk_us], by rw [pk_us], fun i hi => ?_⟩
    by_cases hik : i = k2
    · subst hik
      rw [pk_us, pk_us, pk_us, pk_us, pk_us, pk_us]
      exact ⟨rfl, rfl, rfl, hy, ha⟩
    · rw [pk_un (by omega), pk_un (by omega), pk_un (by omega), pk_un (by omega), pk_un (by omega), pk_un (by omega)]
      exact b4 i (by omega)
  · refine ⟨k2, b1, by rw [pk_un hqp]; exact b2, by rw [pk_un hqp]; exact b3, fun i hi => ?_⟩
    rw [pk_un (by omega), pk_un (by omega), pk_un (by omega), pk_un (by omega), pk_un (by omega), pk_un (by omega)]
    exact b4 i hi
/-- a step that is as told, on both sides -/
theorem step_ok {S : KS} {T : MS} {m p : Nat} {a y n : Int32} (h : RelM S T m) (hp : p < 6) (hy : OT m y) (ha : ∃ w, w ≤ 12 ∧ a = nI w) : EqO ((f_X0_append S (nI p) a y n).1, (f_X0_append S (nI p) a y n).2) (if (T.steps (nI p).toNatClampNeg) = 12 then ((-4), T) else ((((((T.set_sact (upd T.sact ((12 * (nI p)) + (T.steps (nI p).toNatClampNeg)).toNatClampNeg a)).set_soth (upd T.soth ((12 * (nI p)) + (T.steps (nI p).toNatClampNeg)).toNatClampNeg y)).set_snum (upd T.snum ((12 * (nI p)) + (T.steps (nI p).toNatClampNeg)).toNatClampNeg n)).set_steps (upd T.steps (nI p).toNatClampNeg ((T.steps (nI p).toNatClampNeg) + 1))).steps (nI p).toNatClampNeg), (((T.set_sact (upd T.sact ((12 * (nI p)) + (T.steps (nI p).toNatClampNeg)).toNatClampNeg a)).set_soth (upd T.soth ((12 * (nI p)) + (T.steps (nI p).toNatClampNeg)).toNatClampNeg y)).set_snum (upd T.snum ((12 * (nI p)) + (T.steps (nI p).toNatClampNeg)).toNatClampNeg n)).set_steps (upd T.steps (nI p).toNatClampNeg ((T.steps (nI p).toNatClampNeg) + 1)))) := by
  obtain ⟨k, b1, b2, b3, b4⟩ := h.2.2.2.2.1 p hp
  have c0 : ¬ f_X0_has S (nI p) = 0 := by
    rw [hasP_eq, show (5 : Int32) = nI 6 - 1 from by decide, isIn_1 (by omega) hp]; exact n10
  simp only [f_X0_append, if_neg c0, KS.py_set_pact, KS.pn_set_py, KS.pn_set_pact, KS.plen_set_pn, KS.plen_set_py, KS.plen_set_pact, KS.plen_set_plen, MS.steps_set_steps]
  rw [cl1 (by omega), b2, b3, kp (by omega) (by omega), mp (by omega) (by omega), nI_1, pk_us, pk_us]
  by_cases hk : k = 12
  · rw [if_neg (show ¬ nI k < 12 from nI_nlt (a := k) (b := 12) (by omega) (by omega)), if_pos (by rw [hk]; rfl)]; exact bad h
  · rw [if_pos (show nI k < 12 from nI_lt (a := k) (b := 12) (by omega) (by decide)), if_neg (show ¬ nI k = 12 from fun q => hk ((nI_eq (a := k) (b := 12) (by omega) (by decide)).mp q))]
    exact ⟨rfl, m, R_step h hp b2 b3 (by omega) hy ha⟩
theorem OT_of {m : Nat} {y : Int32} (h : VN m y) : OT m y := Or.inr h
theorem op_step {S : KS} {T : MS} {m : Nat} (x1 x2 x3 x4 : Int32) (h : RelM S T m) : EqO (f_X2_step S x1 x2 x3 x4) (f_X3_step T x1 x2 x3 x4) := by
  simp only [f_X2_step, f_X3_step, MS.soth_set_sact, MS.snum_set_soth, MS.snum_set_sact, MS.steps_set_snum, MS.steps_set_soth, MS.steps_set_sact]
  rw [hasP_eq, act_isIn]
  by_cases c1 : f_X3_isIn x1 0 5 = 0
  · simp only [if_pos c1, ite_self]; exact bad h
  by_cases c2 : f_X3_isIn x2 0 12 = 0
  · simp only [if_neg c1, if_pos c2, ite_self]; exact bad h
  simp only [if_neg c1, if_neg c2]
  obtain ⟨p, -, hp, rfl⟩ := isIn_rng c1 (a := 0) (b := 5) rfl rfl
  have hact : ∃ w, w ≤ 12 ∧ x2 = nI w := by
    obtain ⟨w, -, hw, e⟩ := isIn_rng c2 (a := 0) (b := 12) rfl rfl
    exact ⟨w, hw, e⟩
  by_cases c3 : x3 = -2
  · rw [if_pos c3, if_pos c3]
    exact step_ok h (by omega) (Or.inl c3) hact
  · rw [if_neg c3, if_neg c3]
    by_cases hv : VN m x3
    · rw [vnK_1 h.2.1 h.1 hv, mayBe_1 h.2.2.1 h.1 hv, if_neg n10, if_neg n10]
      exact step_ok h (by omega) (OT_of hv) hact
    · rw [vnK_0 h.2.1 h.1 hv, mayBe_0 h.2.2.1 h.1 hv, if_pos rfl, if_pos rfl]; exact bad h
theorem plc_dec : ∀ f, f < 11 → f_X2_isBoardForm (nI f) = (if nI f = 3 then 1 else (if nI f < 6 then 0 else 1)) := by decide
theorem plc_eq {T : MS} {j f : Nat} (hj : j < 60) (hf : f ≤ 10) (e : T.forms j = nI f) : f_X3_hasPlaces T (nI j) = f_X2_isBoardForm (nI f) := by
  unfold f_X3_hasPlaces
  rw [cl1 (by omega), e, plc_dec f (by omega)]
theorem brd_3 {f : Nat} (hf : f ≤ 10) (h : ¬ f_X2_isBoardForm (nI f) = 0) : 3 ≤ f := by
  have : ∀ f, f ≤ 10 → ¬ f_X2_isBoardForm (nI f) = 0 → 3 ≤ f := by decide
  exact this f hf h
theorem op_tap {S : KS} {T : MS} {m : Nat} (x n : Int32) (h : RelM S T m) (hx : VN m x) : f_X2_tap S x n = f_X3_tap T x n := by
  unfold f_X2_tap f_X3_tap
  rcases hx with rfl | ⟨j, hj, rfl⟩
  · rw [if_pos rfl, if_pos rfl]; rfl
  · have h60 := h.1
    obtain ⟨f, k, hf, hk, a3, a4, a5, a6, a7, a8, a9⟩ := h.2.2.2.1 j hj
    rw [if_neg (nI_ne_m1 (by omega)), if_neg (nI_ne_m1 (by omega)), formK h.2.1 h.1 hj a3, plc_eq (by omega) hf a4, cl1 (by omega), a6]
    by_cases c : f_X2_isBoardForm (nI f) = 0
    · rw [if_pos c, if_pos c]; rfl
    · rw [if_neg c, if_neg c]
      by_cases hi : ∃ i, i < k ∧ n = nI i
      · obtain ⟨i, hi, rfl⟩ := hi
        rw [place_1 h.2.1 h60 hj hk a5 hi, if_neg n10, isIn_1 (by omega) hi, if_neg n10, placedK h.2.1 h60 hj hk a5 hi, mx (by omega) (by omega), (a9 (brd_3 hf c) i hi).1, i32_rt]
        rfl
      · rw [place_0 h.2.1 h60 hj hk a5 hi, if_pos rfl, isIn_0 (by omega) hi, if_pos rfl]; rfl
/-! LAY -/
def askF (f : Nat) : Int32 := if f_X3_formIs (nI f) 3 = 0 then (if f_X3_formIs (nI f) 9 = 0 then (if f_X3_formIs (nI f) 8 = 0 then 4 else (if f_X3_formIs (nI f) 6 = 0 then 11 else 4)) else 6) else 1
theorem ite01 {c : Int32} : ((if c = 0 then (0 : Int32) else 1) = 0) ↔ c = 0 := by
  by_cases h : c = 0
  · rw [if_pos h]; exact ⟨fun _ => h, fun _ => rfl⟩
  · rw [if_neg h]; exact ⟨fun q => absurd q n10, fun q => absurd q h⟩
theorem ask_K {S : KS} {T : MS} {m j f : Nat} (h : RelM S T m) (hj : j < m) (a4 : T.forms j = nI f) : f_X2_askedByLay S (nI j) = askF f := by
  have h60 := h.1
  have hv : VN m (nI j) := Or.inr ⟨j, hj, rfl⟩
  have e3 := (isA_eq (v := 3) h hv ⟨3, by decide, rfl⟩).trans (isOf_nI (by omega) a4)
  have e9 := (isA_eq (v := 9) h hv ⟨9, by decide, rfl⟩).trans (isOf_nI (by omega) a4)
  have e8 := (isA_eq (v := 8) h hv ⟨8, by decide, rfl⟩).trans (isOf_nI (by omega) a4)
  have e6 := (isA_eq (v := 6) h hv ⟨6, by decide, rfl⟩).trans (isOf_nI (by omega) a4)
  unfold f_X2_askedByLay askF
  rw [e3, e9, e8, e6]
  simp only [ite01]
theorem ask_dec : ∀ f, f < 11 → askF f = (if nI f = 3 then 1 else (if f_X3_formIs (nI f) 9 = 0 then (if nI f = 8 then 11 else 4) else 6)) := by decide
theorem ask_rng : ∀ f, f < 11 → ∃ w, w < 12 ∧ askF f = nI w := by
  intro f hf
  have : ∀ f, f < 11 → askF f = nI 1 ∨ askF f = nI 4 ∨ askF f = nI 6 ∨ askF f = nI 11 := by decide
  rcases this f hf with h | h | h | h
  · exact ⟨1, by decide, h⟩
  · exact ⟨4, by decide, h⟩
  · exact ⟨6, by decide, h⟩
  · exact ⟨11, by decide, h⟩
theorem lay_M {T : MS} {j f : Nat} {y n : Int32} (hj : j < 60) (hf : f ≤ 10) (a4 : T.forms j = nI f) : f_X3_lay T (nI j) y n = f_X3_lay_c57 T (nI j) y n (askF f) := by
  unfold f_X3_lay
  rw [if_neg (nI_ne_m1 (by omega)), cl1 (by omega), a4, isOf_nI hj a4, ask_dec f (by omega)]
  by_cases c1 : nI f = 3
  · rw [if_pos c1, if_pos c1]
  · rw [if_neg c1, if_neg c1]
    by_cases c2 : f_X3_formIs (nI f) 9 = 0
    · rw [if_pos c2, if_pos rfl, if_pos c2]
      by_cases c3 : nI f = 8
      · rw [if_pos c3, if_pos c3]
      · rw [if_neg c3, if_neg c3]
    · rw [if_neg c2, if_neg n10, if_neg c2]
theorem take_dec : ∀ f, f < 11 → ¬ f_X2_isBoardForm (nI f) = 0 → f_X2_takenBy (nI f) = (if nI f = 3 then 1 else (if nI f = 4 then 7 else (if nI f = 5 then 7 else (if nI f = 6 then 4 else (if nI f = 7 then 5 else (if nI f = 8 then 11 else (if nI f = 9 then 6 else 7))))))) := by decide
theorem take_rng : ∀ f, f < 11 → ∃ w, w < 12 ∧ f_X2_takenBy (nI f) = nI w := by
  intro f hf
  have : ∀ f, f < 11 → f_X2_takenBy (nI f) = nI 1 ∨ f_X2_takenBy (nI f) = nI 4 ∨ f_X2_takenBy (nI f) = nI 5 ∨ f_X2_takenBy (nI f) = nI 6 ∨ f_X2_takenBy (nI f) = nI 7 ∨ f_X2_takenBy (nI f) = nI 11 := by decide
  rcases this f hf with h | h | h | h | h | h
  · exact ⟨1, by decide, h⟩
  · exact ⟨4, by decide, h⟩
  · exact ⟨5, by decide, h⟩
  · exact ⟨6, by decide, h⟩
  · exact ⟨7, by decide, h⟩
  · exact ⟨11, by decide, h⟩
theorem takes_M {T : MS} {j f : Nat} {y : Int32} (hj : j < 60) (hf : f ≤ 10) (a4 : T.forms j = nI f) (hb : ¬ f_X2_isBoardForm (nI f) = 0) : f_X3_takes T (nI j) y = f_X3_isOf T y (f_X2_takenBy (nI f)) := by
  unfold f_X3_takes
  rw [cl1 (by omega), a4, take_dec f (by omega) hb]
  by_cases c3 : nI f = 3
  · rw [if_pos c3, if_pos c3]
  rw [if_neg c3, if_neg c3]
  by_cases c4 : nI f = 4
  · rw [if_pos c4, if_pos c4]
  rw [if_neg c4, if_neg c4]
  by_cases c5 : nI f = 5
  · rw [if_pos c5, if_pos c5]
  rw [if_neg c5, if_neg c5]
  by_cases c6 : nI f = 6
  · rw [if_pos c6, if_pos c6]
  rw [if_neg c6, if_neg c6]
  by_cases c7 : nI f = 7
  · rw [if_pos c7, if_pos c7]
  rw [if_neg c7, if_neg c7]
  by_cases c8 : nI f = 8
  · rw [if_pos c8, if_pos c8]
  rw [if_neg c8, if_neg c8]
  by_cases c9 : nI f = 9
  · rw [if_pos c9, if_pos c9]
  rw [if_neg c9, if_neg c9]
theorem R_lay {S : KS} {T : MS} {m j i f k : Nat} {y : Int32} (h : RelM S T m) (hj : j < m) (e3 : T.forms j = nI f) (hf : 3 ≤ f) (hf2 : f ≤ 10) (hi : i < 8) (hy : Fit T m f y) : RelM (S.set_cells (vp_updL S.cells (8 * j + i) y.toInt64)) (T.set_lies (upd T.lies (8 * j + i) y)) m := by
  obtain ⟨h60, e1, e2, hV, hP, hN⟩ := h
  refine ⟨h60, e1, e2, fun x hx => ?_, hP, hN⟩
  obtain ⟨g, q, a1, a2, a3, a4, a5, a6, a7, a8, a9⟩ := hV x hx
  refine ⟨g, q, a1, a2, a3, a4, a5, a6, a7, fun h2 y hy => ?_, fun h3 z hz => ?_⟩
  · rw [KS.cells_set_cells, updL_at]
    have hne : ¬ 8 * x + y = 8 * j + i := fun hxy => by
      have : x = j := by omega
      subst this
      have := (nI_eq (by omega) (by omega)).mp (a4.symm.trans e3)
      omega
    rw [if_neg hne]
    exact a8 h2 y hy
  · rw [KS.cells_set_cells, MS.lies_set_lies, updL_at, upd_at]
    by_cases hxy : 8 * x + z = 8 * j + i
    · rw [if_pos hxy, if_pos hxy]
      have : x = j := by omega
      subst this
      have := (nI_eq (by omega) (by omega)).mp (a4.symm.trans e3)
      subst this
      exact ⟨rfl, hy⟩
    · rw [if_neg hxy, if_neg hxy]; exact a9 h3 z hz
theorem fit_dec1 : ∀ g, g < 11 → ¬ f_X3_formIs (nI g) 1 = 0 → nI g = nI 1 := by decide
theorem fit_dec4 : ∀ g, g < 11 → ¬ f_X3_formIs (nI g) 4 = 0 → nI g = nI 4 ∨ nI g = nI 5 := by decide
theorem fit_dec5 : ∀ g, g < 11 → ¬ f_X3_formIs (nI g) 5 = 0 → nI g = nI 5 := by decide
/-- what a place takes, fits -/
theorem fit_of {S : KS} {T : MS} {m f y : Nat} (h : RelM S T m) (hf : f ≤ 10) (hy : y < m) (c : ¬ f_X3_isOf T (nI y) (f_X2_takenBy (nI f)) = 0) : Fit T m f (nI y) := by
  have h60 := h.1
  obtain ⟨g, k, hg, hk, a3, a4, -⟩ := h.2.2.2.1 y hy
  rw [isOf_nI (by omega) a4] at c
  have c' : ¬ f_X3_formIs (nI g) (f_X2_takenBy (nI f)) = 0 := fun q => c (ite01.mpr q)
  refine Or.inr ⟨y, hy, rfl, fun h3 => ?_, fun h67 => ?_⟩
  · subst h3
    rw [a4]; exact fit_dec1 g (by omega) c'
  · rcases h67 with h6 | h7
    · subst h6
      rw [a4]; exact fit_dec4 g (by omega) c'
    · subst h7
      rw [a4]; exact Or.inr (fit_dec5 g (by omega) c')
theorem op_lay {S : KS} {T : MS} {m : Nat} (x y n : Int32) (h : RelM S T m) (hx : VN m x) (hy : VN m y) : EqW T m (f_X2_lay S x y n) (f_X3_lay T x y n) := by
  have h60 := h.1
  rcases hx with rfl | ⟨j, hj, rfl⟩
  · have hask : f_X2_askedByLay S (-1) = 4 := by
      have e : ∀ v, f_X1_isA S (-1) v = 0 := fun v => by
        unfold f_X1_isA
        rw [has_0 h.2.1 h60 (not_m1 h60), if_pos rfl]
      unfold f_X2_askedByLay
      rw [e, e, e, if_pos rfl, if_pos rfl, if_pos rfl]
    unfold f_X2_lay f_X3_lay f_X3_lay_c57 f_X3_lay_c77
    rw [hask]
    rcases hy with rfl | ⟨i, hi, rfl⟩
    · rw [noneOr_m1, if_neg n10, if_pos rfl, if_pos rfl, if_pos rfl, if_pos rfl]; exact badW h
    · rw [noneOr_nI (v := 4) h hi ⟨4, by decide, rfl⟩, if_pos rfl, if_pos rfl, if_neg (nI_ne_m1 (by omega)), if_pos rfl]
      by_cases c : f_X3_isOf T (nI i) 4 = 0
      · rw [if_pos c, if_pos c]; exact badW h
      · rw [if_neg c, if_neg c]; exact badW h
  · obtain ⟨f, k, hf, hk, a3, a4, a5, a6, a7, a8, a9⟩ := h.2.2.2.1 j hj
    rw [lay_M (by omega) hf a4]
    unfold f_X2_lay f_X3_lay_c57 f_X3_lay_c77
    rw [ask_K h hj a4, if_neg (nI_ne_m1 (by omega)), if_neg (nI_ne_m1 (by omega)), formK h.2.1 h60 hj a3, plc_eq (by omega) hf a4, cl1 (by omega), a6]
    rcases hy with rfl | ⟨y, hy, rfl⟩
    · rw [noneOr_m1, noneOr_m1, if_neg n10, if_neg n10, if_pos rfl, if_pos rfl]
      by_cases c : f_X2_isBoardForm (nI f) = 0
      · rw [if_pos c, if_pos c]; exact badW h
      · rw [if_neg c, if_neg c]
        by_cases hi : ∃ i, i < k ∧ n = nI i
        · obtain ⟨i, hi, rfl⟩ := hi
          rw [place_1 h.2.1 h60 hj hk a5 hi, if_neg n10, isIn_1 (by omega) hi, if_neg n10, putK _ h.2.1 h60 hj hk a5 hi, mx (by omega) (by omega), a3, cut_hi (by have := brd_3 hf c; omega) hf]
          exact ⟨rfl, m, Nat.le_refl _, R_lay (k := k) h hj a4 (brd_3 hf c) hf (by omega) (Or.inl rfl), ⟨rfl, rfl⟩, fun _ => Or.inr ⟨j, hj, rfl⟩⟩
        · rw [place_0 h.2.1 h60 hj hk a5 hi, if_pos rfl, isIn_0 (by omega) hi, if_pos rfl]; exact badW h
    · rw [noneOr_nI h hy (ask_rng f (by omega)), noneOr_nI h hy (take_rng f (by omega)), if_neg (nI_ne_m1 (by omega)), if_neg (nI_ne_m1 (by omega))]
      by_cases c0 : f_X3_isOf T (nI y) (askF f) = 0
      · rw [if_pos c0, if_pos c0]; exact badW h
      rw [if_neg c0, if_neg c0]
      by_cases c : f_X2_isBoardForm (nI f) = 0
      · rw [if_pos c, if_pos c]; exact badW h
      · rw [if_neg c, if_neg c, takes_M (by omega) hf a4 c]
        by_cases hi : ∃ i, i < k ∧ n = nI i
        · obtain ⟨i, hi, rfl⟩ := hi
          rw [place_1 h.2.1 h60 hj hk a5 hi, if_neg n10, isIn_1 (by omega) hi, if_neg n10]
          by_cases ct : f_X3_isOf T (nI y) (f_X2_takenBy (nI f)) = 0
          · rw [if_pos ct, if_pos ct]; exact badW h
          · rw [if_neg ct, if_neg ct, putK _ h.2.1 h60 hj hk a5 hi, mx (by omega) (by omega), a3, cut_hi (by have := brd_3 hf c; omega) hf]
            exact ⟨rfl, m, Nat.le_refl _, R_lay (k := k) h hj a4 (brd_3 hf c) hf (by omega) (fit_of h hf hy ct), ⟨rfl, rfl⟩, fun _ => Or.inr ⟨j, hj, rfl⟩⟩
        · rw [place_0 h.2.1 h60 hj hk a5 hi, if_pos rfl, isIn_0 (by omega) hi, if_pos rfl]; exact badW h
