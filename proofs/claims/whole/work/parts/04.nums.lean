/-! numbers: ranges of indices -/
theorem lt0 {x : Int32} (h : ¬ x < 0) : 0 ≤ x.toInt := by
  rw [Int32.lt_iff_toInt_lt] at h
  have : (0 : Int32).toInt = 0 := by decide
  omega
theorem nle {x k : Int32} (h : ¬ k ≤ x) : x.toInt < k.toInt := by
  rw [Int32.le_iff_toInt_le] at h
  omega
theorem nlt {x k : Int32} (h : ¬ x < k) : k.toInt ≤ x.toInt := by
  rw [Int32.lt_iff_toInt_lt] at h
  omega
theorem in2 {x : Int32} {n : Nat} (h0 : 0 ≤ x.toInt) (h1 : x.toInt < n) : vp_in x n := vp_in_iff.mpr ⟨h0, h1⟩
theorem ne_ite {p : Prop} [Decidable p] {q : Int32} (h : ¬ (if p then (0 : Int32) else q) = 0) : ¬ p ∧ ¬ q = 0 := by
  by_cases hp : p
  · rw [if_pos hp] at h; exact absurd rfl h
  · rw [if_neg hp] at h; exact ⟨hp, h⟩
theorem ix8 {x i : Int32} (hx : vp_in x 60) (hi : vp_in i 8) : vp_in (x * 8 + i) 480 := by
  obtain ⟨X, h1, rfl⟩ := vp_in_of hx (by decide)
  obtain ⟨I, h2, rfl⟩ := vp_in_of hi (by decide)
  rw [show (8 : Int32) = nI 8 from rfl, pk_mul, nI_add]
  exact vp_in_nI (by omega) (by decide)
theorem ix8' {x i : Int32} (hx : vp_in x 60) (hi : vp_in i 8) : vp_in (8 * x + i) 480 := by
  obtain ⟨X, h1, rfl⟩ := vp_in_of hx (by decide)
  obtain ⟨I, h2, rfl⟩ := vp_in_of hi (by decide)
  rw [show (8 : Int32) = nI 8 from rfl, pk_mul, nI_add]
  exact vp_in_nI (by omega) (by decide)
theorem ix80 {x : Int32} (hx : vp_in x 60) : vp_in (8 * x) 480 := by
  obtain ⟨X, h1, rfl⟩ := vp_in_of hx (by decide)
  rw [show (8 : Int32) = nI 8 from rfl, pk_mul]
  exact vp_in_nI (by omega) (by decide)
theorem ix12 {x i : Int32} (hx : vp_in x 6) (hi : vp_in i 12) : vp_in (x * 12 + i) 72 := by
  obtain ⟨X, h1, rfl⟩ := vp_in_of hx (by decide)
  obtain ⟨I, h2, rfl⟩ := vp_in_of hi (by decide)
  rw [show (12 : Int32) = nI 12 from rfl, pk_mul, nI_add]
  exact vp_in_nI (by omega) (by decide)
theorem ix12' {x i : Int32} (hx : vp_in x 6) (hi : vp_in i 12) : vp_in (12 * x + i) 72 := by
  obtain ⟨X, h1, rfl⟩ := vp_in_of hx (by decide)
  obtain ⟨I, h2, rfl⟩ := vp_in_of hi (by decide)
  rw [show (12 : Int32) = nI 12 from rfl, pk_mul, nI_add]
  exact vp_in_nI (by omega) (by decide)
theorem jl8 {x : Int32} {j : Nat} (c : ¬ x ≤ nI j) (hx : x.toInt ≤ 8) (hj : j ≤ 8) : j < 8 := by
  have h := nle c
  rw [nI_toInt (by omega)] at h
  omega
theorem jl12 {x : Int32} {j : Nat} (c : ¬ x ≤ nI j) (hx : x.toInt ≤ 12) (hj : j ≤ 12) : j < 12 := by
  have h := nle c
  rw [nI_toInt (by omega)] at h
  omega
theorem jin {j k : Nat} (h : j < k) (hk : k < 2 ^ 31) : vp_in (nI j) k := vp_in_nI h hk
theorem jl6 {j : Nat} (c : ¬ (6 : Int32) ≤ nI j) (hj : j ≤ 6) : j < 6 := by
  have h := nle c
  rw [nI_toInt (by omega)] at h
  have : (6 : Int32).toInt = 6 := by decide
  omega
theorem add1 {x : Int32} {k : Int} (h0 : 0 ≤ x.toInt) (h1 : x.toInt < k) (hk : k ≤ 1000) : (x + 1).toInt = x.toInt + 1 := by
  obtain ⟨X, h2, rfl⟩ := nI_of (x := x) (by rw [Int32.lt_iff_toInt_lt]; have : (0 : Int32).toInt = 0 := by decide
                                            omega)
  rw [nI_toInt h2] at h1 ⊢
  rw [nI_1, nI_toInt (by omega)]
  omega
