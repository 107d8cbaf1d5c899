/-! the reference's small questions -/
theorem m_isWalker {σ : Mm} {T : Tw} (h : TM σ T) (x : Int32) : f_X12_isWalker x σ = some ((if ¬ x < 0 ∧ x < nI (tW T) then 1 else 0), σ) := by
  have n2 : (2 : Int32).toNatClampNeg = 2 := rfl
  unfold f_X12_isWalker
  simp only [jn_e, ck_t (show inb 2 8 = true from rfl), n2, h.2.2.1]
  by_cases a : x < 0
  · simp [a]
  · by_cases b : x < nI (tW T)
    · simp [a, b]
    · simp [b]
theorem m_isLane {σ : Mm} {T : Tw} (h : TM σ T) (x : Int32) : f_X12_isLane x σ = some ((if ¬ x < 0 ∧ x < nI (tL T) then 1 else 0), σ) := by
  have n1 : (1 : Int32).toNatClampNeg = 1 := rfl
  unfold f_X12_isLane
  simp only [jn_e, ck_t (show inb 1 8 = true from rfl), n1, h.2.1]
  by_cases a : x < 0
  · simp [a]
  · by_cases b : x < nI (tL T)
    · simp [a, b]
    · simp [b]
theorem m_isPlace {σ : Mm} {T : Tw} (h : TM σ T) (x : Int32) : f_X12_isPlace x σ = some ((if ¬ x < 0 ∧ x < nI (tP T) then 1 else 0), σ) := by
  have n0 : (0 : Int32).toNatClampNeg = 0 := rfl
  unfold f_X12_isPlace
  simp only [jn_e, ck_t (show inb 0 8 = true from rfl), n0, h.1]
  by_cases a : x < 0
  · simp [a]
  · by_cases b : x < nI (tP T)
    · simp [a, b]
    · simp [b]
theorem m_within (x a b : Int32) (σ : Mm) : f_X12_within x a b σ = some ((if ¬ x < a ∧ ¬ b < x then 1 else 0), σ) := by
  unfold f_X12_within
  simp only [jn_e]
  by_cases h1 : x < a
  · simp [h1]
  · by_cases h2 : b < x
    · simp [h2]
    · simp [h1, h2]
/-- a number from none up to below a bound is a count -/
theorem in_nat {x : Int32} {n : Nat} (hn : n < 2147483648) (h1 : ¬ x < 0) (h2 : x < nI n) : ∃ k, k < n ∧ x = nI k := by
  refine inb_nat (inb_iff.mpr ⟨?_, ?_⟩) hn
  · have := mt Int32.lt_iff_toInt_lt.mpr h1
    simpa using this
  · have := Int32.lt_iff_toInt_lt.mp h2
    have e : (nI n).toInt = n := by
      have tt : (nI n).toInt.toNat = n := nI_tn hn
      have p := nI_pos hn
      have := mt Int32.lt_iff_toInt_lt.mpr p
      have q : (0 : Int) ≤ (nI n).toInt := by simpa using this
      omega
    omega
