/-- how long ways are, for both -/
def WyL (σ μ : Mm) (t P : Nat) (D : Nat → Nat → Nat) : Prop := ∀ x b, x < P → b < P → gI σ (t + 13) (6 * x + b) = (if D x b < 99 then nI (D x b) else -1) ∧ gI μ 27 (6 * x + b) = nI (D x b) ∧ D x b ≤ 99
theorem m_isPl0 {σ : Mm} (x : Int32) : f_X12_isPlace x σ = some (if ¬ x < 0 ∧ x < gI σ 2 0 then 1 else 0, σ) := by
  unfold f_X12_isPlace
  rw [jn_e2, show (0 : Int32).toNatClampNeg = 0 from rfl, ck_t (show inb 0 8 = true from rfl)]
  by_cases z : x < 0
  · rw [if_pos z, if_neg (fun y => y.1 z)]
  · rw [if_neg z]
    by_cases y : x < gI σ 2 0
    · rw [if_pos y, if_pos ⟨z, y⟩]
    · rw [if_neg y, if_neg (fun w => y w.2)]
theorem q_way {σ μ : Mm} {t : Nat} {T : Tw} {N : Nt} {D : Nat → Nat → Nat} (h : Bo σ μ t T N) (w : WyL σ μ t (tP T) D) (x y : Int32) : ∃ r, f_X11_way x y σ = some (r, σ) ∧ f_X12_way x y μ = some (r, pI μ 0 0 0) := by
  obtain ⟨hT, hN, ⟨c1, c2, c3⟩, ⟨m1, m2⟩⟩ := h
  have p6 := hT.1
  have ht := c2.1
  have g0 : gI σ t 0 = nI (tP T) := c2.2.1
  have e0 : gI (pI μ 0 0 0) 2 0 = nI (tP T) := by rw [gI_pI_n (Or.inl (by decide))]; exact m1.1
  have e27 : ∀ k, gI (pI μ 0 0 0) 27 k = gI μ 27 k := fun k => gI_pI_n (Or.inl (by decide))
  unfold f_X11_way f_X12_way
  rw [bn_e, c1, ck_t ht, bn_e, cl_of _ (m_isPl0 x), e0, jn_e2, cl_of _ (m_isPl0 y), e0]
  by_cases hx : ¬ x < 0 ∧ x < nI (tP T)
  · by_cases hy : ¬ y < 0 ∧ y < nI (tP T)
    · obtain ⟨a, ea⟩ : ∃ a, a = x.toNatClampNeg := ⟨_, rfl⟩
      obtain ⟨b, eb⟩ : ∃ b, b = y.toNatClampNeg := ⟨_, rfl⟩
      have xa : x = nI a := by rw [ea]; exact (nI_back hx.1).symm
      have yb : y = nI b := by rw [eb]; exact (nI_back hy.1).symm
      have bd : ∀ v : Int32, v.toNatClampNeg < 2147483648 := fun v => by have := Int32.toInt_lt v; rw [Int32.toNatClampNeg]; omega
      have aP : a < tP T := by have := hx.2; rw [xa] at this; exact (nI_ltI (by rw [ea]; exact bd x) (by omega)).mp this
      have bP : b < tP T := by have := hy.2; rw [yb] at this; exact (nI_ltI (by rw [eb]; exact bd y) (by omega)).mp this
      obtain ⟨w1, w2, w3⟩ := w a b aP bP
      have k9 : nI (D a b) < 99 ↔ D a b < 99 := nI_ltI (b := 99) (by omega) (by omega)
      rw [if_pos hx, if_neg one0, if_pos hy, if_neg one0, xa, yb, cl_of _ (s_way ht g0 p6 aP bP), w1, show (6 : Int32) * nI a + nI b = nI (6 * a + b) by rw [show (6 : Int32) = nI 6 from rfl, pk_mul, nI_add], bn_e, ck_t (inb_nI (show 6 * a + b < 36 by omega) (by omega)), nI_tn (show 6 * a + b < 2147483648 by omega), e27, w2, bn_e, ck_t (inb_nI (show 6 * a + b < 36 by omega) (by omega)), nI_tn (show 6 * a + b < 2147483648 by omega), e27, w2]
      by_cases z : D a b < 99
      · rw [if_pos z, if_pos (k9.mpr z)]; exact ⟨_, rfl, rfl⟩
      · rw [if_neg z, if_neg (fun q => z (k9.mp q))]; exact ⟨_, rfl, rfl⟩
    · have l : f_X9_lanesOfWay t x y σ = some (-1, σ) := by
        unfold f_X9_lanesOfWay
        rw [ck_t ht, cl_of _ (s_has ht x).1, jn_e2, cl_of _ (s_has ht y).1, g0, if_pos hx, if_neg one0, if_neg hy, if_pos rfl]
      rw [cl_of _ l, if_pos hx, if_neg one0, if_neg hy, if_pos rfl]
      exact ⟨_, rfl, rfl⟩
  · have l : f_X9_lanesOfWay t x y σ = some (-1, σ) := by
      unfold f_X9_lanesOfWay
      rw [ck_t ht, cl_of _ (s_has ht x).1, jn_e2, g0, if_neg hx, if_pos rfl]
    rw [cl_of _ l, if_neg hx, if_pos rfl]
    exact ⟨_, rfl, rfl⟩
