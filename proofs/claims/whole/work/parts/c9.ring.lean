/-! the past: kept, brought back -/
theorem rg_and : ∀ m, m < 16 → nI m &&& 15 = nI m := by decide
theorem rg_inc : ∀ m, m < 16 → (nI m + 1) &&& 15 = nI ((m + 1) % 16) := by decide
theorem rg_dec : ∀ m, m < 16 → (nI m - 1) &&& 15 = nI ((m + 15) % 16) := by decide
theorem rg_mn : ∀ m, m < 17 → imn (nI m + 1) 16 = nI (if m = 16 then 16 else m + 1) := by decide
theorem rg_41 : ∀ m, m < 17 → (41 : Int32) * nI m = nI (41 * m) := by decide
theorem rg_nt : ∀ m, m < 16 → isNight (nightAt m) = true := by decide
theorem rg_sub : ∀ m, m < 17 → 0 < m → nI m - 1 = nI (m - 1) := by decide
theorem rg_z : ∀ m, m < 17 → (nI m = 0 ↔ m = 0) := by decide
theorem rg_16 : ∀ m, m < 17 → (nI m = 16 ↔ m = 16) := by decide
theorem s_keepPast {σ : Mm} {T : Tw} {N : Nt} {m tp : Nat} (hT : TwOk T) (r : RC σ 6 (tW T) N) (hm : m ≤ 16) (ht : tp < 16) (e1 : gI σ 13 1 = nI m) (e2 : gI σ 13 2 = nI tp) :
    ∃ τ, f_X11_keepPast σ = some (0, τ) ∧ RC τ (nightAt tp) (tW T) N ∧ gI τ 13 1 = nI (if m = 16 then 16 else m + 1) ∧ gI τ 13 2 = nI ((tp + 1) % 16) ∧ gI τ 196 3 = 0 ∧ (∀ b, b ≠ 13 → b ≠ 196 → (b < nightAt tp ∨ nightAt tp + 5 < b) → ∀ k, gI τ b k = gI σ b k) ∧ (∀ b k, gL τ b k = gL σ b k) ∧ ∀ b k, gR τ b k = gR σ b k := by
  have hn := rg_nt tp ht
  have n0 : nightAt tp = 15 + 7 * tp := rfl
  obtain ⟨τ, c1, c2, c3, _⟩ := s_copyFrom hn (by omega : nightAt tp ≠ 6) hT.2.2.1 r
  have of : ∀ b, (b < nightAt tp ∨ nightAt tp + 5 < b) → ∀ k, gI τ b k = gI σ b k := fun b hb k => c3.1 b (by simp; omega) k
  have g13 : ∀ k, gI τ 13 k = gI σ 13 k := of 13 (by omega)
  obtain ⟨τ1, q1⟩ : ∃ y, y = pI τ 13 2 (nI ((tp + 1) % 16)) := ⟨_, rfl⟩
  obtain ⟨τ2, q2⟩ : ∃ y, y = pI τ1 13 1 (nI (if m = 16 then 16 else m + 1)) := ⟨_, rfl⟩
  obtain ⟨τ3, q3⟩ : ∃ y, y = pI τ2 196 3 0 := ⟨_, rfl⟩
  have w2 : gI τ1 13 1 = nI m := by rw [q1, gI_pI_n (Or.inr (by omega)), g13, e1]
  have ek : f_X5_keep 6 σ = some (0, τ2) := by
    unfold f_X5_keep
    rw [ck_t n6, bn_e, e2, rg_and tp ht, ck_t (inb_nI ht (by omega)), bn_e, nI_tn (by omega), ck_t hn, cl_of _ c1, bn_e, g13, e2, rg_inc tp ht, ← q1, bn_e, w2, rg_mn m (by omega), ← q2]
  refine ⟨τ3, ?_, ?_, ?_, ?_, by rw [q3, gI_pI_s], fun b h1 h2 h3 k => ?_, fun b k => ?_, fun b k => ?_⟩
  · unfold f_X11_keepPast
    rw [cl_of _ ek]
    unfold f_X0_forget
    rw [bn_e, cl_of _ rfl, ← q3]
  · refine c2.fr (fun b h1 h2 k => ?_)
    rw [q3, gI_pI_n (Or.inl (by omega)), q2, gI_pI_n (Or.inl (by omega)), q1, gI_pI_n (Or.inl (by omega))]
  · rw [q3, gI_pI_n (Or.inl (by omega)), q2, gI_pI_s]
  · rw [q3, gI_pI_n (Or.inl (by omega)), q2, gI_pI_n (Or.inr (by omega)), q1, gI_pI_s]
  · rw [q3, gI_pI_n (Or.inl h2), q2, gI_pI_n (Or.inl h1), q1, gI_pI_n (Or.inl h1)]
    exact of b h3 k
  · rw [q3, gL_pI, q2, gL_pI, q1, gL_pI]; exact c3.2.1 b k
  · rw [q3, gR_pI, q2, gR_pI, q1, gR_pI]; exact c3.2.2 b k
theorem m_shift40 (σ : Mm) (kx : Mm → Option (Int32 × Mm)) : ∃ τ, lq2 (F_X12_keeps_11 kx) 1000000 (0 : Int32) σ = kx τ ∧ Off [40] σ τ ∧ ∀ k, k < 615 → gI τ 40 k = gI σ 40 (k + 41) := by
  have q := lq2_inv (F := F_X12_keeps_11 kx) (fun i => nI i) (fun i c => Off [40] σ c ∧ (∀ k, k < i → gI c 40 k = gI σ 40 (k + 41)) ∧ ∀ k, i ≤ k → gI c 40 k = gI σ 40 k) 615 kx ?_ ?_ (n := 1000000) (b0 := σ) ?_ (by omega)
  · obtain ⟨c, hc, e⟩ := q
    exact ⟨c, e, hc.1, hc.2.1⟩
  · intro rc i c hi hc
    obtain ⟨c1, c2, c3⟩ := hc
    have l1 : nI i < 615 := nI_lt (a := i) (b := 615) hi (by omega)
    refine ⟨pI c 40 i (gI σ 40 (i + 41)), ⟨c1.tr (Off.pI (by simp)), fun j hj => ?_, fun j hj => ?_⟩, ?_⟩
    · by_cases z : j = i
      · subst z; rw [gI_pI_s]
      · rw [gI_pI_n (Or.inr z)]; exact c2 j (by omega)
    · rw [gI_pI_n (Or.inr (by omega))]; exact c3 j (by omega)
    · have ga : gI c 40 (i + 41) = gI σ 40 (i + 41) := c3 _ (by omega)
      have e41 : nI i + 41 = nI (i + 41) := nI_add i 41
      simp only [F_X12_keeps_11, if_pos l1, bn_e, e41, ck_t (inb_nI (show i + 41 < 656 by omega) (by omega)), ck_t (inb_nI (show i < 656 by omega) (by omega)), nI_tn (show i + 41 < 2147483648 by omega), nI_tn (show i < 2147483648 by omega), ga, nI_1]
  · intro rc c hc
    have c1 : ¬ nI 615 < 615 := by decide
    simp only [F_X12_keeps_11, if_neg c1]
  · exact ⟨Off.rf, fun j hj => absurd hj (Nat.not_lt_zero j), fun _ _ => rfl⟩
theorem m_keeps0 {σ : Mm} {m : Nat} (hm : m < 16) (e : gI σ 0 55 = nI m) : ∃ τ, cl (f_X12_copies 36 (0 : Int32) 40 ((41 : Int32) * (gI σ 0 55)) σ) (fun _ σ65 => bn (pI σ65 0 55 ((gI σ65 0 55) + (1 : Int32))) (fun σ75 => some ((0 : Int32), σ75))) = some (0, τ) ∧ gI τ 0 55 = nI (m + 1) ∧ (∀ b, b ≠ 0 → b ≠ 40 → ∀ k, gI τ b k = gI σ b k) ∧ (∀ j, j ≠ 55 → gI τ 0 j = gI σ 0 j) ∧ (∀ b k, gL τ b k = gL σ b k) ∧ (∀ b k, gR τ b k = gR σ b k) ∧ (∀ j, j < 41 → gI τ 40 (41 * m + j) = gI σ 36 j) ∧ ∀ j, j < 41 * m → gI τ 40 j = gI σ 40 j := by
  obtain ⟨τ, c1, c2, c3, c4⟩ := m_copies (a := 36) (b := 40) (o := 0) (p := 41 * m) σ rfl rfl (by decide) (by decide) (by show 41 * m + 41 ≤ 656; omega) (by decide) (by decide)
  have g0 : ∀ k, gI τ 0 k = gI σ 0 k := c2.1 0 (by simp)
  refine ⟨pI τ 0 55 (nI (m + 1)), ?_, gI_pI_s _ _ _ _, fun b h1 h2 k => ?_, fun j hj => ?_, fun b k => ?_, fun b k => ?_, fun j hj => ?_, fun j hj => ?_⟩
  · rw [e, rg_41 m (by omega)]
    have c1 : f_X12_copies 36 0 40 (nI (41 * m)) σ = some (0, τ) := c1
    rw [cl_of _ c1, bn_e, g0, e, nI_1]
  · rw [gI_pI_n (Or.inl h1)]; exact c2.1 b (by simpa using h2) k
  · rw [gI_pI_n (Or.inr hj)]; exact g0 j
  · exact c2.2.1 b k
  · exact c2.2.2 b k
  · rw [gI_pI_n (Or.inl (by decide)), c3 j hj, Nat.zero_add]
  · rw [gI_pI_n (Or.inl (by decide))]; exact c4 j (Or.inl hj)
/-- what both keep of the past -/
theorem v_keep {σ μ : Mm} {T : Tw} {N : Nt} (hT : TwOk T) (h : RgI σ μ T) (hN : IN σ μ T N) :
    ∃ σ' μ', f_X11_keepPast σ = some (0, σ') ∧ f_X12_keeps μ = some (0, μ') ∧ RgI σ' μ' T ∧ gI σ' 196 3 = 0 ∧ (∀ b, b < 13 ∨ 126 < b → b ≠ 196 → ∀ k, gI σ' b k = gI σ b k) ∧ (∀ b k, gL σ' b k = gL σ b k) ∧ (∀ b k, gR σ' b k = gR σ b k) ∧ (∀ b, b ≠ 0 → b ≠ 40 → ∀ k, gI μ' b k = gI μ b k) ∧ (∀ j, j ≠ 55 → gI μ' 0 j = gI μ 0 j) ∧ (∀ b k, gL μ' b k = gL μ b k) ∧ ∀ b k, gR μ' b k = gR μ b k := by
  obtain ⟨m, tp, H, h1, h2, h3, h4, h5, h6⟩ := h
  obtain ⟨σ', k1, k2, k3, k4, k5, k6, k7, k8⟩ := s_keepPast hT hN.2.1 h1 h2 h3 h4
  have n0 : nightAt tp = 15 + 7 * tp := rfl
  have mm : ∃ μ', f_X12_keeps μ = some (0, μ') ∧ gI μ' 0 55 = nI (if m = 16 then 16 else m + 1) ∧ (∀ b, b ≠ 0 → b ≠ 40 → ∀ k, gI μ' b k = gI μ b k) ∧ (∀ j, j ≠ 55 → gI μ' 0 j = gI μ 0 j) ∧ (∀ b k, gL μ' b k = gL μ b k) ∧ (∀ b k, gR μ' b k = gR μ b k) ∧ (∀ j, j < 41 → gI μ' 40 (41 * ((if m = 16 then 16 else m + 1) - 1) + j) = gI μ 36 j) ∧ ∀ i, i + 1 < (if m = 16 then 16 else m + 1) → ∀ j, j < 41 → gI μ' 40 (41 * ((if m = 16 then 16 else m + 1) - 1 - (i + 1)) + j) = gI μ 40 (41 * (m - 1 - i) + j) := by
    unfold f_X12_keeps
    rw [jn_e2]
    by_cases z : m = 16
    · subst z
      rw [if_pos (by rw [h5]; rfl), jn_e2]
      obtain ⟨τ, l1, l2, l3⟩ := m_shift40 μ (fun σ_39 => bn (pI σ_39 0 55 ((gI σ_39 0 55) - (1 : Int32))) (fun σ46 => cl (f_X12_copies 36 (0 : Int32) 40 ((41 : Int32) * (gI σ46 0 55)) σ46) (fun _ σ65 => bn (pI σ65 0 55 ((gI σ65 0 55) + (1 : Int32))) (fun σ75 => some ((0 : Int32), σ75)))))
      rw [l1, bn_e]
      have g0 : ∀ k, gI τ 0 k = gI μ 0 k := l2.1 0 (by simp)
      obtain ⟨μ', p1, p2, p3, p4, p5, p6, p7, p8⟩ := m_keeps0 (σ := pI τ 0 55 (gI τ 0 55 - 1)) (m := 15) (by omega) (by rw [gI_pI_s, g0, h5]; rfl)
      refine ⟨μ', p1, p2, fun b b1 b2 k => ?_, fun j hj => ?_, fun b k => ?_, fun b k => ?_, fun j hj => ?_, fun i hi j hj => ?_⟩
      · rw [p3 b b1 b2, gI_pI_n (Or.inl b1)]; exact l2.1 b (by simpa using b2) k
      · rw [p4 j hj, gI_pI_n (Or.inr hj)]; exact g0 j
      · rw [p5]; exact l2.2.1 b k
      · rw [p6]; exact l2.2.2 b k
      · rw [if_pos rfl, p7 j hj, gI_pI_n (Or.inl (by decide))]; exact l2.1 36 (by simp) j
      · rw [if_pos rfl] at hi ⊢
        rw [p8 _ (by omega), gI_pI_n (Or.inl (by decide)), l3 _ (by omega), show 41 * (16 - 1 - (i + 1)) + j + 41 = 41 * (16 - 1 - i) + j by omega]
    · rw [if_neg (by rw [h5]; exact fun y => z ((rg_16 m (by omega)).mp y))]
      obtain ⟨μ', p1, p2, p3, p4, p5, p6, p7, p8⟩ := m_keeps0 (σ := μ) (m := m) (by omega) h5
      refine ⟨μ', p1, by rw [if_neg z]; exact p2, p3, p4, p5, p6, fun j hj => ?_, fun i hi j hj => ?_⟩
      · rw [if_neg z]; exact p7 j hj
      · rw [if_neg z] at hi ⊢
        rw [p8 _ (by omega), show 41 * (m + 1 - 1 - (i + 1)) + j = 41 * (m - 1 - i) + j by omega]
  obtain ⟨μ', q1, q2, q3, q4, q5, q6, q7, q8⟩ := mm
  refine ⟨σ', μ', k1, q1, ⟨if m = 16 then 16 else m + 1, (tp + 1) % 16, fun i => if i = 0 then N else H (i - 1), by split <;> omega, Nat.mod_lt _ (by omega), k3, k4, q2, fun i hi => ?_⟩, k5, fun b b1 b2 k => k6 b (by omega) b2 (by omega) k, k7, k8, q3, q4, q5, q6⟩
  by_cases z : i = 0
  · subst z
    have sl : ((tp + 1) % 16 + 15 - 0) % 16 = tp := by omega
    rw [sl]
    exact ⟨hN.1, k2, hN.2.2.1.copy hT.2.2.1 (fun j hj => by rw [Nat.sub_zero, q7 j hj, Nat.zero_add])⟩
  · have im : i - 1 < m := by
      by_cases y : m = 16
      · rw [if_pos y] at hi; omega
      · rw [if_neg y] at hi; omega
    obtain ⟨a1, a2, a3⟩ := h6 (i - 1) im
    have i16 : i < 16 := by split at hi <;> omega
    show NtOk T (if i = 0 then N else H (i - 1)) ∧ RC σ' _ _ (if i = 0 then N else H (i - 1)) ∧ RP μ' 40 _ T (if i = 0 then N else H (i - 1))
    rw [if_neg z]
    have sl : ((tp + 1) % 16 + 15 - i) % 16 = (tp + 15 - (i - 1)) % 16 := by omega
    rw [sl]
    refine ⟨a1, a2.fr (fun b b1 b2 k => ?_), a3.copy hT.2.2.1 (fun j hj => ?_)⟩
    · have ne : (tp + 15 - (i - 1)) % 16 ≠ tp := by omega
      have l16 : (tp + 15 - (i - 1)) % 16 < 16 := Nat.mod_lt _ (by omega)
      unfold nightAt at b1 b2
      exact k6 b (by omega) (by omega) (by omega) k
    · have := q8 (i - 1) (by rw [show i - 1 + 1 = i by omega]; exact hi) j hj
      rw [show i - 1 + 1 = i by omega] at this
      exact this
