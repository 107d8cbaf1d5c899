/-! watch, count, evening -/
theorem s_addW {σ : Mm} {w : Wt} {x y z : Int32} (h : WC σ 127 w) (h6 : wM w < 6) : f_X10_add 127 x y z σ = some (1, pI (pI (pI (pI σ 128 (wM w) x) 129 (wM w) y) 130 (wM w) (vp_nar .boolean z)) 127 0 (nI (wM w + 1))) := by
  obtain ⟨h1, h2, h3⟩ := h
  have c1 : gI σ 127 0 < 6 := by rw [h2]; exact nI_lt (a := wM w) (b := 6) h6 (by omega)
  obtain ⟨m, em⟩ : ∃ m, m = wM w := ⟨_, rfl⟩
  rw [← em] at h2 h6 ⊢
  unfold f_X10_add
  have g1 : ∀ w, gI (pI σ (127 + 1) m w) 127 0 = nI m := fun w => by rw [gI_pI_n (Or.inl (by omega))]; exact h2
  have g2 : ∀ w u, gI (pI (pI σ (127 + 1) m w) (127 + 2) m u) 127 0 = nI m := fun w u => by rw [gI_pI_n (Or.inl (by omega))]; exact g1 w
  have g3 : ∀ w u z, gI (pI (pI (pI σ (127 + 1) m w) (127 + 2) m u) (127 + 3) m z) 127 0 = nI m := fun w u z => by rw [gI_pI_n (Or.inl (by omega))]; exact g2 w u
  rw [ck_t h1, if_pos c1]
  simp only [h2, ck_t (inb_nI (show m < 6 by omega) (by omega)), nI_tn (show m < 2147483648 by omega), bn_e, g1, g2, g3, nI_1]
theorem v_watch {σ μ : Mm} (h : Iv σ μ) (x y z : Int32) (hz : z = 0 ∨ z = 1) : AnI (f_X11_watch x y z) (f_X12_watch x y z) σ μ := by
  have hh := iv_z h
  obtain ⟨μ1, e1⟩ : ∃ y, y = pI μ 0 0 0 := ⟨_, rfl⟩
  rw [← e1] at hh
  have hi := hh
  unfold AnI f_X11_watch f_X12_watch
  obtain ⟨t, T, D, N, a, l, w, s, n, hT, hN, hL, hA, hD, hW, hR, hM⟩ := hh
  have hc := hT.2.2.2.1
  have hm := hT.2.2.2.2.1.tm
  have l8 := hT.1.2.1
  have ta := town_a hc.1
  have la := hL.1
  have n0 : (0 : Int32).toNatClampNeg = 0 := rfl
  simp only [bn_e, ← e1, hT.2.1, ck_t hc.1, cl_of _ (s_has hc.1 x).2.1, hc.2.2.1, cl_of _ (m_isLane hm x), jn_e2, cl_of _ (m_within y 0 30 _), n0, ck_t (show inb 0 5 = true from rfl)]
  by_cases v : ¬ x < 0 ∧ x < nI (tL T)
  · obtain ⟨k, hk, rfl⟩ := in_nat (by omega) v.1 v.2
    simp only [if_pos v, if_neg one0]
    by_cases v2 : ¬ y < 0 ∧ ¬ 30 < y
    · simp only [if_neg v2.1, if_neg v2.2, if_pos v2, if_neg one0]
      obtain ⟨i, hi30, rfl⟩ := nI_of2 (M := 30) (n := 30) rfl v2.1 (Int32.not_lt.mp v2.2)
      have w6 := hA.1.1
      by_cases f : wM w = 6
      · have c127 : gI σ 127 0 = 6 := by rw [hA.2.1.2.1, f]; rfl
        have m32 : gI μ1 32 0 = 6 := by rw [hA.2.2.1, f]; rfl
        have ea : f_X10_add 127 (nI k) (nI i) z σ = some (0, σ) := by
          unfold f_X10_add
          rw [ck_t hA.2.1.1, c127, if_neg (by decide)]
        simp only [cl_of _ ea, m32, if_true]
        exact ⟨_, _, _, rfl, rfl, hi⟩
      · obtain ⟨m, em⟩ : ∃ m, m = wM w := ⟨_, rfl⟩
        have m6 : m < 6 := by omega
        have ea := s_addW (x := nI k) (y := nI i) (z := z) hA.2.1 (by omega)
        have bz : vp_nar .boolean z = z := by rcases hz with rfl | rfl <;> rfl
        have m32 : gI μ1 32 0 = nI m := by rw [hA.2.2.1, em]
        have g1 : ∀ u, gI (pI μ1 33 m u) 32 0 = nI m := fun u => by rw [gI_pI_n (Or.inl (by decide))]; exact m32
        have g2 : ∀ u u2, gI (pI (pI μ1 33 m u) 34 m u2) 32 0 = nI m := fun u u2 => by rw [gI_pI_n (Or.inl (by decide))]; exact g1 u
        have g3 : ∀ u u2 u3, gI (pI (pI (pI μ1 33 m u) 34 m u2) 35 m u3) 32 0 = nI m := fun u u2 u3 => by rw [gI_pI_n (Or.inl (by decide))]; exact g2 u u2
        have n6 : ¬ nI m = 6 := fun q => by have := (nI_eq (a := m) (b := 6) (by omega) (by omega)).mp q; omega
        rw [← em] at ea
        simp only [cl_of _ ea, m32, if_neg n6, ck_t (inb_nI (show m < 30 by omega) (by omega)), nI_tn (show m < 2147483648 by omega), g1, g2, g3, nI_1, bz]
        obtain ⟨σ2, e2⟩ : ∃ q, q = pI (pI (pI (pI σ 128 m (nI k)) 129 m (nI i)) 130 m z) 127 0 (nI (m + 1)) := ⟨_, rfl⟩
        obtain ⟨μ2, e3⟩ : ∃ q, q = pI (pI (pI (pI μ1 33 m (nI k)) 34 m (nI i)) 35 m z) 32 0 (nI (m + 1)) := ⟨_, rfl⟩
        rw [← e2, ← e3]
        have o : ∀ b, b < 127 ∨ 130 < b → ∀ j, gI σ2 b j = gI σ b j := fun b hb j => by rw [e2, gI_pI_n (Or.inl (by omega)), gI_pI_n (Or.inl (by omega)), gI_pI_n (Or.inl (by omega)), gI_pI_n (Or.inl (by omega))]
        have q : ∀ b, b < 32 ∨ 35 < b → ∀ j, gI μ2 b j = gI μ1 b j := fun b hb j => by rw [e3, gI_pI_n (Or.inl (by omega)), gI_pI_n (Or.inl (by omega)), gI_pI_n (Or.inl (by omega)), gI_pI_n (Or.inl (by omega))]
        have q32 : ∀ j, j ≠ 0 → gI μ2 32 j = gI μ1 32 j := fun j hj => by rw [e3, gI_pI_n (Or.inr hj), gI_pI_n (Or.inl (by decide)), gI_pI_n (Or.inl (by decide)), gI_pI_n (Or.inl (by decide))]
        have q33 : ∀ b, 33 ≤ b → b ≤ 35 → ∀ j, j ≠ m → gI μ2 b j = gI μ1 b j := fun b h1 h2 j hj => by rw [e3, gI_pI_n (Or.inl (by omega)), gI_pI_n (Or.inr hj), gI_pI_n (Or.inr hj), gI_pI_n (Or.inr hj)]
        have cs : gI σ2 128 m = nI k ∧ gI σ2 129 m = nI i ∧ gI σ2 130 m = z ∧ gI σ2 127 0 = nI (m + 1) := by
          rw [e2]
          refine ⟨?_, ?_, ?_, gI_pI_s _ _ _ _⟩
          · rw [gI_pI_n (Or.inl (by decide)), gI_pI_n (Or.inl (by decide)), gI_pI_n (Or.inl (by decide)), gI_pI_s]
          · rw [gI_pI_n (Or.inl (by decide)), gI_pI_n (Or.inl (by decide)), gI_pI_s]
          · rw [gI_pI_n (Or.inl (by decide)), gI_pI_s]
        have ms : gI μ2 33 m = nI k ∧ gI μ2 34 m = nI i ∧ gI μ2 35 m = z ∧ gI μ2 32 0 = nI (m + 1) := by
          rw [e3]
          refine ⟨?_, ?_, ?_, gI_pI_s _ _ _ _⟩
          · rw [gI_pI_n (Or.inl (by decide)), gI_pI_n (Or.inl (by decide)), gI_pI_n (Or.inl (by decide)), gI_pI_s]
          · rw [gI_pI_n (Or.inl (by decide)), gI_pI_n (Or.inl (by decide)), gI_pI_s]
          · rw [gI_pI_n (Or.inl (by decide)), gI_pI_s]
        have o2 : ∀ b, 128 ≤ b → b ≤ 130 → ∀ j, j ≠ m → gI σ2 b j = gI σ b j := fun b h1 h2 j hj => by rw [e2, gI_pI_n (Or.inl (by omega)), gI_pI_n (Or.inr hj), gI_pI_n (Or.inr hj), gI_pI_n (Or.inr hj)]
        have nA : IA σ2 μ2 T (m + 1, updF (wL w) m k, updF (wA w) m i, updF (wB w) m z) := by
          refine ⟨⟨by show m + 1 ≤ 6; omega, fun j hj => ?_⟩, ⟨hA.2.1.1, cs.2.2.2, fun j hj => ?_⟩, ⟨ms.2.2.2, fun j hj => ?_⟩⟩
          · have hj : j < m + 1 := hj
            show updF (wL w) m k j < tL T ∧ updF (wA w) m i j ≤ 30 ∧ (updF (wB w) m z j = 0 ∨ updF (wB w) m z j = 1)
            by_cases jm : j = m
            · subst jm; rw [updF_s, updF_s, updF_s]; exact ⟨hk, hi30, hz⟩
            · rw [updF_n jm, updF_n jm, updF_n jm]; exact hA.1.2 j (by omega)
          · have hj : j < m + 1 := hj
            show gI σ2 128 j = nI (updF (wL w) m k j) ∧ gI σ2 129 j = nI (updF (wA w) m i j) ∧ gI σ2 130 j = updF (wB w) m z j
            by_cases jm : j = m
            · subst jm; rw [updF_s, updF_s, updF_s]; exact ⟨cs.1, cs.2.1, cs.2.2.1⟩
            · rw [updF_n jm, updF_n jm, updF_n jm, o2 128 (by omega) (by omega) j jm, o2 129 (by omega) (by omega) j jm, o2 130 (by omega) (by omega) j jm]
              exact hA.2.1.2.2 j (by omega)
          · have hj : j < m + 1 := hj
            show gI μ2 33 (6 * 0 + j) = nI (updF (wL w) m k j) ∧ gI μ2 34 (6 * 0 + j) = nI (updF (wA w) m i j) ∧ gI μ2 35 (6 * 0 + j) = updF (wB w) m z j
            rw [show 6 * 0 + j = j by omega]
            by_cases jm : j = m
            · subst jm; rw [updF_s, updF_s, updF_s]; exact ⟨ms.1, ms.2.1, ms.2.2.1⟩
            · rw [updF_n jm, updF_n jm, updF_n jm, q33 33 (by omega) (by omega) j jm, q33 34 (by omega) (by omega) j jm, q33 35 (by omega) (by omega) j jm]
              have := hA.2.2.2 j (by omega)
              rw [show 6 * 0 + j = j by omega] at this
              exact this
        refine ⟨_, _, _, rfl, rfl, t, T, D, N, a, l, _, s, n, hT.fr (fun b h1 h2 h3 j => o b (by omega) j) (fun b _ _ j => by rw [e2]; rfl) (by rw [e2]; rfl) (by rw [e2]; rfl) ⟨fun c h1 h2 j _ => q c (by omega) j, fun j _ => q 27 (by omega) j⟩ (fun c hc j _ => by rw [e3]; rfl), hN.fr hT.1 (fun b h1 h2 j => o b (by omega) j) (fun j _ => q 36 (by omega) j) (q 0 (by omega) _) (q 0 (by omega) _), hL.fr (fun b h1 h2 j => o b (by omega) j) (by rw [e2]; rfl) (by rw [e2]; rfl) (q 28 (by omega) _) (fun b h1 h2 j _ => q b (by omega) j), nA, hD.fr (o 196 (by omega)) (o 206 (by omega)), hW.fr (fun j => by rw [e2]; rfl) (o 1 (by omega) 1) (o 2 (by omega)) (q 0 (by omega) _) (q 1 (by omega)) (fun b h1 j => o b (by omega) j), hR.fr hT.1 (fun b h1 h2 j => o b (by omega) j) (q 0 (by omega) _) (q 40 (by omega)), fun i hi => (hM i hi).fr hT.1 hi (fun b h1 h2 j => o b (by unfold markAt at h1; omega) j) (q 41 (by omega) _) (fun j _ _ => q 39 (by omega) j) (q 28 (by omega) _) (fun b h1 h2 j _ _ => q b (by omega) j) (q32 _ (by omega)) (fun b h1 h2 j h3 _ => q33 b h1 h2 j (by omega))⟩
    · simp only [if_neg v2, if_true]
      by_cases v3 : y < 0
      · simp only [if_pos v3]
        exact ⟨_, _, _, rfl, rfl, hi⟩
      · have v4 : 30 < y := Classical.not_not.mp (fun q => v2 ⟨v3, q⟩)
        simp only [if_neg v3, if_pos v4]
        exact ⟨_, _, _, rfl, rfl, hi⟩
  · simp only [if_neg v, if_true]
    exact ⟨_, _, _, rfl, rfl, hi⟩
theorem v_count {σ μ : Mm} (h : Iv σ μ) (x : Int32) : AnI (f_X11_count x) (f_X12_count x) σ μ := by
  have hh := iv_z h
  obtain ⟨μ1, e1⟩ : ∃ y, y = pI μ 0 0 0 := ⟨_, rfl⟩
  rw [← e1] at hh
  have hi := hh
  unfold AnI
  obtain ⟨t, T, D, N, a, l, w, s, n, hT, hN, hL, hA, hD, hW, hR, hM⟩ := hh
  have hc := hT.2.2.2.1
  have hm := hT.2.2.2.2.1.tm
  have rm := RM.of_RP hN.2.2.1 hT.1.2.2.1 hN.2.2.2.2
  have n0 : (0 : Int32).toNatClampNeg = 0 := rfl
  have n1 : (1 : Int32).toNatClampNeg = 1 := rfl
  have n2 : (2 : Int32).toNatClampNeg = 2 := rfl
  by_cases v : ¬ x < 0 ∧ ¬ 11 < x
  · obtain ⟨k, hk, rfl⟩ := nI_of2 (M := 11) (n := 11) rfl v.1 (Int32.not_lt.mp v.2)
    have cs : k = 0 ∨ k = 1 ∨ k = 2 ∨ k = 3 ∨ k = 4 ∨ k = 5 ∨ k = 6 ∨ k = 7 ∨ k = 8 ∨ k = 9 ∨ k = 10 ∨ k = 11 := by omega
    obtain ⟨mm, tp, H, r1, r2, r3, r4, r5, r6⟩ := id hR
    rcases cs with rfl | rfl | rfl | rfl | rfl | rfl | rfl | rfl | rfl | rfl | rfl | rfl
    · refine ⟨nI (tP T), _, _, ?_, ?_, hi⟩
      · unfold f_X11_count; rw [if_pos (by decide), bn_e, hT.2.1, ck_t hc.1, hc.2.1]
      · unfold f_X12_count; rw [bn_e, ← e1, cl_of _ (m_within _ 0 11 _), if_pos v, if_neg one0, if_pos (by decide), ck_t (by decide), show (nI 0).toNatClampNeg = 0 from rfl, hm.1]
    · refine ⟨nI (tL T), _, _, ?_, ?_, hi⟩
      · unfold f_X11_count; rw [if_neg (by decide), if_pos (by decide), bn_e, hT.2.1, ck_t hc.1, hc.2.2.1]
      · unfold f_X12_count; rw [bn_e, ← e1, cl_of _ (m_within _ 0 11 _), if_pos v, if_neg one0, if_pos (by decide), ck_t (by decide), show (nI 1).toNatClampNeg = 1 from rfl, hm.2.1]
    · refine ⟨nI (tW T), _, _, ?_, ?_, hi⟩
      · unfold f_X11_count; rw [if_neg (by decide), if_neg (by decide), if_pos (by decide), bn_e, hT.2.1, ck_t hc.1, hc.2.2.2.1]
      · unfold f_X12_count; rw [bn_e, ← e1, cl_of _ (m_within _ 0 11 _), if_pos v, if_neg one0, if_pos (by decide), ck_t (by decide), show (nI 2).toNatClampNeg = 2 from rfl, hm.2.2.1]
    · refine ⟨nT N, _, _, ?_, ?_, hi⟩
      · unfold f_X11_count; rw [if_neg (by decide), if_neg (by decide), if_neg (by decide), if_pos (by decide), hN.2.1.2.1]
      · unfold f_X12_count; rw [bn_e, ← e1, cl_of _ (m_within _ 0 11 _), if_pos v, if_neg one0, if_neg (by decide), if_pos (by decide), if_pos (by decide), ck_t (by decide), n0, rm.1]
    · refine ⟨nI (bts (homeN T N) (tW T)), _, _, ?_, ?_, hi⟩
      · unfold f_X11_count; rw [if_neg (by decide), if_neg (by decide), if_neg (by decide), if_neg (by decide), if_pos (by decide), bn_e, hT.2.1, cl_of _ (s_homeBits hc hT.1 hN.2.1 hN.1)]
      · unfold f_X12_count; rw [bn_e, ← e1, cl_of _ (m_within _ 0 11 _), if_pos v, if_neg one0, if_neg (by decide), if_pos (by decide), if_neg (by decide), if_pos (by decide), cl_of _ (m_homes hm hT.1 rm hN.1)]
    · refine ⟨nI (bts (brN N) (tL T)), _, _, ?_, ?_, hi⟩
      · unfold f_X11_count; rw [if_neg (by decide), if_neg (by decide), if_neg (by decide), if_neg (by decide), if_neg (by decide), if_pos (by decide), bn_e, hT.2.1, cl_of _ (s_litBits hc hT.1 hN.2.1 hN.1)]
      · unfold f_X12_count; rw [bn_e, ← e1, cl_of _ (m_within _ 0 11 _), if_pos v, if_neg one0, if_neg (by decide), if_pos (by decide), if_neg (by decide), if_neg (by decide), cl_of _ (m_burning hm hT.1 rm hN.1)]
    · refine ⟨nP N, _, _, ?_, ?_, hi⟩
      · unfold f_X11_count; rw [if_neg (by decide), if_neg (by decide), if_neg (by decide), if_neg (by decide), if_neg (by decide), if_neg (by decide), if_pos (by decide), hN.2.1.2.2.1]
      · unfold f_X12_count; rw [bn_e, ← e1, cl_of _ (m_within _ 0 11 _), if_pos v, if_neg one0, if_neg (by decide), if_neg (by decide), if_pos (by decide), if_pos (by decide), ck_t (by decide), n1, rm.2.1]
    · refine ⟨nD N, _, _, ?_, ?_, hi⟩
      · unfold f_X11_count; rw [if_neg (by decide), if_neg (by decide), if_neg (by decide), if_neg (by decide), if_neg (by decide), if_neg (by decide), if_neg (by decide), if_pos (by decide), hN.2.1.2.2.2.1]
      · unfold f_X12_count; rw [bn_e, ← e1, cl_of _ (m_within _ 0 11 _), if_pos v, if_neg one0, if_neg (by decide), if_neg (by decide), if_pos (by decide), if_neg (by decide), ck_t (by decide), n2, rm.2.2.1]
    · refine ⟨nI (lM l), _, _, ?_, ?_, hi⟩
      · unfold f_X11_count; rw [if_neg (by decide), if_neg (by decide), if_neg (by decide), if_neg (by decide), if_neg (by decide), if_neg (by decide), if_neg (by decide), if_neg (by decide), if_pos (by decide), bn_e, hL.2.1, ck_t hL.2.2.2.2.1.1, hL.2.2.2.2.1.2.1]
      · unfold f_X12_count; rw [bn_e, ← e1, cl_of _ (m_within _ 0 11 _), if_pos v, if_neg one0, if_neg (by decide), if_neg (by decide), if_neg (by decide), if_pos (by decide), if_pos (by decide), ck_t (by decide), n0, hL.2.2.2.2.2.1]
    · refine ⟨nI (wM w), _, _, ?_, ?_, hi⟩
      · unfold f_X11_count; rw [if_neg (by decide), if_neg (by decide), if_neg (by decide), if_neg (by decide), if_neg (by decide), if_neg (by decide), if_neg (by decide), if_neg (by decide), if_neg (by decide), if_pos (by decide), hA.2.1.2.1]
      · unfold f_X12_count; rw [bn_e, ← e1, cl_of _ (m_within _ 0 11 _), if_pos v, if_neg one0, if_neg (by decide), if_neg (by decide), if_neg (by decide), if_pos (by decide), if_neg (by decide), ck_t (by decide), n0, hA.2.2.1]
    · refine ⟨nI mm, _, _, ?_, ?_, hi⟩
      · unfold f_X11_count; rw [if_neg (by decide), if_neg (by decide), if_neg (by decide), if_neg (by decide), if_neg (by decide), if_neg (by decide), if_neg (by decide), if_neg (by decide), if_neg (by decide), if_neg (by decide), if_pos (by decide), r3]
      · unfold f_X12_count; rw [bn_e, ← e1, cl_of _ (m_within _ 0 11 _), if_pos v, if_neg one0, if_neg (by decide), if_neg (by decide), if_neg (by decide), if_neg (by decide), if_pos (by decide), r5]
    · refine ⟨nI n, _, _, ?_, ?_, hi⟩
      · unfold f_X11_count; rw [if_neg (by decide), if_neg (by decide), if_neg (by decide), if_neg (by decide), if_neg (by decide), if_neg (by decide), if_neg (by decide), if_neg (by decide), if_neg (by decide), if_neg (by decide), if_neg (by decide), if_pos (by decide), hW.2.2.2.1]
      · unfold f_X12_count; rw [bn_e, ← e1, cl_of _ (m_within _ 0 11 _), if_pos v, if_neg one0, if_neg (by decide), if_neg (by decide), if_neg (by decide), if_neg (by decide), if_neg (by decide), hW.2.2.2.2.1]
  · have ne : ∀ c : Int32, (¬ c < 0 ∧ ¬ 11 < c) → ¬ x = c := fun c hc q => v (by rw [q]; exact hc)
    refine ⟨-1, _, _, ?_, by unfold f_X12_count; rw [bn_e, ← e1, cl_of _ (m_within _ 0 11 _), if_neg v, if_pos rfl], hi⟩
    unfold f_X11_count
    rw [if_neg (ne 0 (by decide)), if_neg (ne 1 (by decide)), if_neg (ne 2 (by decide)), if_neg (ne 3 (by decide)), if_neg (ne 4 (by decide)), if_neg (ne 5 (by decide)), if_neg (ne 6 (by decide)), if_neg (ne 7 (by decide)), if_neg (ne 8 (by decide)), if_neg (ne 9 (by decide)), if_neg (ne 10 (by decide)), if_neg (ne 11 (by decide))]
theorem v_evening {σ μ : Mm} (h : Iv σ μ) : AnI f_X11_evening f_X12_evening σ μ := by
  obtain ⟨t, T, D, N, a, l, w, s, n, hT, hN, hL, hA, hD, hW, hR, hM⟩ := h
  have ta := town_a hT.2.2.2.1.1
  have la := hL.1
  unfold AnI f_X11_evening
  simp only [bn_e, hT.2.1, hL.2.2.1]
  have hb : 478 - a = 237 ∨ 478 - a = 241 := by omega
  rcases r_evening hW.2.2 hW.1 hT.2.2.2.2.2.1 hT.2.2.2.2.2.2.1 hb with ⟨σ', μ', l', a1, a2, a3, a4, a5, a6, a7⟩ | ⟨σ', μ', f, f0, f1, a1, a2, a3, a4, a5, a6⟩
  · simp only [cl_of _ a1, if_true, a2]
    obtain ⟨σ2, e2⟩ : ∃ q, q = pR (pR (pI σ' 1 1 0) 0 10 (gR (pI σ' 1 1 0) 0 9)) 0 9 (gR (pI σ' 1 1 0) 0 10) := ⟨_, rfl⟩
    rw [← e2]
    have oI : ∀ b, b ≠ 1 → ∀ k, gI σ2 b k = gI σ' b k := fun b hb k => by rw [e2]; exact gI_pI_n (Or.inl hb)
    have oL : ∀ b k, gL σ2 b k = gL σ' b k := fun b k => by rw [e2]; rfl
    have oR : ∀ k, k ≠ 9 → k ≠ 10 → gR σ2 0 k = gR σ 0 k := fun k h1 h2 => by rw [e2, gR_pR, if_neg (by omega), gR_pR, if_neg (by omega), gR_pI]; exact a3.2.2.1 0 k
    have r9 : gR σ2 0 9 = 478 - a := by rw [e2, gR_pR, if_pos ⟨rfl, rfl⟩, gR_pI, a3.2.2.1]; exact hL.2.2.1
    have r10 : gR σ2 0 10 = a := by rw [e2, gR_pR, if_neg (by omega), gR_pR, if_pos ⟨rfl, rfl⟩, gR_pI, a3.2.2.1]; exact hL.2.1
    have o : ∀ b, b ≠ 1 → b ≠ 3 → b ≠ 4 → (b < 478 - a ∨ 478 - a + 3 < b) → ∀ k, gI σ2 b k = gI σ b k := fun b h1 h2 h3 h4 k => (oI b h1 k).trans (a3.1 b h2 h3 h4 k)
    have g11 : gI σ2 1 1 = 0 := by rw [e2, gI_pR, gI_pR]; exact gI_pI_s _ _ _ _
    have fb : FbA σ2 := fun c hc i hi => by
      have cc := lines_in hc
      by_cases z : c = 478 - a
      · subst z
        exact (a3.2.2.2 i hi (by omega) (hW.2.1 _ hc i hi)).fr (fun j => oI _ (by omega) j)
      · exact (hW.2.1 c hc i hi).fr (fun j => o _ (by omega) (by omega) (by omega) (by omega) j)
    refine ⟨_, _, _, rfl, rfl, t, T, D, N, 478 - a, l', w, fun _ => 0, 0, hT.fr (fun b h1 h2 h3 k => o b (by omega) (by omega) (by omega) (by omega) k) (fun b h1 h2 k => (oL b k).trans (a3.2.1 b (by omega) k)) (oR 7 (by omega) (by omega)) (oR 8 (by omega) (by omega)) ⟨fun x h1 h2 k _ => a4.1 x (by omega) (by omega) k, fun k _ => a4.1 27 (by omega) (by omega) k⟩ (fun x hx k _ => a4.2.2.2.2.2.1 x k (by omega)), hN.fr hT.1 (fun b h1 h2 k => o b (by omega) (by omega) (by omega) (by omega) k) (fun j _ => a4.1 36 (by omega) (by omega) j) (a4.2.1 56 (by omega) (by omega) (by omega)) (a4.2.1 57 (by omega) (by omega) (by omega)), ⟨hb, r9, by rw [r10]; omega, a7, a5.fr (fun b h1 h2 k => oI b (by omega) k), a6⟩, hA.fr (fun b h1 h2 k => o b (by omega) (by omega) (by omega) (by omega) k) (a4.1 32 (by omega) (by omega) _) (fun b h1 h2 k _ => a4.1 b (by omega) (by omega) k), hD.fr (o 196 (by omega) (by omega) (by omega) (by omega)) (o 206 (by omega) (by omega) (by omega) (by omega)), IW.zero (fun i hi => by rw [oL, a3.2.1 5 (by omega)]; exact hW.1 i hi) fb g11 a4.2.2.1, hR.fr hT.1 (fun b h1 h2 k => o b (by omega) (by omega) (by omega) (by omega) k) (a4.2.1 55 (by omega) (by omega) (by omega)) (a4.1 40 (by omega) (by omega)), fun i hi => (hM i hi).fr hT.1 hi (fun b h1 h2 k => o b (by unfold markAt at h1; omega) (by unfold markAt at h1; omega) (by unfold markAt at h1; omega) (by unfold markAt at h2; omega) k) (a4.1 41 (by omega) (by omega) _) (fun k _ _ => a4.1 39 (by omega) (by omega) k) (a4.2.2.2.1 _ (by omega) (by omega)) (fun b h1 h2 k h3 h4 => a4.2.2.2.2.1 b h1 h2 k (by omega) (by omega)) (a4.1 32 (by omega) (by omega) _) (fun b h1 h2 k _ _ => a4.1 b (by omega) (by omega) k)⟩
  · have nf : ¬ nI f = 0 := nI_ne0 f0 (by omega)
    simp only [cl_of _ a1, if_neg nf, a2]
    obtain ⟨σ2, e2⟩ : ∃ q, q = pI σ' 1 1 0 := ⟨_, rfl⟩
    rw [← e2]
    have oI : ∀ b, b ≠ 1 → ∀ k, gI σ2 b k = gI σ' b k := fun b hb k => by rw [e2]; exact gI_pI_n (Or.inl hb)
    have oL : ∀ b k, gL σ2 b k = gL σ' b k := fun b k => by rw [e2]; rfl
    have oR : ∀ b k, gR σ2 b k = gR σ b k := fun b k => by rw [e2, gR_pI]; exact a3.2.2.1 b k
    have o : ∀ b, b ≠ 1 → b ≠ 3 → b ≠ 4 → (b < 478 - a ∨ 478 - a + 3 < b) → ∀ k, gI σ2 b k = gI σ b k := fun b h1 h2 h3 h4 k => (oI b h1 k).trans (a3.1 b h2 h3 h4 k)
    have g11 : gI σ2 1 1 = 0 := by rw [e2]; exact gI_pI_s _ _ _ _
    have fb : FbA σ2 := fun c hc i hi => by
      have cc := lines_in hc
      by_cases z : c = 478 - a
      · subst z
        exact (a3.2.2.2 i hi (by omega) (hW.2.1 _ hc i hi)).fr (fun j => oI _ (by omega) j)
      · exact (hW.2.1 c hc i hi).fr (fun j => o _ (by omega) (by omega) (by omega) (by omega) j)
    refine ⟨_, _, _, rfl, rfl, t, T, D, N, a, l, w, fun _ => 0, 0, hT.fr (fun b h1 h2 h3 k => o b (by omega) (by omega) (by omega) (by omega) k) (fun b h1 h2 k => (oL b k).trans (a3.2.1 b (by omega) k)) (oR _ _) (oR _ _) ⟨fun x h1 h2 k _ => a4.1 x (by omega) (by omega) k, fun k _ => a4.1 27 (by omega) (by omega) k⟩ (fun x hx k _ => a4.2.2.2.2.2.1 x k (by omega)), hN.fr hT.1 (fun b h1 h2 k => o b (by omega) (by omega) (by omega) (by omega) k) (fun j _ => a4.1 36 (by omega) (by omega) j) (a4.2.1 56 (by omega) (by omega) (by omega)) (a4.2.1 57 (by omega) (by omega) (by omega)), hL.fr (fun b h1 h2 k => o b (by omega) (by omega) (by omega) (by omega) k) (oR _ _) (oR _ _) a5 (fun b h1 h2 k hk => a6 b h1 h2 k hk), hA.fr (fun b h1 h2 k => o b (by omega) (by omega) (by omega) (by omega) k) (a4.1 32 (by omega) (by omega) _) (fun b h1 h2 k _ => a4.1 b (by omega) (by omega) k), hD.fr (o 196 (by omega) (by omega) (by omega) (by omega)) (o 206 (by omega) (by omega) (by omega) (by omega)), IW.zero (fun i hi => by rw [oL, a3.2.1 5 (by omega)]; exact hW.1 i hi) fb g11 a4.2.2.1, hR.fr hT.1 (fun b h1 h2 k => o b (by omega) (by omega) (by omega) (by omega) k) (a4.2.1 55 (by omega) (by omega) (by omega)) (a4.1 40 (by omega) (by omega)), fun i hi => (hM i hi).fr hT.1 hi (fun b h1 h2 k => o b (by unfold markAt at h1; omega) (by unfold markAt at h1; omega) (by unfold markAt at h1; omega) (by unfold markAt at h2; omega) k) (a4.1 41 (by omega) (by omega) _) (fun k _ _ => a4.1 39 (by omega) (by omega) k) (a4.2.2.2.1 _ (by omega) (by omega)) (fun b h1 h2 k h3 h4 => a4.2.2.2.2.1 b h1 h2 k (by omega) (by omega)) (a4.1 32 (by omega) (by omega) _) (fun b h1 h2 k _ _ => a4.1 b (by omega) (by omega) k)⟩
