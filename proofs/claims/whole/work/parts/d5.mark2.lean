theorem mk_n : ∀ i, i < 4 → isNight (markAt i + 1) = true ∧ isLines (markAt i + 8) = true ∧ isWatched (markAt i + 12) = true := by decide
theorem v_mark0 {σ μ : Mm} {t a i : Nat} {T : Tw} {D : Nat → Nat → Nat} {N : Nt} {l : Ln} {w : Wt} {s : Nat → Nat} {n : Nat} (hT : IT σ μ t T D) (hN : IN σ μ T N) (hL : IL σ μ T a l) (hA : IA σ μ T w) (hD : ID σ T N) (hW : IW σ μ s n) (hR : RgI σ μ T) (hM : ∀ i, i < 4 → MkI σ μ T i) (i4 : i < 4) : ∃ σ' μ3 μ4 μ', f_X3_lay (markAt i) 6 a 127 σ = some (0, σ') ∧ f_X12_laysLines 0 (nI (1 + i)) (pI μ 41 i 1) = some (0, μ3) ∧ f_X12_laysWatched 0 (nI (1 + i)) μ3 = some (0, μ4) ∧ f_X12_copies 36 0 39 (nI (41 * i)) μ4 = some (0, μ') ∧ Iv σ' μ' := by
  have ta := town_a hT.2.2.2.1.1
  have la := hL.1
  have mi : markAt i = 132 + 16 * i := rfl
  obtain ⟨q1, q2, q3⟩ := mk_n i i4
  obtain ⟨σ1, e1⟩ : ∃ q, q = pI σ (markAt i) 0 1 := ⟨_, rfl⟩
  have k1 : ∀ b, b ≠ markAt i → ∀ k, gI σ1 b k = gI σ b k := fun b hb k => by rw [e1, gI_pI_n (Or.inl hb)]
  obtain ⟨σ2, a1, a2, a3, _⟩ := s_copyFrom q1 (show markAt i + 1 ≠ 6 by omega) hT.1.2.2.1 (hN.2.1.fr (τ := σ1) (fun b h1 h2 k => k1 b (by omega) k))
  have k2 : ∀ b, b < markAt i ∨ markAt i + 6 < b → ∀ k, gI σ2 b k = gI σ b k := fun b hb k => by rw [a3.1 b (by simp; omega)]; exact k1 b (by omega) k
  obtain ⟨σ3, b1, b2, b3, b4⟩ := s_copyL (σ := σ2) q2 (show markAt i + 8 ≠ a by omega) (hL.2.2.2.2.1.fr (fun b h1 h2 k => k2 b (by omega) k)) hL.2.2.2.1.1 (fun j hj => (hW.2.1 a hL.2.2.2.2.1.1 j hj).fr (fun k => k2 _ (by omega) k))
  have k3 : ∀ b, b < markAt i ∨ markAt i + 11 < b → ∀ k, gI σ3 b k = gI σ b k := fun b hb k => by rw [b4.1 b (by simp; omega)]; exact k2 b (by omega) k
  obtain ⟨σ4, c1, c2, c3⟩ := s_copyW (σ := σ3) (T := T) q3 (show markAt i + 12 ≠ 127 by omega) (hA.2.1.fr (fun b h1 h2 k => k3 b (by omega) k)) hA.1
  have k4 : ∀ b, b < markAt i ∨ markAt i + 15 < b → ∀ k, gI σ4 b k = gI σ b k := fun b hb k => by rw [c3.1 b (by simp; omega)]; exact k3 b (by omega) k
  have oL : ∀ b k, gL σ4 b k = gL σ b k := fun b k => by rw [c3.2.1, b4.2.1, a3.2.1, e1, gL_pI]
  have oR : ∀ b k, gR σ4 b k = gR σ b k := fun b k => by rw [c3.2.2, b4.2.2, a3.2.2, e1, gR_pI]
  have g0 : gI σ4 (markAt i) 0 = 1 := by rw [c3.1 _ (by simp; omega), b4.1 _ (by simp; omega), a3.1 _ (by simp; omega), e1, gI_pI_s]
  obtain ⟨μ2, e2⟩ : ∃ q, q = pI μ 41 i 1 := ⟨_, rfl⟩
  obtain ⟨μ3, d1, d2, d3, d4⟩ := m_laysLines (σ := μ2) (a := 0) (b := 1 + i) (by omega) (by omega) (by omega)
  obtain ⟨μ4, f1, f2, f3, f4, f5⟩ := m_laysWatched (σ := μ3) (a := 0) (b := 1 + i) (by omega) (by omega) (by omega)
  obtain ⟨μ5, g1, g2, g3, g4⟩ := m_copies (a := 36) (b := 39) (o := 0) (p := 41 * i) μ4 rfl rfl (by decide) (by decide) (by show 41 * i + 41 ≤ 164; omega) (by decide) (by decide)
  have p2 : ∀ b, b ≠ 41 → ∀ k, gI μ2 b k = gI μ b k := fun b hb k => by rw [e2, gI_pI_n (Or.inl hb)]
  have p3 : ∀ b, b ≠ 41 → (b < 28 ∨ 31 < b) → ∀ k, gI μ3 b k = gI μ b k := fun b h1 h2 k => by rw [d2.1 b (by simp; omega)]; exact p2 b h1 k
  have p4 : ∀ b, b ≠ 41 → (b < 28 ∨ 35 < b) → ∀ k, gI μ4 b k = gI μ b k := fun b h1 h2 k => by rw [f2.1 b (by simp; omega)]; exact p3 b h1 (by omega) k
  have p5 : ∀ b, b ≠ 41 → b ≠ 39 → (b < 28 ∨ 35 < b) → ∀ k, gI μ5 b k = gI μ b k := fun b h1 h2 h3 k => by rw [g2.1 b (by simp; omega)]; exact p4 b h1 h3 k
  have pL : ∀ b k, gL μ5 b k = gL μ b k := fun b k => by rw [g2.2.1, f2.2.1, d2.2.1, e2, gL_pI]
  have x28 : ∀ k, k ≠ 1 + i → gI μ5 28 k = gI μ 28 k := fun k hk => by rw [g2.1 28 (by simp), f2.1 28 (by simp), d3, if_neg hk, p2 28 (by omega)]
  have x29 : ∀ b, 29 ≤ b → b ≤ 31 → ∀ k, (k < 40 * (1 + i) ∨ 40 * (1 + i) + 40 ≤ k) → gI μ5 b k = gI μ b k := fun b h1 h2 k hk => by rw [g2.1 b (by simp; omega), f2.1 b (by simp; omega), (d4 b (by omega)).2 k hk, p2 b (by omega)]
  have x32 : ∀ k, k ≠ 1 + i → gI μ5 32 k = gI μ 32 k := fun k hk => by rw [g2.1 32 (by simp), f3, if_neg hk, p3 32 (by omega) (by omega)]
  have x33 : ∀ b, 33 ≤ b → b ≤ 35 → ∀ k, (k < 6 * (1 + i) ∨ 6 * (1 + i) + 6 ≤ k) → gI μ5 b k = gI μ b k := fun b h1 h2 k hk => by rw [g2.1 b (by simp; omega), f5 b h1 h2 k hk, p3 b (by omega) (by omega)]
  have x41 : ∀ k, k ≠ i → gI μ5 41 k = gI μ 41 k := fun k hk => by rw [g2.1 41 (by simp), f2.1 41 (by simp), d2.1 41 (by simp), e2, gI_pI_n (Or.inr hk)]
  have y41 : gI μ5 41 i = 1 := by rw [g2.1 41 (by simp), f2.1 41 (by simp), d2.1 41 (by simp), e2, gI_pI_s]
  have y28 : ∀ k, gI μ5 28 k = gI μ3 28 k := fun k => by rw [g2.1 28 (by simp), f2.1 28 (by simp)]
  have y29 : ∀ b, 29 ≤ b → b ≤ 31 → ∀ k, gI μ5 b k = gI μ3 b k := fun b h1 h2 k => by rw [g2.1 b (by simp; omega), f2.1 b (by simp; omega)]
  have y32 : ∀ b, 32 ≤ b → b ≤ 35 → ∀ k, gI μ5 b k = gI μ4 b k := fun b h1 h2 k => g2.1 b (by simp; omega) k
  have lr2 : LR μ2 0 l := hL.2.2.2.2.2.fr hL.2.2.2.1.1 (p2 28 (by omega) _) (fun b h1 h2 k _ _ => p2 b (by omega) k)
  have lr5 : LR μ5 (1 + i) l := (lr2.lay hL.2.2.2.1.1 d3 d4).fr hL.2.2.2.1.1 (y28 _) (fun b h1 h2 k _ _ => y29 b h1 h2 k)
  have wr3 : WR μ3 0 w := hA.2.2.fr hA.1.1 (p3 32 (by omega) (by omega) _) (fun b h1 h2 k _ _ => p3 b (by omega) (by omega) k)
  have wr5 : WR μ5 (1 + i) w := (wr3.lay hA.1 f3 f4).fr hA.1.1 (y32 32 (by omega) (by omega) _) (fun b h1 h2 k _ _ => y32 b (by omega) (by omega) k)
  rw [← e2]
  refine ⟨σ4, μ3, μ4, μ5, ?_, d1, f1, g1, t, T, D, N, a, l, w, s, n, hT.fr (fun b h1 h2 h3 k => k4 b (by omega) k) (fun b _ _ k => oL b k) (oR _ _) (oR _ _) ⟨fun x h1 h2 k _ => p5 x (by omega) (by omega) (by omega) k, fun k _ => p5 27 (by omega) (by omega) (by omega) k⟩ (fun x hx k _ => pL x k), hN.fr hT.1 (fun b h1 h2 k => k4 b (by omega) k) (fun j _ => p5 36 (by omega) (by omega) (by omega) j) (p5 0 (by omega) (by omega) (by omega) _) (p5 0 (by omega) (by omega) (by omega) _), hL.fr (fun b h1 h2 k => k4 b (by omega) k) (oR _ _) (oR _ _) (x28 0 (by omega)) (fun b h1 h2 k hk => x29 b h1 h2 k (by omega)), hA.fr (fun b h1 h2 k => k4 b (by omega) k) (x32 0 (by omega)) (fun b h1 h2 k hk => x33 b h1 h2 k (by omega)), hD.fr (k4 196 (by omega)) (k4 206 (by omega)), ⟨fun j hj => by rw [oL]; exact hW.1 j hj, fun c hc j hj => ?_, hW.2.2.1, by rw [k4 1 (by omega)]; exact hW.2.2.2.1, by rw [p5 0 (by omega) (by omega) (by omega)]; exact hW.2.2.2.2.1, fun k hk => by rw [k4 2 (by omega), p5 1 (by omega) (by omega) (by omega)]; exact hW.2.2.2.2.2 k hk⟩, hR.fr hT.1 (fun b h1 h2 k => k4 b (by omega) k) (p5 0 (by omega) (by omega) (by omega) _) (p5 40 (by omega) (by omega) (by omega)), fun j hj => ?_⟩
  · unfold f_X3_lay
    rw [ck_t (mk_is i i4), ck_t n6, ck_t hL.2.2.2.2.1.1, ck_t hA.2.1.1, bn_e, ← e1, cl_of _ a1, cl_of _ b1, cl_of _ c1]
  · have cc := lines_in hc
    by_cases z : c = markAt i + 8
    · subst z
      exact (b3 j hj).fr (fun k => c3.1 _ (by simp; omega) k)
    · exact (hW.2.1 c hc j hj).fr (fun k => k4 _ (by omega) k)
  · by_cases z : j = i
    · subst z
      refine Or.inr ⟨g0, y41, N, l, w, hN.1, hL.2.2.2.1, hA.1, a2.fr (fun b h1 h2 k => ?_), b2.fr (fun b h1 h2 k => ?_), c2, hN.2.2.1.copy hT.1.2.2.1 (fun k hk => ?_), lr5, wr5⟩
      · rw [c3.1 b (by simp; omega), b4.1 b (by simp; omega)]
      · rw [c3.1 b (by simp; omega)]
      · rw [g3 k hk, p4 36 (by omega) (by omega)]
    · exact (hM j hj).fr hT.1 hj (fun b h1 h2 k => k4 b (by unfold markAt at h1 h2; omega) k) (x41 j z) (fun k h1 h2 => by rw [g4 k (by omega), p4 39 (by omega) (by omega)]) (x28 _ (by omega)) (fun b h1 h2 k h3 h4 => x29 b h1 h2 k (by omega)) (x32 _ (by omega)) (fun b h1 h2 k h3 h4 => x33 b h1 h2 k (by omega))
theorem v_mark1 {σ μ : Mm} {t a i : Nat} {T : Tw} {D : Nat → Nat → Nat} {N N' : Nt} {l l' : Ln} {w w' : Wt} {s : Nat → Nat} {n : Nat} (hT : IT σ μ t T D) (hN : IN σ μ T N) (hL : IL σ μ T a l) (hA : IA σ μ T w) (hW : IW σ μ s n) (hR : RgI σ μ T) (hM : ∀ i, i < 4 → MkI σ μ T i) (i4 : i < 4) (h41 : gI μ 41 i = 1) (h1 : NtOk T N') (h2 : LnOk T l') (h3 : WtOk T w') (h4 : RC σ (markAt i + 1) (tW T) N') (h5 : LC σ (markAt i + 8) l') (h6 : WC σ (markAt i + 12) w') (h7 : RP μ 39 (41 * i) T N') (h8 : LR μ (1 + i) l') (h9 : WR μ (1 + i) w') : ∃ σ2 σ3 σ4 μ3 μ4 μ5, f_X4_copyFrom 6 (markAt i + 1) σ = some (0, σ2) ∧ gR σ2 0 9 = a ∧ f_X2_copyFrom a (markAt i + 8) σ2 = some (0, σ3) ∧ f_X10_copyFrom 127 (markAt i + 12) σ3 = some (0, σ4) ∧ f_X12_laysLines (nI (1 + i)) 0 (pI μ 41 i 1) = some (0, μ3) ∧ f_X12_laysWatched (nI (1 + i)) 0 μ3 = some (0, μ4) ∧ f_X12_copies 39 (nI (41 * i)) 36 0 μ4 = some (0, μ5) ∧ Iv (pI (pI σ4 13 1 0) 196 3 0) (pI μ5 0 55 0) := by
  have ta := town_a hT.2.2.2.1.1
  have la := hL.1
  have mi : markAt i = 132 + 16 * i := rfl
  obtain ⟨q1, q2, q3⟩ := mk_n i i4
  obtain ⟨σ2, a1, a2, a3, _⟩ := s_copyFrom n6 (show 6 ≠ markAt i + 1 by omega) hT.1.2.2.1 h4
  have k2 : ∀ b, b < 6 ∨ 11 < b → ∀ k, gI σ2 b k = gI σ b k := fun b hb k => a3.1 b (by simp; omega) k
  obtain ⟨σ3, b1, b2, b3, b4⟩ := s_copyL (σ := σ2) hL.2.2.2.2.1.1 (show a ≠ markAt i + 8 by omega) (h5.fr (fun b h1 h2 k => k2 b (by omega) k)) h2.1 (fun j hj => (hW.2.1 _ q2 j hj).fr (fun k => k2 _ (by omega) k))
  have k3 : ∀ b, b < 6 ∨ 11 < b → (b < a ∨ a + 3 < b) → ∀ k, gI σ3 b k = gI σ b k := fun b hb hc k => by rw [b4.1 b (by simp; omega)]; exact k2 b hb k
  obtain ⟨σ4, c1, c2, c3⟩ := s_copyW (σ := σ3) (T := T) hA.2.1.1 (show 127 ≠ markAt i + 12 by omega) (h6.fr (fun b h1 h2 k => k3 b (by omega) (by omega) k)) h3
  have k4 : ∀ b, b < 6 ∨ 11 < b → (b < a ∨ a + 3 < b) → (b < 127 ∨ 130 < b) → ∀ k, gI σ4 b k = gI σ b k := fun b hb hc hd k => by rw [c3.1 b (by simp; omega)]; exact k3 b hb hc k
  obtain ⟨σ5, e5⟩ : ∃ q, q = pI (pI σ4 13 1 0) 196 3 0 := ⟨_, rfl⟩
  have s5 : ∀ b, b ≠ 13 → b ≠ 196 → ∀ k, gI σ5 b k = gI σ4 b k := fun b h1 h2 k => by rw [e5, gI_pI_n (Or.inl h2), gI_pI_n (Or.inl h1)]
  have k5 : ∀ b, b < 6 ∨ 11 < b → (b < a ∨ a + 3 < b) → (b < 127 ∨ 130 < b) → b ≠ 13 → b ≠ 196 → ∀ k, gI σ5 b k = gI σ b k := fun b hb hc hd h1 h2 k => (s5 b h1 h2 k).trans (k4 b hb hc hd k)
  have oL : ∀ b k, gL σ5 b k = gL σ b k := fun b k => by rw [e5, gL_pI, gL_pI, c3.2.1, b4.2.1, a3.2.1]
  have oR : ∀ b k, gR σ5 b k = gR σ b k := fun b k => by rw [e5, gR_pI, gR_pI, c3.2.2, b4.2.2, a3.2.2]
  obtain ⟨μ2, e2⟩ : ∃ q, q = pI μ 41 i 1 := ⟨_, rfl⟩
  obtain ⟨μ3, d1, d2, d3, d4⟩ := m_laysLines (σ := μ2) (a := 1 + i) (b := 0) (by omega) (by omega) (by omega)
  obtain ⟨μ4, f1, f2, f3, f4, f5⟩ := m_laysWatched (σ := μ3) (a := 1 + i) (b := 0) (by omega) (by omega) (by omega)
  obtain ⟨μ5, g1, g2, g3, g4⟩ := m_copies (a := 39) (b := 36) (o := 41 * i) (p := 0) μ4 rfl rfl (by decide) (by show 41 * i + 41 ≤ 164; omega) (by decide) (by decide) (by decide)
  obtain ⟨μ6, e6⟩ : ∃ q, q = pI μ5 0 55 0 := ⟨_, rfl⟩
  have p2 : ∀ b k, gI μ2 b k = gI μ b k := fun b k => by
    rw [e2, gI_pI]
    split
    · rename_i z; rw [z.1, z.2]; exact h41.symm
    · rfl
  have p3 : ∀ b, (b < 28 ∨ 31 < b) → ∀ k, gI μ3 b k = gI μ b k := fun b h2 k => by rw [d2.1 b (by simp; omega)]; exact p2 b k
  have p4 : ∀ b, (b < 28 ∨ 35 < b) → ∀ k, gI μ4 b k = gI μ b k := fun b h2 k => by rw [f2.1 b (by simp; omega)]; exact p3 b (by omega) k
  have p5 : ∀ b, b ≠ 36 → (b < 28 ∨ 35 < b) → ∀ k, gI μ5 b k = gI μ b k := fun b h1 h3 k => by rw [g2.1 b (by simp; omega)]; exact p4 b h3 k
  have s6 : ∀ b, b ≠ 0 → ∀ k, gI μ6 b k = gI μ5 b k := fun b hb k => by rw [e6, gI_pI_n (Or.inl hb)]
  have p6 : ∀ b, b ≠ 0 → b ≠ 36 → (b < 28 ∨ 35 < b) → ∀ k, gI μ6 b k = gI μ b k := fun b h1 h2 h3 k => (s6 b h1 k).trans (p5 b h2 h3 k)
  have p0 : ∀ j, j ≠ 55 → gI μ6 0 j = gI μ 0 j := fun j hj => by rw [e6, gI_pI_n (Or.inr hj)]; exact p5 0 (by omega) (by omega) j
  have pL : ∀ b k, gL μ6 b k = gL μ b k := fun b k => by rw [e6, gL_pI, g2.2.1, f2.2.1, d2.2.1, e2, gL_pI]
  have y28 : ∀ k, gI μ6 28 k = gI μ3 28 k := fun k => by rw [s6 28 (by omega), g2.1 28 (by simp), f2.1 28 (by simp)]
  have y29 : ∀ b, 29 ≤ b → b ≤ 31 → ∀ k, gI μ6 b k = gI μ3 b k := fun b h1 h2 k => by rw [s6 b (by omega), g2.1 b (by simp; omega), f2.1 b (by simp; omega)]
  have y32 : ∀ b, 32 ≤ b → b ≤ 35 → ∀ k, gI μ6 b k = gI μ4 b k := fun b h1 h2 k => by rw [s6 b (by omega)]; exact g2.1 b (by simp; omega) k
  have x28 : ∀ k, k ≠ 0 → gI μ6 28 k = gI μ 28 k := fun k hk => by rw [y28, d3, if_neg hk, p2]
  have x29 : ∀ b, 29 ≤ b → b ≤ 31 → ∀ k, 40 ≤ k → gI μ6 b k = gI μ b k := fun b h1 h2 k hk => by rw [y29 b h1 h2, (d4 b (by omega)).2 k (by omega), p2]
  have x32 : ∀ k, k ≠ 0 → gI μ6 32 k = gI μ 32 k := fun k hk => by rw [y32 32 (by omega) (by omega), f3, if_neg hk, p3 32 (by omega)]
  have x33 : ∀ b, 33 ≤ b → b ≤ 35 → ∀ k, 6 ≤ k → gI μ6 b k = gI μ b k := fun b h1 h2 k hk => by rw [y32 b (by omega) h2, f5 b h1 h2 k (by omega), p3 b (by omega)]
  have lr2 : LR μ2 (1 + i) l' := h8.fr h2.1 (p2 _ _) (fun b _ _ k _ _ => p2 b k)
  have lr6 : LR μ6 0 l' := (lr2.lay h2.1 d3 d4).fr h2.1 (y28 _) (fun b h1 h2 k _ _ => y29 b h1 h2 k)
  have wr3 : WR μ3 (1 + i) w' := h9.fr h3.1 (p3 32 (by omega) _) (fun b h1 h2 k _ _ => p3 b (by omega) k)
  have wr6 : WR μ6 0 w' := (wr3.lay h3 f3 f4).fr h3.1 (y32 32 (by omega) (by omega) _) (fun b h1 h2 k _ _ => y32 b (by omega) (by omega) k)
  obtain ⟨tp, tp1, tp2⟩ := hR.top
  refine ⟨σ2, σ3, σ4, μ3, μ4, μ5, a1, by rw [a3.2.2]; exact hL.2.1, b1, c1, by rw [← e2]; exact d1, f1, g1, ?_⟩
  rw [← e5, ← e6]
  refine ⟨t, T, D, N', a, l', w', s, n, hT.fr (fun b h1 h2 h3 k => k5 b (by omega) (by omega) (by omega) (by omega) (by omega) k) (fun b _ _ k => oL b k) (oR _ _) (oR _ _) ⟨fun x h1 h2 k _ => p6 x (by omega) (by omega) (by omega) k, fun k _ => p6 27 (by omega) (by omega) (by omega) k⟩ (fun x hx k _ => pL x k), ⟨h1, a2.fr (fun b y1 y2 k => ?_), h7.copy hT.1.2.2.1 (fun j hj => ?_), (p0 56 (by omega)).trans hN.2.2.2.1, (p0 57 (by omega)).trans hN.2.2.2.2⟩, ⟨la, by rw [oR]; exact hL.2.1, by rw [oR]; exact hL.2.2.1, h2, b2.fr (fun b y1 y2 k => ?_), lr6⟩, ⟨h3, c2.fr (fun b y1 y2 k => s5 b (by omega) (by omega) k), wr6⟩, fun z => absurd (by rw [e5, gI_pI_s]) z, ⟨fun j hj => by rw [oL]; exact hW.1 j hj, fun c hc j hj => ?_, hW.2.2.1, by rw [k5 1 (by omega) (by omega) (by omega) (by omega) (by omega)]; exact hW.2.2.2.1, by rw [p0 1 (by omega)]; exact hW.2.2.2.2.1, fun k hk => by rw [k5 2 (by omega) (by omega) (by omega) (by omega) (by omega), p6 1 (by omega) (by omega) (by omega)]; exact hW.2.2.2.2.2 k hk⟩, RgI.zero tp1 (by rw [e5, gI_pI_n (Or.inl (by decide)), gI_pI_s]) (by rw [e5, gI_pI_n (Or.inl (by decide)), gI_pI_n (Or.inr (by decide)), k4 13 (by omega) (by omega) (by omega)]; exact tp2) (by rw [e6, gI_pI_s]), fun j hj => (hM j hj).fr hT.1 hj (fun b y1 y2 k => k5 b (by unfold markAt at y1 y2; omega) (by unfold markAt at y1 y2; omega) (by unfold markAt at y1 y2; omega) (by unfold markAt at y1 y2; omega) (by unfold markAt at y1 y2; omega) k) (p6 41 (by omega) (by omega) (by omega) _) (fun k _ _ => p6 39 (by omega) (by omega) (by omega) k) (x28 _ (by omega)) (fun b y1 y2 k y3 y4 => x29 b y1 y2 k (by omega)) (x32 _ (by omega)) (fun b y1 y2 k y3 y4 => x33 b y1 y2 k (by omega))⟩
  · rw [s5 b (by omega) (by omega), c3.1 b (by simp; omega), b4.1 b (by simp; omega)]
  · rw [s6 36 (by omega), g3 j hj, p4 39 (by omega)]
  · rw [s5 b (by omega) (by omega), c3.1 b (by simp; omega)]
  · have cc := lines_in hc
    by_cases z : c = a
    · subst z
      exact (b3 j hj).fr (fun k => by rw [s5 _ (by omega) (by omega), c3.1 _ (by simp; omega)])
    · exact (hW.2.1 c hc j hj).fr (fun k => k5 _ (by omega) (by omega) (by omega) (by omega) (by omega) k)
theorem v_mark {σ μ : Mm} (h : Iv σ μ) (x y : Int32) : AnI (f_X11_mark x y) (f_X12_mark x y) σ μ := by
  have hh := iv_z h
  obtain ⟨μ1, e1⟩ : ∃ y, y = pI μ 0 0 0 := ⟨_, rfl⟩
  rw [← e1] at hh
  have hi := hh
  unfold AnI f_X11_mark f_X12_mark
  obtain ⟨t, T, D, N, a, l, w, s, n, hT, hN, hL, hA, hD, hW, hR, hM⟩ := hh
  have b1 : vp_nar .boolean 1 = 1 := rfl
  simp only [bn_e, ← e1, cl_of _ (m_within x 0 3 _), jn_e2, b1]
  by_cases v : ¬ x < 0 ∧ ¬ 3 < x
  · obtain ⟨i, hi3, rfl⟩ := nI_of2 (M := 3) (n := 3) rfl v.1 (Int32.not_lt.mp v.2)
    have i4 : i < 4 := by omega
    have lt4 : nI i < 4 := nI_lt (a := i) (b := 4) i4 (by omega)
    have e1i : (1 : Int32) + nI i = nI (1 + i) := nI_add 1 i
    simp only [if_neg v.1, if_pos lt4, ck_t (inb_nI i4 (by omega)), nI_tn (show i < 2147483648 by omega), if_pos v, if_neg one0, ck_t (mk_is i i4), J_X12_mark_59, jn_e2, e1i, rg_41 i (by omega)]
    by_cases z : y = 0
    · subst z
      obtain ⟨σ', μ3, μ4, μ', a1, a2, a3, a4, a5⟩ := v_mark0 hT hN hL hA hD hW hR hM i4
      simp only [if_true, hL.2.1, cl_of _ a1, cl_of _ a2, cl_of _ a3, cl_of _ a4]
      exact ⟨_, _, _, rfl, rfl, a5⟩
    · simp only [if_neg z]
      rcases hM i i4 with ⟨m1, m2⟩ | ⟨m1, m2, N', l', w', h1, h2, h3, h4, h5, h6, h7, h8, h9⟩
      · simp only [m1, m2, if_true]
        exact ⟨_, _, _, rfl, rfl, hi⟩
      · obtain ⟨σ2, σ3, σ4, μ3, μ4, μ5, a1, a2, a3, a4, a5, a6, a7, a8⟩ := v_mark1 hT hN hL hA hW hR hM i4 m2 h1 h2 h3 h4 h5 h6 h7 h8 h9
        simp only [m1, m2, if_neg one0, cl_of _ a1, a2, ck_t hL.2.2.2.2.1.1, cl_of _ a3, cl_of _ a4, f_X5_forget, f_X0_forget, bn_e, cl_of _ a5, cl_of _ a6, cl_of _ a7]
        exact ⟨_, _, _, rfl, rfl, a8⟩
  · simp only [if_neg v, if_true]
    by_cases v1 : x < 0
    · simp only [if_pos v1]
      exact ⟨_, _, _, rfl, rfl, hi⟩
    · have v2 : ¬ x < 4 := fun q => v ⟨v1, fun q2 => by
        obtain ⟨j, hj, rfl⟩ := in_nat (n := 4) (by omega) v1 q
        have := (nI_ltI (a := 3) (b := j) (by omega) (by omega)).mp q2
        omega⟩
      simp only [if_neg v1, if_neg v2]
      exact ⟨_, _, _, rfl, rfl, hi⟩
