/-! town -/
def MkZ (σ : Mm) (i : Nat) (b : Mm) : Prop := (∀ j, j < i → gI b (markAt j) 0 = 0) ∧ (∀ c, c < 132 ∨ 195 < c → ∀ k, gI b c k = gI σ c k) ∧ (∀ c j, (∀ i, i < 4 → c ≠ markAt i ∨ j ≠ 0) → gI b c j = gI σ c j) ∧ (∀ c k, gL b c k = gL σ c k) ∧ ∀ c k, gR b c k = gR σ c k
theorem mk_is : ∀ i, i < 4 → isMark (markAt i) = true := by decide
theorem s_marks (σ : Mm) (kx : Mm → Option (Int32 × Mm)) : ∃ τ, lq2 (F_X11_town_87 kx) 1000000 (0 : Int32) σ = kx τ ∧ MkZ σ 4 τ := by
  have q := lq2_inv (F := F_X11_town_87 kx) (fun i => nI i) (fun i b => MkZ σ i b) 4 kx ?_ ?_ (n := 1000000) (b0 := σ) ?_ (by omega)
  · obtain ⟨c, hc, e⟩ := q
    exact ⟨c, e, hc⟩
  · intro rc i b hi hb
    have l1 : nI i < 4 := nI_lt (a := i) (b := 4) hi (by omega)
    have mi : markAt i = 132 + 16 * i := rfl
    refine ⟨pI b (markAt i) 0 0, ⟨fun j hj => ?_, fun c hc k => ?_, fun c j hcj => ?_, fun c k => ?_, fun c k => ?_⟩, ?_⟩
    · by_cases z : j = i
      · subst z; rw [gI_pI_s]
      · rw [gI_pI_n (Or.inl (by unfold markAt; omega))]; exact hb.1 j (by omega)
    · rw [gI_pI_n (Or.inl (by omega))]; exact hb.2.1 c hc k
    · rw [gI_pI_n (hcj i hi)]; exact hb.2.2.1 c j hcj
    · exact hb.2.2.2.1 c k
    · exact hb.2.2.2.2 c k
    · unfold F_X11_town_87
      rw [if_pos l1, ck_t (inb_nI hi (by omega)), bn_e, jn_e2, ck_t (inb_nI hi (by omega)), bn_e, nI_tn (by omega), ck_t (mk_is i hi), bn_e, nI_1]
  · intro rc b hb
    have c1 : ¬ nI 4 < 4 := by decide
    unfold F_X11_town_87
    rw [if_neg c1]
  · exact ⟨fun j hj => absurd hj (Nat.not_lt_zero j), fun _ _ _ => rfl, fun _ _ _ => rfl, fun _ _ => rfl, fun _ _ => rfl⟩
theorem m_marks (σ : Mm) (kx : Mm → Option (Int32 × Mm)) : ∃ τ, lq2 (F_X12_town_50 kx) 1000000 (0 : Int32) σ = kx τ ∧ (∀ j, j < 4 → gI τ 41 j = 0) ∧ Off [41] σ τ := by
  have q := lq2_inv (F := F_X12_town_50 kx) (fun i => nI i) (fun i b => (∀ j, j < i → gI b 41 j = 0) ∧ Off [41] σ b) 4 kx ?_ ?_ (n := 1000000) (b0 := σ) ?_ (by omega)
  · obtain ⟨c, hc, e⟩ := q
    exact ⟨c, e, hc⟩
  · intro rc i b hi hb
    have l1 : nI i < 4 := nI_lt (a := i) (b := 4) hi (by omega)
    have b0 : vp_nar .boolean 0 = 0 := rfl
    refine ⟨pI b 41 i 0, ⟨fun j hj => ?_, hb.2.tr (Off.pI (by simp))⟩, ?_⟩
    · by_cases z : j = i
      · subst z; rw [gI_pI_s]
      · rw [gI_pI_n (Or.inr z)]; exact hb.1 j (by omega)
    · unfold F_X12_town_50
      rw [if_pos l1, ck_t (inb_nI hi (by omega)), bn_e, nI_tn (by omega), b0, nI_1]
  · intro rc b hb
    have c1 : ¬ nI 4 < 4 := by decide
    unfold F_X12_town_50
    rw [if_neg c1]
  · exact ⟨fun j hj => absurd hj (Nat.not_lt_zero j), Off.rf⟩
theorem v_town {σ μ : Mm} (h : Iv σ μ) : AnI f_X11_town f_X12_town σ μ := by
  have hh := iv_z h
  obtain ⟨μ1, e1⟩ : ∃ y, y = pI μ 0 0 0 := ⟨_, rfl⟩
  rw [← e1] at hh
  unfold AnI f_X11_town f_X12_town
  obtain ⟨t, T, D, N, a, l, w, s, n, hT, hN, hL, hA, hD, hW, hR, hM⟩ := hh
  have ta := town_a hT.2.2.2.1.1
  have la := hL.1
  obtain ⟨u, eu⟩ : ∃ u, u = 429 - t := ⟨_, rfl⟩
  have ua : u = 207 ∨ u = 222 := by omega
  have hu : isTown u = true := by rcases ua with z | z <;> rw [z] <;> decide
  have n0 : (0 : Int32).toNatClampNeg = 0 := rfl
  have r8 : gR σ 0 8 = u := hT.2.2.1.trans eu.symm
  rw [bn_e, bn_e, ← e1, r8]
  rcases r_town hW.2.2 hW.1 hu with ⟨σ1, μ2, P, L, W, c1, c2, c3, c4, c5, c6, c7⟩ | ⟨σ1, μ2, f, f0, f1, c1, c2, c4, c5, c6⟩
  · obtain ⟨σ2, υ, χ, T', D', d1, d2, d3, d4, d5, d6, d7, d8, d9, d10, d11, d12, d13, d14, d15, d16⟩ := r_told c7 c6
    have rd : f_X6_readTown u σ = some (0, σ2) := by
      rw [c1, cl_of _ d1, d10.1 3 (by simp), c5]
    have o2 : ∀ b, b ≠ 3 → b ≠ 4 → (b < u ∨ u + 14 < b) → ∀ k, gI σ2 b k = gI σ b k := fun b h1 h2 h3 k => (d10.1 b (by simp; omega) k).trans (c3.1 b h1 h2 h3 k)
    have oL2 : ∀ b, b ≠ 4 → (b < u ∨ u + 14 < b) → ∀ k, gL σ2 b k = gL σ b k := fun b h1 h2 k => (d10.2.1 b k).trans (c3.2.1 b h1 h2 k)
    have oR2 : ∀ b k, gR σ2 b k = gR σ b k := fun b k => (d10.2.2 b k).trans (c3.2.2 b k)
    obtain ⟨σ3, e3⟩ : ∃ q, q = pI σ2 1 1 0 := ⟨_, rfl⟩
    obtain ⟨σ4, e4⟩ : ∃ q, q = pR σ3 0 8 t := ⟨_, rfl⟩
    obtain ⟨σ5, e5⟩ : ∃ q, q = pR σ4 0 7 u := ⟨_, rfl⟩
    have i5 : ∀ b, b ≠ 1 → ∀ k, gI σ5 b k = gI σ2 b k := fun b hb k => by rw [e5, gI_pR, e4, gI_pR, e3, gI_pI_n (Or.inl hb)]
    have l5 : ∀ b k, gL σ5 b k = gL σ2 b k := fun b k => by rw [e5, e4, e3]; rfl
    have x8 : gR σ3 0 8 = u := by rw [e3, gR_pI, oR2]; exact r8
    have x7 : gR σ3 0 7 = t := by rw [e3, gR_pI, oR2]; exact hT.2.1
    have y7 : gR σ5 0 7 = u := by rw [e5, gR_pR, if_pos ⟨rfl, rfl⟩]
    have y8 : gR σ5 0 8 = t := by rw [e5, gR_pR, if_neg (by omega), e4, gR_pR, if_pos ⟨rfl, rfl⟩]
    have y9 : ∀ k, k ≠ 7 → k ≠ 8 → gR σ5 0 k = gR σ 0 k := fun k h1 h2 => by rw [e5, gR_pR, if_neg (by omega), e4, gR_pR, if_neg (by omega), e3, gR_pI]; exact oR2 0 k
    have tc5 : TC σ5 u T' := d5.fr (fun b h1 h2 _ k => i5 b (by omega) k)
    obtain ⟨σ6, g1, g2, g3⟩ := s_begin tc5 d4 n6
    have i6 : ∀ b, b < 6 ∨ 11 < b → ∀ k, gI σ6 b k = gI σ5 b k := fun b hb k => g3.1 b (by simp; omega) k
    have z9 : gR σ6 0 9 = a := by rw [g3.2.2, y9 9 (by omega) (by omega)]; exact hL.2.1
    obtain ⟨σ7, e7⟩ : ∃ q, q = pI (pI (pI (pI σ6 a 0 0) 127 0 0) 13 1 0) 196 3 0 := ⟨_, rfl⟩
    obtain ⟨σ8, k1, k2⟩ := s_marks σ7 (fun σ_121 => some ((0 : Int32), σ_121))
    have ec : cl (f_X6_readTown u σ) (fun r8 σ8 => bn (pI σ8 1 1 (0 : Int32)) (fun σ17 => (if r8 = 0 then bn (gR σ17 0 8) (fun t_27 => bn (gR σ17 0 7) (fun t_33 => bn (pR σ17 0 8 t_33) (fun σ36 => bn (pR σ36 0 7 t_27) (fun σ41 => bn (gR σ41 0 7) (fun t_49 => cl (f_X4_begin 6 t_49 σ41) (fun _ σ52 => bn (gR σ52 0 9) (fun t_56 => ck (isLines t_56) (bn (pI σ52 t_56 0 (0 : Int32)) (fun σ60 => bn (pI σ60 127 0 (0 : Int32)) (fun σ68 => cl (f_X5_forget σ68) (fun _ σ75 => cl (f_X0_forget σ75) (fun _ σ82 => jn (fun (σ_121 : Mm) => some ((0 : Int32), σ_121)) (fun k121 => lq2 (F_X11_town_87 k121) 1000000 (0 : Int32) σ82))))))))))))) else some (r8, σ17)))) = some (0, σ8) := by
      rw [cl_of _ rd, bn_e, if_pos rfl, ← e3, bn_e, bn_e, x8, x7, bn_e, ← e4, bn_e, ← e5, bn_e, y7, cl_of _ g1, bn_e, z9, ck_t hL.2.2.2.2.1.1, bn_e, bn_e]
      unfold f_X5_forget f_X0_forget
      rw [bn_e, cl_of _ rfl, bn_e, cl_of _ rfl, jn_e2, ← e7, k1]
    rw [ec]
    have q3 : ∀ b, b = 0 ∨ b = 1 ∨ (14 < b ∧ b ≠ 27) → ∀ k, gI χ b k = gI μ2 b k := d11
    have h57 : gI χ 0 57 = 63 := by rw [q3 0 (by omega), c4.2.2.1 57 (by omega) (by omega) (by omega) (by omega) (by omega) (by omega) (by omega) (by omega) (by omega) (by omega) (by omega)]; exact hN.2.2.2.2
    have h56 : gI χ 0 56 = 0 := by rw [q3 0 (by omega), c4.2.2.1 56 (by omega) (by omega) (by omega) (by omega) (by omega) (by omega) (by omega) (by omega) (by omega) (by omega) (by omega)]; exact hN.2.2.2.1
    obtain ⟨ω, w1, w2, w3⟩ := m_fresh d6.tm d4
    obtain ⟨ω2, e8⟩ : ∃ q, q = pI (pI (pI ω 28 0 0) 32 0 0) 0 55 0 := ⟨_, rfl⟩
    obtain ⟨ω3, j1, j2, j3⟩ := m_marks ω2 (fun σ_68 => some ((0 : Int32), σ_68))
    have em : cl (f_X12_readsAll μ1) (fun r6 σ6 => (if r6 = 0 then some ((gI σ6 0 9), σ6) else cl (f_X12_lays σ6) (fun _ σ18 => cl (f_X12_lays0 σ18) (fun _ σ22 => cl (f_X12_fresh σ22) (fun _ σ26 => ck (inb (0 : Int32) 6) (bn (pI σ26 28 (0 : Int32).toNatClampNeg (0 : Int32)) (fun σ35 => ck (inb (0 : Int32) 5) (bn (pI σ35 32 (0 : Int32).toNatClampNeg (0 : Int32)) (fun σ42 => bn (pI σ42 0 55 (0 : Int32)) (fun σ45 => jn (fun (σ_68 : Mm) => some ((0 : Int32), σ_68)) (fun k68 => lq2 (F_X12_town_50 k68) 1000000 (0 : Int32) σ45))))))))))) = some (0, ω3) := by
      rw [cl_of _ c2, if_neg one0, cl_of _ d2, cl_of _ d3, cl_of _ w1, ck_t (show inb 0 6 = true from rfl), bn_e, ck_t (show inb 0 5 = true from rfl), bn_e, bn_e, n0, jn_e2, ← e8, j1]
    rw [em]
    have t7 : ∀ b, b ≠ a → b ≠ 127 → b ≠ 13 → b ≠ 196 → ∀ k, gI σ7 b k = gI σ6 b k := fun b h1 h2 h3 h4 k => by rw [e7, gI_pI_n (Or.inl h4), gI_pI_n (Or.inl h3), gI_pI_n (Or.inl h2), gI_pI_n (Or.inl h1)]
    have nmk : ∀ c, (∀ i, i < 4 → c ≠ markAt i) → ∀ k, gI σ8 c k = gI σ7 c k := fun c hc k => k2.2.2.1 c k (fun i hi => Or.inl (hc i hi))
    have t8 : ∀ b, b < 132 ∨ 195 < b → b ≠ a → b ≠ 127 → b ≠ 13 → b ≠ 196 → (b < 6 ∨ 11 < b) → b ≠ 1 → ∀ k, gI σ8 b k = gI σ2 b k := fun b h1 h2 h3 h4 h5 h6 h7 k => by rw [k2.2.1 b h1, t7 b h2 h3 h4 h5, i6 b h6, i5 b h7]
    have l8 : ∀ b k, gL σ8 b k = gL σ2 b k := fun b k => by rw [k2.2.2.2.1, e7]; show gL σ6 b k = _; rw [g3.2.1, l5]
    have r8' : ∀ b k, gR σ8 b k = gR σ5 b k := fun b k => by rw [k2.2.2.2.2, e7]; show gR σ6 b k = _; rw [g3.2.2]
    have v8 : ∀ b, b ≠ 28 → b ≠ 32 → b ≠ 0 → b ≠ 41 → b ≠ 36 → ∀ k, gI ω3 b k = gI χ b k := fun b h1 h2 h3 h4 h5 k => by rw [j3.1 b (by simp; exact h4), e8, gI_pI_n (Or.inl h3), gI_pI_n (Or.inl h2), gI_pI_n (Or.inl h1)]; exact w3.1 b (by simp; exact h5) k
    have v0 : ∀ j, j ≠ 55 → gI ω3 0 j = gI χ 0 j := fun j hj => by rw [j3.1 0 (by simp), e8, gI_pI_n (Or.inr hj), gI_pI_n (Or.inl (by decide)), gI_pI_n (Or.inl (by decide))]; exact w3.1 0 (by simp) j
    have v36 : ∀ j, gI ω3 36 j = gI ω 36 j := fun j => by rw [j3.1 36 (by simp), e8, gI_pI_n (Or.inl (by decide)), gI_pI_n (Or.inl (by decide)), gI_pI_n (Or.inl (by decide))]
    have vL : ∀ b k, gL ω3 b k = gL χ b k := fun b k => by rw [j3.2.1, e8]; exact w3.2.1 b k
    have s7 : gI σ7 a 0 = 0 ∧ gI σ7 127 0 = 0 ∧ gI σ7 13 1 = 0 ∧ gI σ7 196 3 = 0 := by
      rw [e7]
      refine ⟨?_, ?_, ?_, gI_pI_s _ _ _ _⟩
      · rw [gI_pI_n (Or.inl (by omega)), gI_pI_n (Or.inl (by omega)), gI_pI_n (Or.inl (by omega)), gI_pI_s]
      · rw [gI_pI_n (Or.inl (by omega)), gI_pI_n (Or.inl (by omega)), gI_pI_s]
      · rw [gI_pI_n (Or.inl (by omega)), gI_pI_s]
    have s8 : ∀ b, b < 132 ∨ 195 < b → ∀ k, gI σ8 b k = gI σ7 b k := k2.2.1
    obtain ⟨tp, tp1, tp2⟩ := hR.top
    have it : IT σ8 ω3 u T' D' := by
      have r0 : Rw0 χ ω3 := ⟨fun x h1 h2 k _ => v8 x (by omega) (by omega) (by omega) (by omega) (by omega) k, fun k _ => v8 27 (by omega) (by omega) (by omega) (by omega) (by omega) k⟩
      have ei : ∀ b, u ≤ b → b ≤ u + 14 → ∀ k, gI σ8 b k = gI σ2 b k := fun b h1 h2 k => t8 b (by omega) (by omega) (by omega) (by omega) (by omega) (by omega) (by omega) k
      rw [← d7] at d14 d16
      rw [← d9] at d15
      refine ⟨d4, by rw [r8']; exact y7, by rw [r8', y8]; omega, d5.fr (fun b h1 h2 _ k => ei b h1 h2 k), d6.fr r0, ?_, ?_, fun x b hx hb => ?_⟩
      · obtain ⟨p1, p2, p3, p4, p5, p6⟩ := d14
        exact ⟨p1, p2, p3, by rw [ei u (by omega) (by omega)]; exact p4, by rw [v8 2 (by omega) (by omega) (by omega) (by omega) (by omega)]; exact p5, fun k hk => by rw [l8, vL]; exact p6 k hk⟩
      · obtain ⟨p1, p2, p3, p4, p5, p6⟩ := d15
        exact ⟨p1, p2, p3, by rw [ei u (by omega) (by omega)]; exact p4, by rw [v8 2 (by omega) (by omega) (by omega) (by omega) (by omega)]; exact p5, fun k hk => by rw [l8, vL]; exact p6 k hk⟩
      · rw [ei (u + 13) (by omega) (by omega), v8 27 (by omega) (by omega) (by omega) (by omega) (by omega)]
        exact d16 x b hx hb
    have inn : IN σ8 ω3 T' (beginN T') := ⟨beginN_ok d4, g2.fr (fun b h1 h2 k => (s8 b (by omega) k).trans (t7 b (by omega) (by omega) (by omega) (by omega) k)), w2.copy d4.2.2.1 (fun j _ => v36 _), (v0 56 (by omega)).trans h56, (v0 57 (by omega)).trans h57⟩
    refine ⟨_, _, _, rfl, rfl, u, T', D', beginN T', a, lnZ, (0, fun _ => 0, fun _ => 0, fun _ => 0), fun _ => 0, 0, it, inn, ⟨la, by rw [r8', y9 9 (by omega) (by omega)]; exact hL.2.1, by rw [r8', y9 10 (by omega) (by omega)]; exact hL.2.2.1, ⟨by show 0 ≤ 40; omega, fun k hk => absurd hk (Nat.not_lt_zero k)⟩, ⟨hL.2.2.2.2.1.1, by rw [s8 a (by omega), s7.1]; rfl, fun k hk => absurd hk (Nat.not_lt_zero k)⟩, ⟨?_, fun k hk => absurd hk (Nat.not_lt_zero k)⟩⟩, ⟨⟨by show 0 ≤ 6; omega, fun k hk => absurd hk (Nat.not_lt_zero k)⟩, ⟨hA.2.1.1, by rw [s8 127 (by omega), s7.2.1]; rfl, fun k hk => absurd hk (Nat.not_lt_zero k)⟩, ⟨?_, fun k hk => absurd hk (Nat.not_lt_zero k)⟩⟩, fun z => absurd (by rw [s8 196 (by omega), s7.2.2.2]) z, IW.zero (fun i hi => by rw [l8, oL2 5 (by omega) (by omega)]; exact hW.1 i hi) (fun c hc i hi => (hW.2.1 c hc i hi).fr (fun j => ?_)) ?_ ?_, RgI.zero tp1 (by rw [s8 13 (by omega), s7.2.2.1]) ?_ ?_, fun i hi => Or.inl ⟨k2.1 i hi, j2 i hi⟩⟩
    · rw [j3.1 28 (by simp), e8, gI_pI_n (Or.inl (by decide)), gI_pI_n (Or.inl (by decide)), gI_pI_s]; rfl
    · rw [j3.1 32 (by simp), e8, gI_pI_n (Or.inl (by decide)), gI_pI_s]; rfl
    · have cc := lines_in hc
      have nm : ∀ i', i' < 4 → c + 1 + i ≠ markAt i' := fun i' hi' => by unfold markAt; omega
      have na : c + 1 + i ≠ a := by omega
      rw [nmk (c + 1 + i) nm, t7 (c + 1 + i) na (by omega) (by omega) (by omega), i6 _ (by omega), i5 _ (by omega), o2 _ (by omega) (by omega) (by omega)]
    · rw [s8 1 (by omega), t7 1 (by omega) (by omega) (by omega) (by omega), i6 1 (by omega), e5, gI_pR, e4, gI_pR, e3, gI_pI_s]
    · rw [v0 1 (by omega), q3 0 (by omega)]; exact c4.2.2.2.1
    · rw [s8 13 (by omega), e7, gI_pI_n (Or.inl (by decide)), gI_pI_n (Or.inr (by decide)), gI_pI_n (Or.inl (by decide)), gI_pI_n (Or.inl (by omega)), i6 13 (by omega), i5 13 (by omega), o2 13 (by omega) (by omega) (by omega)]; exact tp2
    · rw [j3.1 0 (by simp), e8, gI_pI_s]
  · have nf : ¬ nI f = 0 := nI_ne0 f0 (by omega)
    rw [cl_of _ c1, bn_e, if_neg nf, cl_of _ c2, if_pos rfl, c4]
    obtain ⟨σ2, e2⟩ : ∃ q, q = pI σ1 1 1 0 := ⟨_, rfl⟩
    rw [← e2]
    have o : ∀ b, b ≠ 1 → b ≠ 3 → b ≠ 4 → (b < u ∨ u + 14 < b) → ∀ k, gI σ2 b k = gI σ b k := fun b h1 h2 h3 h4 k => by rw [e2, gI_pI_n (Or.inl h1)]; exact c5.1 b h2 h3 h4 k
    have oL : ∀ b, b ≠ 4 → (b < u ∨ u + 14 < b) → ∀ k, gL σ2 b k = gL σ b k := fun b h1 h2 k => by rw [e2, gL_pI]; exact c5.2.1 b h1 h2 k
    have oR : ∀ b k, gR σ2 b k = gR σ b k := fun b k => by rw [e2, gR_pI]; exact c5.2.2 b k
    have q : ∀ b, 16 < b → ∀ k, gI μ2 b k = gI μ1 b k := fun b hb k => c6.1 b (by omega) (Or.inr hb) k
    have q0 : ∀ j, j ≠ 1 → j ≠ 3 → j ≠ 4 → j ≠ 5 → j ≠ 6 → j ≠ 8 → j ≠ 9 → j ≠ 23 → j ≠ 24 → j ≠ 37 → j ≠ 39 → gI μ2 0 j = gI μ1 0 j := c6.2.2.1
    have q50 : ∀ j, 39 < j → gI μ2 0 j = gI μ1 0 j := fun j hj => q0 j (by omega) (by omega) (by omega) (by omega) (by omega) (by omega) (by omega) (by omega) (by omega) (by omega) (by omega)
    refine ⟨_, _, _, rfl, rfl, t, T, D, N, a, l, w, fun _ => 0, 0, hT.fr (fun b h1 h2 h3 k => o b (by omega) (by omega) (by omega) (by omega) k) (fun b h1 h2 k => oL b (by omega) (by omega) k) (oR _ _) (oR _ _) ⟨fun x h1 h2 k hk => c6.2.1 x h1 h2 k hk, fun k _ => q 27 (by omega) k⟩ (fun x hx k hk => c6.2.2.2.2.2.1 x k hx hk), hN.fr hT.1 (fun b h1 h2 k => o b (by omega) (by omega) (by omega) (by omega) k) (fun j _ => q 36 (by omega) j) (q50 56 (by omega)) (q50 57 (by omega)), hL.fr (fun b h1 h2 k => o b (by omega) (by omega) (by omega) (by omega) k) (oR _ _) (oR _ _) (q 28 (by omega) _) (fun b h1 h2 k hk => q b (by omega) k), hA.fr (fun b h1 h2 k => o b (by omega) (by omega) (by omega) (by omega) k) (q 32 (by omega) _) (fun b h1 h2 k _ => q b (by omega) k), hD.fr (o 196 (by omega) (by omega) (by omega) (by omega)) (o 206 (by omega) (by omega) (by omega) (by omega)), IW.zero (fun i hi => by rw [oL 5 (by omega) (by omega)]; exact hW.1 i hi) (hW.2.1.fr (fun b hb k => o b (by omega) (by omega) (by omega) (by omega) k)) (by rw [e2]; exact gI_pI_s _ _ _ _) c6.2.2.2.1, hR.fr hT.1 (fun b h1 h2 k => o b (by omega) (by omega) (by omega) (by omega) k) (q50 55 (by omega)) (q 40 (by omega)), fun i hi => (hM i hi).fr hT.1 hi (fun b h1 h2 k => o b (by unfold markAt at h1; omega) (by unfold markAt at h1; omega) (by unfold markAt at h1; omega) (by unfold markAt at h2; omega) k) (q 41 (by omega) _) (fun k _ _ => q 39 (by omega) k) (q 28 (by omega) _) (fun b h1 h2 k h3 h4 => q b (by omega) k) (q 32 (by omega) _) (fun b h1 h2 k _ _ => q b (by omega) k)⟩
