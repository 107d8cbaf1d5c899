theorem ghM_TM {σ b : Mm} {T : Tw} (h : TM σ T) (o : Off ghM σ b) : TM b T := h.off o (fun a ha => by simp only [ghM, lawM, List.mem_cons, List.not_mem_nil, or_false] at ha; omega)
theorem J115_e (rec53 : Mm → Option (Int32 × Mm)) (σ : Mm) : J_X12_goesHome_115 rec53 σ = lq2 (F_X12_goesHome_117 (fun (σ_158 : Mm) => bn (pI σ_158 0 60 ((gI σ_158 0 60) + (1 : Int32))) (fun σ165 => cl (f_X12_notes (gI σ165 0 60) σ165) (fun _ σ173 => bn (gI σ173 0 60) (fun i_189 => ck (inb i_189 100) (cl (f_X12_bits (gI σ173 46 i_189.toNatClampNeg) σ173) (fun r190 _ => bn (pI σ173 0 62 ((gI σ173 0 62) + r190)) (fun σ194 => rec53 σ194)))))))) 1000000 (0 : Int32) σ := by
  unfold J_X12_goesHome_115
  rw [jn_e2]
theorem Gm.step {σ b : Mm} {T : Tw} {lg : Int32} {N : Nt} {i : Nat} (h : TM σ T) (hT : TwOk T) (hN : NtOk T N) (hlg : gI σ 0 56 = lg) (hi : i < tkN T lg N) (g : Gm σ T lg N i b) (kx : Mm → Option (Int32 × Mm)) (rec : Mm → Option (Int32 × Mm)) :
    ∃ b', Gm σ T lg N (i + 1) b' ∧ F_X12_goesHome_53 kx rec b = rec b' := by
  obtain ⟨g1, g2, g3, g4, g5, g6, g7, g8, g9⟩ := g
  have hle := tkN_le T lg N
  have hW := hT.2.2.1
  have hL := hT.2.1
  have hb := ghM_TM h g1
  have ok := itN_ok hT hN lg i
  have hh := m_areAllHome hb hT g3 ok
  rw [tkN_lt hi] at hh
  have c1 : gI b 0 60 < 99 := by rw [g4]; exact i99 (by omega)
  have e56 : gI b 0 56 = lg := by rw [g2 56 (by omega)]; exact hlg
  obtain ⟨σ1, l1, r1, o1, f1, d1⟩ := m_passes hb hT g3 ok
  rw [e56] at r1
  have r1 : RM σ1 T (itN T lg N (i + 1)) := r1
  have x1 : ∀ j, gI σ1 0 j = gI b 0 j := fun j => o1.1 0 (by simp [passM, lawM]) j
  -- the dark times of all
  obtain ⟨σ2, e2⟩ : ∃ z, z = pI σ1 0 61 (gI b 0 61 + nI (cnt (dkN T (itN T lg N i)) (tW T))) := ⟨_, rfl⟩
  have o2 : Off ghM b σ2 := by rw [e2]; exact (o1.mono (by simp [passM, ghM, lawM])).tr (Off.pI (by simp [ghM]))
  have h2 := ghM_TM hb o2
  obtain ⟨σ3, l3, o3, f3⟩ := m_goes84 h2 hT (J_X12_goesHome_115 rec)
  have o3' : Off ghM b σ3 := o2.tr (o3.mono (by simp [ghM]))
  have h3 := ghM_TM hb o3'
  have y2 : ∀ a, a ≠ 0 → ∀ j, gI σ2 a j = gI σ1 a j := fun a ha j => by rw [e2, gI_pI_n (Or.inl ha)]
  have y3 : ∀ a, a ≠ 44 → ∀ j, gI σ3 a j = gI σ2 a j := fun a ha j => o3.1 a (by simpa using ha) j
  have z3 : ∀ j, j ≠ 61 → gI σ3 0 j = gI b 0 j := fun j hj => by rw [y3 0 (by decide), e2, gI_pI_n (Or.inr hj), x1]
  have h42 : ∀ k, k < tL T → (0 < gI σ3 42 k ↔ wkN T (itN T lg N i) k = true) := fun k hk => by
    rw [y3 42 (by decide), y2 42 (by decide), f1 k (by omega)]
    have := ftN_le T (itN T lg N i) k
    rw [nI_gt0 (by omega)]
    unfold wkN
    simp
  obtain ⟨σ4, l4, o4, x4, f4⟩ := m_goes117 h3 hT (by rw [z3 63 (by decide)]; exact g7) h42 (fun (σ_158 : Mm) => bn (pI σ_158 0 60 ((gI σ_158 0 60) + (1 : Int32))) (fun σ165 => cl (f_X12_notes (gI σ165 0 60) σ165) (fun _ σ173 => bn (gI σ173 0 60) (fun i_189 => ck (inb i_189 100) (cl (f_X12_bits (gI σ173 46 i_189.toNatClampNeg) σ173) (fun r190 _ => bn (pI σ173 0 62 ((gI σ173 0 62) + r190)) (fun σ194 => rec σ194)))))))
  have y4 : ∀ a, a ≠ 0 → ∀ j, gI σ4 a j = gI σ3 a j := fun a ha j => o4.1 a (by simpa using ha) j
  have z60 : gI σ4 0 60 + 1 = nI (i + 1) := by rw [x4 60 (by decide), z3 60 (by decide), g4, nI_1]
  obtain ⟨σ5, e5⟩ : ∃ z, z = pI σ4 0 60 (nI (i + 1)) := ⟨_, rfl⟩
  have o5 : Off ghM b σ5 := by rw [e5]; exact (o3'.tr (o4.mono (by simp [ghM]))).tr (Off.pI (by simp [ghM]))
  have h5 := ghM_TM hb o5
  have y5 : ∀ a, a ≠ 0 → ∀ j, gI σ5 a j = gI σ4 a j := fun a ha j => by rw [e5, gI_pI_n (Or.inl ha)]
  have r5 : RM σ5 T (itN T lg N (i + 1)) := r1.congr36 hW (by rw [e5, gI_pI_n (Or.inr (by decide)), x4 57 (by decide), z3 57 (by decide), x1]) (fun j _ => by rw [y5 36 (by decide), y4 36 (by decide), y3 36 (by decide), y2 36 (by decide)])
  obtain ⟨σ6, l6, o6, f6, w6⟩ := m_notes h5 hT r5 (itN_ok hT hN lg (i + 1)) (show i + 1 < 100 by omega)
  have s60 : gI σ5 0 60 = nI (i + 1) := by rw [e5, gI_pI_s]
  have t60 : gI σ6 0 60 = nI (i + 1) := by rw [o6.1 0 (by simp)]; exact s60
  have lt : bts (brN (itN T lg N (i + 1))) (tL T) < 256 := Nat.lt_of_lt_of_le (bts_lt _ _) (show 2 ^ tL T ≤ 2 ^ 8 from Nat.pow_le_pow_right (by decide) hL)
  have b46 : gI σ6 46 (i + 1) = nI (bts (brN (itN T lg N (i + 1))) (tL T)) := by rw [f6, if_pos rfl]
  have t62 : gI σ6 0 62 = nI (oilN T lg N i) := by rw [o6.1 0 (by simp), e5, gI_pI_n (Or.inr (by decide)), x4 62 (by decide), z3 62 (by decide)]; exact g6
  refine ⟨pI σ6 0 62 (nI (oilN T lg N (i + 1))), ⟨?_, fun j hj => ?_, ?_, ?_, ?_, ?_, ?_, fun w hw => ⟨?_, ?_⟩, fun j hj => ?_⟩, ?_⟩
  · exact g1.tr (o5.tr ((o6.mono (by simp [ghM])).tr (Off.pI (by simp [ghM]))))
  · rw [gI_pI_n (Or.inr (by omega)), o6.1 0 (by simp), e5, gI_pI_n (Or.inr (by omega)), x4 j (by omega), z3 j (by omega)]; exact g2 j hj
  · exact r5.congr36 hW (by rw [gI_pI_n (Or.inr (by decide)), o6.1 0 (by simp)]) (fun j _ => by rw [gI_pI_n (Or.inl (by decide)), o6.1 36 (by simp)])
  · rw [gI_pI_n (Or.inr (by decide))]; exact t60
  · rw [gI_pI_n (Or.inr (by decide)), o6.1 0 (by simp), e5, gI_pI_n (Or.inr (by decide)), x4 61 (by decide), y3 0 (by decide), e2, gI_pI_s, g5, nI_add]; rfl
  · rw [gI_pI_s]
  · rw [gI_pI_n (Or.inr (by decide)), o6.1 0 (by simp), e5, gI_pI_n (Or.inr (by decide)), f4]
    congr 1
    exact bts_congr (fun k _ => (wlG_s T lg N i k).symm)
  · rw [gI_pI_n (Or.inl (by decide)), o6.1 44 (by simp), y5 44 (by decide), y4 44 (by decide), f3 w hw, y2 44 (by decide), y2 43 (by decide), o1.1 44 (by simp [passM, lawM]), (g8 w hw).1, d1 w hw]
    unfold dk1
    cases e : dkN T (itN T lg N i) w
    · simp [sm, e]
    · simp [sm, e, nI_1]
  · have e45 : gI σ5 45 w = oI (fst1 (fun j => homeN T (itN T lg N j) w) 0 (i + 1)) := by rw [y5 45 (by decide), y4 45 (by decide), y3 45 (by decide), y2 45 (by decide), o1.1 45 (by simp [passM, lawM])]; exact (g8 w hw).2
    rw [gI_pI_n (Or.inl (by decide)), w6 w hw, e45]
    cases e : fst1 (fun j => homeN T (itN T lg N j) w) 0 (i + 1) with
    | none =>
      rw [fst1_succ_none e]
      cases homeN T (itN T lg N (i + 1)) w
      · simp
      · rw [if_pos ⟨by decide, rfl⟩]; rfl
    | some c =>
      have := (fst1_some e).2.1
      rw [fst1_succ_some e, if_neg (fun y => nI_pos (n := c) (by omega) y.1)]
  · rw [gI_pI_n (Or.inl (by decide)), f6]
    by_cases z : j = i + 1
    · rw [if_pos z, z]
    · rw [if_neg z, y5 46 (by decide), y4 46 (by decide), y3 46 (by decide), y2 46 (by decide), o1.1 46 (by simp [passM, lawM])]; exact g9 j (by omega)
  · simp only [F_X12_goesHome_53, if_pos c1, cl_of _ hh, cl_of _ l1]
    rw [if_pos (show (if false = true then (1 : Int32) else 0) = 0 from rfl), bn_e, ← e2, jn_e2, l3, J115_e, l4, bn_e, z60, ← e5, s60, cl_of _ l6, bn_e, t60, ck_t (inb_nI (show i + 1 < 100 by omega) (by omega)), nI_tn (show i + 1 < 2147483648 by omega), b46, cl_of _ (m_bits (by omega) σ6), pc8_bts _ hL, bn_e, t62, nI_add]
    rfl
