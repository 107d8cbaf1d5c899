theorem goesHome_e (σ : Mm) : f_X12_goesHome σ = lq2 (F_X12_goesHome_22 (fun (σ_48 : Mm) => cl (f_X12_notes (0 : Int32) σ_48) (fun _ σ50 => lq1 (F_X12_goesHome_53 (fun (σ_200 : Mm) => some (0, σ_200))) 1000000 σ50))) 1000000 (0 : Int32) (pI (pI (pI (pI σ 0 60 0) 0 61 0) 0 62 0) 0 63 0) := by
  unfold f_X12_goesHome
  simp only [jn_e2, bn_e]
/-- THE WAY HOME, in the reference -/
theorem m_goesHome {σ : Mm} {T : Tw} {N : Nt} {lg : Int32} (h : TM σ T) (hT : TwOk T) (r : RM σ T N) (hN : NtOk T N) (hlg : gI σ 0 56 = lg) :
    ∃ τ, f_X12_goesHome σ = some (0, τ) ∧ Gm σ T lg N (tkN T lg N) τ := by
  have hW := hT.2.2.1
  have hle := tkN_le T lg N
  rw [goesHome_e]
  obtain ⟨σ1, e1⟩ : ∃ z, z = pI (pI (pI (pI σ 0 60 0) 0 61 0) 0 62 0) 0 63 0 := ⟨_, rfl⟩
  rw [← e1]
  have o1 : Off ghM σ σ1 := by rw [e1]; exact (((Off.pI (by simp [ghM])).tr (Off.pI (by simp [ghM]))).tr (Off.pI (by simp [ghM]))).tr (Off.pI (by simp [ghM]))
  have x1 : ∀ j, j < 60 ∨ 63 < j → gI σ1 0 j = gI σ 0 j := fun j hj => by rw [e1, gI_pI_n (Or.inr (by omega)), gI_pI_n (Or.inr (by omega)), gI_pI_n (Or.inr (by omega)), gI_pI_n (Or.inr (by omega))]
  have v60 : gI σ1 0 60 = 0 := by rw [e1, gI_pI_n (Or.inr (by decide)), gI_pI_n (Or.inr (by decide)), gI_pI_n (Or.inr (by decide)), gI_pI_s]
  have v61 : gI σ1 0 61 = 0 := by rw [e1, gI_pI_n (Or.inr (by decide)), gI_pI_n (Or.inr (by decide)), gI_pI_s]
  have v62 : gI σ1 0 62 = 0 := by rw [e1, gI_pI_n (Or.inr (by decide)), gI_pI_s]
  have v63 : gI σ1 0 63 = 0 := by rw [e1, gI_pI_s]
  obtain ⟨σ2, l2, o2, f2⟩ := m_goes22 σ1 (fun (σ_48 : Mm) => cl (f_X12_notes (0 : Int32) σ_48) (fun _ σ50 => lq1 (F_X12_goesHome_53 (fun (σ_200 : Mm) => some (0, σ_200))) 1000000 σ50))
  rw [l2]
  have o2' : Off ghM σ σ2 := o1.tr (o2.mono (by simp [ghM]))
  have h2 := ghM_TM h o2'
  have y36 : ∀ j, gI σ2 36 j = gI σ 36 j := fun j => by rw [o2.1 36 (by simp), e1, gI_pI_n (Or.inl (by decide)), gI_pI_n (Or.inl (by decide)), gI_pI_n (Or.inl (by decide)), gI_pI_n (Or.inl (by decide))]
  have y0 : ∀ j, gI σ2 0 j = gI σ1 0 j := fun j => o2.1 0 (by simp) j
  have r2 : RM σ2 T N := r.congr36 hW (by rw [y0, x1 57 (by omega)]) (fun j _ => y36 j)
  obtain ⟨σ3, l3, o3, f3, w3⟩ := m_notes h2 hT r2 hN (i := 0) (by omega)
  have l3 : f_X12_notes 0 σ2 = some (0, σ3) := l3
  rw [cl_of _ l3]
  have y03 : ∀ j, gI σ3 0 j = gI σ1 0 j := fun j => by rw [o3.1 0 (by simp), y0]
  have g0 : Gm σ T lg N 0 σ3 := by
    refine ⟨o2'.tr (o3.mono (by simp [ghM])), fun j hj => by rw [y03, x1 j hj], ?_, by rw [y03, v60]; rfl, by rw [y03, v61]; rfl, by rw [y03, v62]; rfl, ?_, fun w hw => ⟨?_, ?_⟩, fun j hj => ?_⟩
    · exact r2.congr36 hW (by rw [o3.1 0 (by simp)]) (fun j _ => o3.1 36 (by simp) j)
    · rw [y03, v63]
      have : bts (wlG T lg N 0) (tL T) = 0 := (bts_congr (fun i _ => rfl)).trans (bts_none (tL T))
      rw [this]; rfl
    · rw [o3.1 44 (by simp), (f2 w (by omega)).1]; rfl
    · rw [w3 w hw, (f2 w (by omega)).2, fst1_succ_none (n := 0) rfl]
      show _ = oI (if homeN T N w then some 0 else none)
      cases homeN T N w
      · simp; rfl
      · rw [if_pos ⟨by decide, rfl⟩]; rfl
    · have : j = 0 := by omega
      subst this
      rw [f3, if_pos rfl]; rfl
  have q := lq1_inv (F := F_X12_goesHome_53 (fun (σ_200 : Mm) => some (0, σ_200))) (fun i b => Gm σ T lg N i b) (tkN T lg N) (fun (σ_200 : Mm) => some (0, σ_200)) ?_ ?_ (n := 1000000) (b0 := σ3) g0 (by omega)
  · obtain ⟨b, hb, e⟩ := q
    exact ⟨b, e, hb⟩
  · intro rec i b hi hb
    exact Gm.step h hT hN hlg hi hb _ rec
  · intro rec b hb
    obtain ⟨g1, g2, g3, g4, -⟩ := id hb
    by_cases c : tkN T lg N < 99
    · have hh := m_areAllHome (ghM_TM h g1) hT g3 (itN_ok hT hN lg _)
      rw [tkN_at c] at hh
      have c1 : gI b 0 60 < 99 := by rw [g4]; exact i99 c
      simp only [F_X12_goesHome_53, if_pos c1, cl_of _ hh]
      rfl
    · have c1 : ¬ gI b 0 60 < 99 := by rw [g4]; exact n99 (by omega) (by omega)
      simp only [F_X12_goesHome_53, if_neg c1]
