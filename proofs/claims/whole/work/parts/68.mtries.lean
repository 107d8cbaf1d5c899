/-- what the reference has found out on the way home -/
def Gr (b : Mm) (T : Tw) (lg : Int32) (N : Nt) : Prop := gI b 0 60 = nI (tkN T lg N) ∧ gI b 0 61 = nI (dsN T lg N (tkN T lg N)) ∧ gI b 0 62 = nI (oilN T lg N (tkN T lg N)) ∧ gI b 0 63 = nI (bts (wlG T lg N (tkN T lg N)) (tL T)) ∧ (∀ w, w < tW T → gI b 44 w = nI (sm (fun j => (dkN T (itN T lg N j) w).toNat) (tkN T lg N)) ∧ gI b 45 w = oI (fst1 (fun j => homeN T (itN T lg N j) w) 0 (tkN T lg N + 1))) ∧ ∀ j, j ≤ tkN T lg N → gI b 46 j = nI (bts (brN (itN T lg N j)) (tL T))
def trM : List Nat := 38 :: ghM
/-- how it is stays, what comes of it is found -/
theorem m_tries {σ : Mm} {T : Tw} {N : Nt} {lg : Int32} (h : TM σ T) (hT : TwOk T) (r : RM σ T N) (hN : NtOk T N) (hlg : gI σ 0 56 = lg) :
    ∃ τ, f_X12_tries σ = some (0, τ) ∧ Gr τ T lg N ∧ Off trM σ τ ∧ (∀ j, j < 60 ∨ 63 < j → gI τ 0 j = gI σ 0 j) ∧ ∀ j, j < 41 → gI τ 36 j = gI σ 36 j := by
  have hW := hT.2.2.1
  obtain ⟨σ1, l1, o1, c1, -⟩ := m_copies (a := 36) (b := 38) (o := 0) (p := 0) σ (by decide) (by decide) (by decide) (by decide) (by decide) (by decide) (by decide)
  have l1 : f_X12_copies 36 0 38 0 σ = some (0, σ1) := l1
  simp only [Nat.zero_add] at c1
  have h1 := h.off o1 (fun a ha => by simp only [List.mem_cons, List.not_mem_nil, or_false] at ha; omega)
  have r1 := r.off o1 (by simp) (o1.1 0 (by simp) 57) hW
  obtain ⟨σ2, l2, g⟩ := m_goesHome h1 hT r1 hN (show gI σ1 0 56 = lg by rw [o1.1 0 (by simp)]; exact hlg)
  obtain ⟨g1, g2, g3, g4, g5, g6, g7, g8, g9⟩ := g
  obtain ⟨σ3, l3, o3, c3, -⟩ := m_copies (a := 38) (b := 36) (o := 0) (p := 0) σ2 (by decide) (by decide) (by decide) (by decide) (by decide) (by decide) (by decide)
  have l3 : f_X12_copies 38 0 36 0 σ2 = some (0, σ3) := l3
  simp only [Nat.zero_add] at c3
  have y : ∀ a, a ≠ 36 → ∀ j, gI σ3 a j = gI σ2 a j := fun a ha j => o3.1 a (by simpa using ha) j
  unfold f_X12_tries
  rw [cl_of _ l1, cl_of _ l2, cl_of _ l3]
  refine ⟨σ3, rfl, ⟨?_, ?_, ?_, ?_, fun w hw => ?_, fun j hj => ?_⟩, ?_, fun j hj => ?_, fun j hj => ?_⟩
  · rw [y 0 (by decide)]; exact g4
  · rw [y 0 (by decide)]; exact g5
  · rw [y 0 (by decide)]; exact g6
  · rw [y 0 (by decide)]; exact g7
  · rw [y 44 (by decide), y 45 (by decide)]; exact g8 w hw
  · rw [y 46 (by decide)]; exact g9 j hj
  · exact (o1.mono (by simp [trM])).tr ((g1.mono (fun a ha => List.mem_cons_of_mem _ ha)).tr (o3.mono (by simp [trM, ghM])))
  · rw [y 0 (by decide), g2 j hj, o1.1 0 (by simp)]
  · rw [c3 j hj, g1.1 38 (by simp [ghM, lawM]), c1 j hj]
