/-! a town is read, line by line -/
def wdO (s : Nat → Nat) (n p : Nat) : Option Nat := if tkK s n p = 2 then wxF (tk32 s n p) 23 else none
theorem wdO_i {s : Nat → Nat} {n p i : Nat} (hi : i < 23) : wdT s n p i = decide (wdO s n p = some i) := by
  unfold wdT wdO
  rw [decide_eq_decide]
  by_cases z : tkK s n p = 2
  · rw [if_pos z, wxF_iff hi]; exact ⟨fun y => y.2.symm, fun y => ⟨z, y.symm⟩⟩
  · rw [if_neg z]; exact ⟨fun y => absurd y.1 z, fun y => by cases y⟩
theorem wdO_k {s : Nat → Nat} {n p i : Nat} (h : wdO s n p = some i) : tkK s n p = 2 ∧ i < 23 := by
  unfold wdO at h
  by_cases z : tkK s n p = 2
  · rw [if_pos z] at h; exact ⟨z, (wxF_some h).1⟩
  · rw [if_neg z] at h; cases h
theorem r_lineT {σ μ : Mm} {s : Nat → Nat} {n p t P L W : Nat} (h : Rd σ μ s n p) (f0 : gI σ 3 1 = 0) (hb : TB σ μ t P L W) (hl : LwT σ μ t) (k1 : ¬ tkK s n p = 1) (kx : Mm → Option (Int32 × Mm)) :
    (∃ σ' μ', (∀ rec i, J_X6_readTown_65 t rec (nI i) σ (oI (wdO s n p)) = rec (nI (i + 1)) σ') ∧ (∀ rec, F_X12_readsAll_65 kx rec μ = rec μ') ∧ OkW σ μ σ' μ' s n p t) ∨
    (∃ σ' μ', (∀ rec i, J_X6_readTown_65 t rec (nI i) σ (oI (wdO s n p)) = rec (nI (i + 1)) σ') ∧ (∀ rec, F_X12_readsAll_65 kx rec μ = some (0, μ')) ∧ NoT σ μ σ' μ' t) := by
  have k4 := tkK_le s n p
  have w0 : f_X12_isWord 8740067 μ = some (b1I (decide (wdO s n p = some 0)), μ) := by have := (h.word (i := 0) (by omega)).2; rw [wdO_i (by omega)] at this; exact this
  have w1 : f_X12_isWord 237308 μ = some (b1I (decide (wdO s n p = some 1)), μ) := by have := (h.word (i := 1) (by omega)).2; rw [wdO_i (by omega)] at this; exact this
  have w2 : f_X12_isWord 1489744 μ = some (b1I (decide (wdO s n p = some 2)), μ) := by have := (h.word (i := 2) (by omega)).2; rw [wdO_i (by omega)] at this; exact this
  have w3 : f_X12_isWord 330800670 μ = some (b1I (decide (wdO s n p = some 3)), μ) := by have := (h.word (i := 3) (by omega)).2; rw [wdO_i (by omega)] at this; exact this
  have w7 : f_X12_isWord 1888 μ = some (b1I (decide (wdO s n p = some 7)), μ) := by have := (h.word (i := 7) (by omega)).2; rw [wdO_i (by omega)] at this; exact this
  have e2 : ¬ gI μ 0 6 = 0 := by
    rw [h.2.2.2.2.2.2.2.1]
    exact fun w => by have := (nI_eq (b := 0) (by omega) (by omega)).mp w; omega
  have one1 : ¬ (1 : Int32) = 0 := one0
  have dF : ∀ (q : Prop) [Decidable q], ¬ q → b1I (decide q) = 0 := fun q _ hq => by rw [decide_eq_false hq]; rfl
  have dT : ∀ (q : Prop) [Decidable q], q → ¬ b1I (decide q) = 0 := fun q _ hq => by rw [decide_eq_true hq]; exact b1T0
  unfold F_X12_readsAll_65 J_X6_readTown_65
  simp only [if_neg e2, cl_of _ w0, cl_of _ w1, cl_of _ w2, cl_of _ w3, cl_of _ w7, jn_e2, nI_1]
  have bad : wdO s n p ≠ some 0 → wdO s n p ≠ some 1 → wdO s n p ≠ some 2 → wdO s n p ≠ some 3 → wdO s n p ≠ some 7 → ∃ σ' μ', f_X6_wrong 1 σ = some (0, σ') ∧ f_X12_fails 1 μ = some (0, μ') ∧ NoT σ μ σ' μ' t := fun _ _ _ _ _ => by
    obtain ⟨σ', μ', f1, f2, f3, f4, f5⟩ := h.bad (k := 1) (by omega) (by omega)
    exact ⟨σ', μ', f1, f2, f3.ct, f4.mt, f5⟩
  by_cases z0 : wdO s n p = some 0
  · simp only [z0, oI_some, if_pos (show nI 0 = 0 from rfl), if_neg (dT (some 0 = some 0) rfl)]
    rcases r_rdPlace h f0 hb (wdO_k z0).1 with ⟨σ', μ', a1, a2, a3⟩ | ⟨σ', μ', a1, a2, a3⟩
    · exact Or.inl ⟨σ', μ', fun rec i => by rw [cl_of _ a1], fun rec => by rw [cl_of _ a2, if_neg one1]; rfl, a3.w hl⟩
    · exact Or.inr ⟨σ', μ', fun rec i => by rw [cl_of _ a1], fun rec => by rw [cl_of _ a2, if_pos rfl]; rfl, a3⟩
  by_cases z1 : wdO s n p = some 1
  · simp only [z1, oI_some, if_neg (show ¬ nI 1 = 0 by decide), if_pos (show nI 1 = 1 from rfl), if_pos (dF (some 1 = some 0) (by decide)), if_neg (dT (some 1 = some 1) rfl)]
    rcases r_rdLane h f0 hb (wdO_k z1).1 with ⟨σ', μ', a1, a2, a3⟩ | ⟨σ', μ', a1, a2, a3⟩
    · exact Or.inl ⟨σ', μ', fun rec i => by rw [cl_of _ a1], fun rec => by rw [cl_of _ a2, if_neg one1]; rfl, a3.w hl⟩
    · exact Or.inr ⟨σ', μ', fun rec i => by rw [cl_of _ a1], fun rec => by rw [cl_of _ a2, if_pos rfl]; rfl, a3⟩
  by_cases z2 : wdO s n p = some 2
  · simp only [z2, oI_some, if_neg (show ¬ nI 2 = 0 by decide), if_neg (show ¬ nI 2 = 1 by decide), if_pos (show nI 2 = 2 from rfl), if_pos (dF (some 2 = some 0) (by decide)), if_pos (dF (some 2 = some 1) (by decide)), if_pos (dF (some 2 = some 3) (by decide)), if_pos (dF (some 2 = some 7) (by decide)), if_neg (dT (some 2 = some 2) rfl)]
    rcases r_rdBurns h f0 hb hl (wdO_k z2).1 with ⟨σ', μ', a1, a2, a3⟩ | ⟨σ', μ', a1, a2, a3⟩
    · exact Or.inl ⟨σ', μ', fun rec i => by rw [cl_of _ a1], fun rec => by rw [cl_of _ a2, if_neg one1]; rfl, a3⟩
    · exact Or.inr ⟨σ', μ', fun rec i => by rw [cl_of _ a1], fun rec => by rw [cl_of _ a2, if_pos rfl]; rfl, a3⟩
  by_cases z3 : wdO s n p = some 3
  · simp only [z3, oI_some, if_neg (show ¬ nI 3 = 0 by decide), if_neg (show ¬ nI 3 = 1 by decide), if_neg (show ¬ nI 3 = 2 by decide), if_pos (show nI 3 = 3 from rfl), if_pos (dF (some 3 = some 0) (by decide)), if_pos (dF (some 3 = some 1) (by decide)), if_neg (dT (some 3 = some 3) rfl)]
    rcases r_rdWalker h f0 hb (wdO_k z3).1 with ⟨σ', μ', a1, a2, a3⟩ | ⟨σ', μ', a1, a2, a3⟩
    · exact Or.inl ⟨σ', μ', fun rec i => by rw [cl_of _ a1], fun rec => by rw [cl_of _ a2, if_neg one1]; rfl, a3.w hl⟩
    · exact Or.inr ⟨σ', μ', fun rec i => by rw [cl_of _ a1], fun rec => by rw [cl_of _ a2, if_pos rfl]; rfl, a3⟩
  by_cases z7 : wdO s n p = some 7
  · simp only [z7, oI_some, if_neg (show ¬ nI 7 = 0 by decide), if_neg (show ¬ nI 7 = 1 by decide), if_neg (show ¬ nI 7 = 2 by decide), if_neg (show ¬ nI 7 = 3 by decide), if_neg (show ¬ nI 7 = 4 by decide), if_neg (show ¬ nI 7 = 5 by decide), if_neg (show ¬ nI 7 = 6 by decide), if_pos (show nI 7 = 7 from rfl), if_pos (dF (some 7 = some 0) (by decide)), if_pos (dF (some 7 = some 1) (by decide)), if_pos (dF (some 7 = some 3) (by decide)), if_neg (dT (some 7 = some 7) rfl)]
    rcases r_rdBoy h f0 hb (wdO_k z7).1 with ⟨σ', μ', a1, a2, a3⟩ | ⟨σ', μ', a1, a2, a3⟩
    · exact Or.inl ⟨σ', μ', fun rec i => by rw [cl_of _ a1], fun rec => by rw [cl_of _ a2, if_neg one1]; rfl, a3.w hl⟩
    · exact Or.inr ⟨σ', μ', fun rec i => by rw [cl_of _ a1], fun rec => by rw [cl_of _ a2, if_pos rfl]; rfl, a3⟩
  obtain ⟨σ', μ', a1, a2, a3⟩ := bad z0 z1 z2 z3 z7
  have ne : ∀ c, c = 0 ∨ c = 1 ∨ c = 2 ∨ c = 3 ∨ c = 7 → ¬ oI (wdO s n p) = nI c := fun c hc w => by
    have := (oI_eq (fun k hk => by have := (wdO_k hk).2; omega) (by omega)).mp w
    rcases hc with rfl | rfl | rfl | rfl | rfl
    · exact z0 this
    · exact z1 this
    · exact z2 this
    · exact z3 this
    · exact z7 this
  have y0 : ¬ oI (wdO s n p) = 0 := ne 0 (by omega)
  have y1 : ¬ oI (wdO s n p) = 1 := ne 1 (by omega)
  have y2 : ¬ oI (wdO s n p) = 2 := ne 2 (by omega)
  have y3 : ¬ oI (wdO s n p) = 3 := ne 3 (by omega)
  have y7 : ¬ oI (wdO s n p) = 7 := ne 7 (by omega)
  refine Or.inr ⟨σ', μ', fun rec i => ?_, fun rec => ?_, a3⟩
  · simp only [if_neg y0, if_neg y1, if_neg y2, if_neg y3, if_neg y7, ite_self, cl_of _ a1]
  · simp only [if_pos (dF _ z0), if_pos (dF _ z1), if_pos (dF _ z2), if_pos (dF _ z3), if_pos (dF _ z7), cl_of _ a2, if_true]
