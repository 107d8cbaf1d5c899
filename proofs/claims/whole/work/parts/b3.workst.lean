theorem popE_le (f : Nat → Nat → Int32) : ∀ d v, (popE f d v).1 ≤ d
  | 0, _ => Nat.le_refl _
  | d + 1, v => by
    have := popE_le f d (ntS v)
    unfold popE
    split
    · omega
    · exact Nat.le_refl _
theorem w_step {τ : Mm} {S : Es} {i e : Nat} {x : Vx} {kx : Mm → Option (Int32 × Mm)} (h : RwR τ S.2) (h5 : S.1 ≤ 5) (hc : cdOk (gI τ 14 i)) (h9 : gI τ 14 i = 29 → 0 < S.1) (hd : (stepE x (gI τ 14 i) S).1 ≤ 5) (he : gI τ 13 0 = nI e) (hi : i < e) (h2 : e ≤ 2000) (x1 : gI τ 26 1 = x.1) (x2 : gI τ 26 2 = x.2.1) (x3 : gI τ 26 3 = x.2.2.1) (x4 : gI τ 26 4 = x.2.2.2) (rec : Int32 → Int32 → Mm → Option (Int32 × Mm)) : ∃ τ', F_X12_worked_14 0 kx rec (nI S.1) (nI i) τ = rec (nI (stepE x (gI τ 14 i) S).1) (nI (i + 1)) τ' ∧ RwR τ' (stepE x (gI τ 14 i) S).2 ∧ OffW τ τ' := by
  obtain ⟨d, f⟩ := S
  have h5 : d ≤ 5 := h5
  have h : RwR τ f := h
  have c1 : nI i < gI τ 13 0 := by rw [he]; exact nI_lt hi (by omega)
  have hin : inb (nI i) 2000 = true := inb_nI (show i < 2000 by omega) (by omega)
  have ti : (nI i).toNatClampNeg = i := nI_tn (by omega)
  have t0 : (0 : Int32).toNatClampNeg = 0 := rfl
  have i0 : inb 0 2 = true := rfl
  have i7 : inb (nI d) 7 = true := inb_nI (show d < 7 by omega) (by omega)
  have td : (nI d).toNatClampNeg = d := nI_tn (by omega)
  have d1 : nI d + 1 = nI (d + 1) := nI_1 d
  have i71 : inb (nI (d + 1)) 7 = true := inb_nI (show d + 1 < 7 by omega) (by omega)
  have td1 : (nI (d + 1)).toNatClampNeg = d + 1 := nI_tn (by omega)
  obtain ⟨c, ec⟩ : ∃ c, c = gI τ 14 i := ⟨_, rfl⟩
  rw [← ec] at hc h9 hd ⊢
  unfold F_X12_worked_14
  simp only [t0, ck_t i0, if_pos c1, ck_t hin, ti, bn_e, jn_e2, ← ec, d1, nI_1]
  rcases hc with hv | hc | hc | hc | hc | hc | hc | hc | hc | hc | hc
  · have st := step_v (x := x) (S := (d, f)) hv
    have st : stepE x c (d, f) = finE f d (valM x c) := st
    rw [st]
    obtain ⟨τ', a1, a2, a3⟩ := w_fin (k := fun x2_329 σ_329 => rec x2_329 (nI (i + 1)) σ_329) (v := valM x c) h (show d < 7 by omega) (by have := popE_le f d (valM x c); omega)
    refine ⟨τ', Eq.trans ?_ a1, a2, a3⟩
    have nn : ¬ c = 28 ∧ ¬ c = 30 ∧ ¬ c = 20 ∧ ¬ c = 21 ∧ ¬ c = 22 ∧ ¬ c = 24 ∧ ¬ c = 25 ∧ ¬ c = 26 ∧ ¬ c = 27 ∧ ¬ c = 29 := by
      rcases hv with hv | hv | hv | hv | hv
      · rw [hv]; decide
      · rw [hv]; decide
      · rw [hv]; decide
      · rw [hv]; decide
      · refine ⟨?_, ?_, ?_, ?_, ?_, ?_, ?_, ?_, ?_, ?_⟩ <;> · intro z; rw [z] at hv; exact hv (by decide)
    obtain ⟨n28, n30, n20, n21, n22, n24, n25, n26, n27, n29⟩ := nn
    simp only [if_neg n28, if_neg n30, if_neg n20, if_neg n21, if_neg n22, if_neg n24, if_neg n25, if_neg n26, if_neg n27, if_neg n29]
    unfold valM
    rcases hv with hv | hv | hv | hv | hv
    · subst hv
      rw [if_pos (show (1 : Int32) < 100 by decide), if_pos (show (1 : Int32) < 20 by decide), ck_t (show inb 1 20 = true from rfl), show (1 : Int32).toNatClampNeg = 1 from rfl, x1, if_neg (show ¬ ¬ (1 : Int32) < 100 from fun q => q (by decide)), if_pos rfl]
    · subst hv
      rw [if_pos (show (2 : Int32) < 100 by decide), if_pos (show (2 : Int32) < 20 by decide), ck_t (show inb 2 20 = true from rfl), show (2 : Int32).toNatClampNeg = 2 from rfl, x2, if_neg (show ¬ ¬ (2 : Int32) < 100 from fun q => q (by decide)), if_neg (show ¬ (2 : Int32) = 1 by decide), if_pos rfl]
    · subst hv
      rw [if_pos (show (3 : Int32) < 100 by decide), if_pos (show (3 : Int32) < 20 by decide), ck_t (show inb 3 20 = true from rfl), show (3 : Int32).toNatClampNeg = 3 from rfl, x3, if_neg (show ¬ ¬ (3 : Int32) < 100 from fun q => q (by decide)), if_neg (show ¬ (3 : Int32) = 1 by decide), if_neg (show ¬ (3 : Int32) = 2 by decide), if_pos rfl]
    · subst hv
      rw [if_pos (show (4 : Int32) < 100 by decide), if_pos (show (4 : Int32) < 20 by decide), ck_t (show inb 4 20 = true from rfl), show (4 : Int32).toNatClampNeg = 4 from rfl, x4, if_neg (show ¬ ¬ (4 : Int32) < 100 from fun q => q (by decide)), if_neg (show ¬ (4 : Int32) = 1 by decide), if_neg (show ¬ (4 : Int32) = 2 by decide), if_neg (show ¬ (4 : Int32) = 3 by decide), if_pos rfl]
    · rw [if_neg hv, if_pos hv]
  · subst hc
    obtain ⟨τ1, a1, a2, a3⟩ := w_sums h (show d < 7 by omega)
    refine ⟨pI τ1 22 d 20, ?_, a2.pI 22 d 20, a3.tr (OffW.pI (by omega) (by omega))⟩
    simp only [if_neg (show ¬ (20 : Int32) = 28 by decide), if_neg (show ¬ (20 : Int32) = 30 by decide), if_true, cl_of _ a1, ck_t i7, td, bn_e]
    rfl
  · subst hc
    obtain ⟨τ1, a1, a2, a3⟩ := w_sums h (show d < 7 by omega)
    refine ⟨pI τ1 22 d 21, ?_, a2.pI 22 d 21, a3.tr (OffW.pI (by omega) (by omega))⟩
    simp only [if_neg (show ¬ (21 : Int32) = 28 by decide), if_neg (show ¬ (21 : Int32) = 30 by decide), if_neg (show ¬ (21 : Int32) = 20 by decide), if_true, cl_of _ a1, ck_t i7, td, bn_e]
    rfl
  · subst hc
    refine ⟨pI τ 24 d 22, ?_, h.pI 24 d 22, OffW.pI (by omega) (by omega)⟩
    simp only [if_neg (show ¬ (22 : Int32) = 28 by decide), if_neg (show ¬ (22 : Int32) = 30 by decide), if_neg (show ¬ (22 : Int32) = 20 by decide), if_neg (show ¬ (22 : Int32) = 21 by decide), if_true, ck_t i7, td, bn_e]
    rfl
  · subst hc
    obtain ⟨τ1, a1, a2, a3⟩ := w_sums h (show d < 7 by omega)
    have s21 : gI τ1 21 d = sumV f d := by rw [a2 21 d (by omega) (by omega)]; unfold sumsE; rw [upE_n (Or.inl (by decide)), upE_s]
    refine ⟨_, ?_, (((a2.pI 19 d (sumV f d)).pI 20 d 24).pI 21 d 0).pI 22 d 20, a3.tr ((((OffW.pI (by omega) (by omega)).tr (OffW.pI (by omega) (by omega))).tr (OffW.pI (by omega) (by omega))).tr (OffW.pI (by omega) (by omega)))⟩
    unfold J_X12_worked_137
    simp only [if_neg (show ¬ (24 : Int32) = 28 by decide), if_neg (show ¬ (24 : Int32) = 30 by decide), if_neg (show ¬ (24 : Int32) = 20 by decide), if_neg (show ¬ (24 : Int32) = 21 by decide), if_neg (show ¬ (24 : Int32) = 22 by decide), if_true, cl_of _ a1, ck_t i7, td, bn_e, s21]
    rfl
  · subst hc
    obtain ⟨τ1, a1, a2, a3⟩ := w_sums h (show d < 7 by omega)
    have s21 : gI τ1 21 d = sumV f d := by rw [a2 21 d (by omega) (by omega)]; unfold sumsE; rw [upE_n (Or.inl (by decide)), upE_s]
    refine ⟨_, ?_, (((a2.pI 19 d (sumV f d)).pI 20 d 25).pI 21 d 0).pI 22 d 20, a3.tr ((((OffW.pI (by omega) (by omega)).tr (OffW.pI (by omega) (by omega))).tr (OffW.pI (by omega) (by omega))).tr (OffW.pI (by omega) (by omega)))⟩
    unfold J_X12_worked_137
    simp only [if_neg (show ¬ (25 : Int32) = 28 by decide), if_neg (show ¬ (25 : Int32) = 30 by decide), if_neg (show ¬ (25 : Int32) = 20 by decide), if_neg (show ¬ (25 : Int32) = 21 by decide), if_neg (show ¬ (25 : Int32) = 22 by decide), if_neg (show ¬ (25 : Int32) = 24 by decide), if_true, cl_of _ a1, ck_t i7, td, bn_e, s21]
    rfl
  · subst hc
    obtain ⟨τ1, a1, a2, a3⟩ := w_tests h (show d < 7 by omega)
    refine ⟨pI τ1 18 d 26, ?_, a2.pI 18 d 26, a3.tr (OffW.pI (by omega) (by omega))⟩
    simp only [if_neg (show ¬ (26 : Int32) = 28 by decide), if_neg (show ¬ (26 : Int32) = 30 by decide), if_neg (show ¬ (26 : Int32) = 20 by decide), if_neg (show ¬ (26 : Int32) = 21 by decide), if_neg (show ¬ (26 : Int32) = 22 by decide), if_neg (show ¬ (26 : Int32) = 24 by decide), if_neg (show ¬ (26 : Int32) = 25 by decide), if_true, cl_of _ a1, ck_t i7, td, bn_e]
    rfl
  · subst hc
    obtain ⟨τ1, a1, a2, a3⟩ := w_tests h (show d < 7 by omega)
    refine ⟨pI τ1 18 d 27, ?_, a2.pI 18 d 27, a3.tr (OffW.pI (by omega) (by omega))⟩
    simp only [if_neg (show ¬ (27 : Int32) = 28 by decide), if_neg (show ¬ (27 : Int32) = 30 by decide), if_neg (show ¬ (27 : Int32) = 20 by decide), if_neg (show ¬ (27 : Int32) = 21 by decide), if_neg (show ¬ (27 : Int32) = 22 by decide), if_neg (show ¬ (27 : Int32) = 24 by decide), if_neg (show ¬ (27 : Int32) = 25 by decide), if_neg (show ¬ (27 : Int32) = 26 by decide), if_true, cl_of _ a1, ck_t i7, td, bn_e]
    rfl
  · subst hc
    obtain ⟨τ1, a1, a2, a3⟩ := w_opens (h.pI 25 (d + 1) 0) (show d + 1 < 7 by omega)
    refine ⟨τ1, ?_, a2, (OffW.pI (by omega) (by omega)).tr a3⟩
    simp only [if_true, if_neg (show ¬ (28 : Int32) = 30 by decide), ck_t i71, td1, bn_e, cl_of _ a1]
    rfl
  · subst hc
    obtain ⟨τ1, a1, a2, a3⟩ := w_tests h (show d < 7 by omega)
    have s17 : gI τ1 17 d = eV f d := (a2 17 d (by omega) (by omega)).trans tests_at.2.1
    have d0 : 0 < d := h9 rfl
    have s1 : nI d + -1 = nI (d - 1) := by rw [show (-1 : Int32) = -nI 1 from rfl, ← Int32.sub_eq_add_neg, pk_sub (by omega)]
    have st : stepE x 29 (d, f) = finE (testsE f d) (d - 1) (eV f d) := step_c rfl
    rw [st]
    obtain ⟨τ', b1, b2, b3⟩ := w_fin (k := fun x2_329 σ_329 => rec x2_329 (nI (i + 1)) σ_329) (v := eV f d) a2 (show d - 1 < 7 by omega) (by have := popE_le (testsE f d) (d - 1) (eV f d); omega)
    refine ⟨τ', Eq.trans ?_ b1, b2, a3.tr b3⟩
    simp only [if_neg (show ¬ (29 : Int32) = 28 by decide), if_neg (show ¬ (29 : Int32) = 30 by decide), if_neg (show ¬ (29 : Int32) = 20 by decide), if_neg (show ¬ (29 : Int32) = 21 by decide), if_neg (show ¬ (29 : Int32) = 22 by decide), if_neg (show ¬ (29 : Int32) = 24 by decide), if_neg (show ¬ (29 : Int32) = 25 by decide), if_neg (show ¬ (29 : Int32) = 26 by decide), if_neg (show ¬ (29 : Int32) = 27 by decide), if_pos (show (29 : Int32) < 100 by decide), if_neg (show ¬ (29 : Int32) < 20 by decide), if_true, cl_of _ a1, ck_t i7, td, bn_e, s17, s1]
  · subst hc
    obtain ⟨τ1, a1, a2, a3⟩ := w_opens (h.pI 25 (d + 1) 1) (show d + 1 < 7 by omega)
    refine ⟨τ1, ?_, a2, (OffW.pI (by omega) (by omega)).tr a3⟩
    simp only [if_neg (show ¬ (30 : Int32) = 28 by decide), if_true, ck_t i71, td1, bn_e, cl_of _ a1]
    rfl
