theorem r_linesT {t n : Nat} {s : Nat → Nat} (kc kx : Mm → Option (Int32 × Mm)) : ∀ d p i fc fm (σ μ : Mm) (P L W : Nat), n - p ≤ d → i ≤ p → d < fc → d < fm → Rd σ μ s n p → gI σ 3 1 = 0 → TB σ μ t P L W → LwT σ μ t →
    (∃ σ' μ' P' L' W', lq2 (F_X6_readTown_18 t kc) (fc + 1) (nI i) σ = kc σ' ∧ lq1 (F_X12_readsAll_65 kx) (fm + 1) μ = kx μ' ∧ CT t σ σ' ∧ MT μ μ' ∧ gI σ' 3 1 = 0 ∧ LwT σ' μ' t ∧ TB σ' μ' t P' L' W') ∨
    (∃ σ' μ', lq2 (F_X6_readTown_18 t kc) (fc + 1) (nI i) σ = kc σ' ∧ lq1 (F_X12_readsAll_65 kx) (fm + 1) μ = some (0, μ') ∧ NoT σ μ σ' μ' t) := by
  intro d
  induction d with
  | zero =>
    intro p i fc fm σ μ P L W hd hi h1 h2 h f0 hb hl
    left
    obtain ⟨q1, q2, q3, q4, q5, q6⟩ := id h
    have k1 : tkK s n p = 1 := by
      apply Classical.byContradiction
      intro z
      have := end_iff q4 z
      omega
    refine ⟨σ, μ, P, L, W, ?_, ?_, Cf.rf.ct, MT.rf, f0, hl, hb⟩
    · show F_X6_readTown_18 t kc _ (nI i) σ = _
      simp only [F_X6_readTown_18, f0, q5.2.2.1, k1, show nI 1 = 1 from rfl, if_true]
      split <;> rfl
    · show F_X12_readsAll_65 kx _ μ = _
      simp only [F_X12_readsAll_65, q6.2.2.1, k1, show nI ((1 + 4) % 5) = 0 from rfl, if_true]
  | succ d ih =>
    intro p i fc fm σ μ P L W hd hi h1 h2 h f0 hb hl
    obtain ⟨q1, q2, q3, q4, q5, q6⟩ := id h
    have hn := q1.1
    have k4 := tkK_le s n p
    by_cases k1 : tkK s n p = 1
    · left
      refine ⟨σ, μ, P, L, W, ?_, ?_, Cf.rf.ct, MT.rf, f0, hl, hb⟩
      · show F_X6_readTown_18 t kc _ (nI i) σ = _
        simp only [F_X6_readTown_18, f0, q5.2.2.1, k1, show nI 1 = 1 from rfl, if_true]
        split <;> rfl
      · show F_X12_readsAll_65 kx _ μ = _
        simp only [F_X12_readsAll_65, q6.2.2.1, k1, show nI ((1 + 4) % 5) = 0 from rfl, if_true]
    · have pn := end_iff q4 k1
      have c1 : nI i < 1000 := nI_lt (a := i) (b := 1000) (by omega) (by omega)
      have e1 : ¬ nI (tkK s n p) = 1 := fun w => k1 ((nI_eq (b := 1) (by omega) (by omega)).mp w)
      have e3 : nI (tkK s n p) = 2 ↔ tkK s n p = 2 := kI k4 (c := 2) (by omega)
      obtain ⟨fc, rfl⟩ : ∃ k, fc = k + 1 := ⟨fc - 1, by omega⟩
      obtain ⟨fm, rfl⟩ : ∃ k, fm = k + 1 := ⟨fm - 1, by omega⟩
      have hd2 : ∀ rec, F_X6_readTown_18 t kc rec (nI i) σ = J_X6_readTown_65 t rec (nI i) σ (oI (wdO s n p)) := fun rec => by
        unfold F_X6_readTown_18
        rw [if_pos c1, if_pos f0, q5.2.2.1, if_neg e1, jn_e]
        unfold wdO
        by_cases z : tkK s n p = 2
        · rw [if_pos (e3.mpr z), if_pos z, (q5.2.2.2.1 z).2]
        · rw [if_neg (fun w => z (e3.mp w)), if_neg z, oI_none]
      have sc : lq2 (F_X6_readTown_18 t kc) (fc + 1 + 1) (nI i) σ = J_X6_readTown_65 t (lq2 (F_X6_readTown_18 t kc) (fc + 1)) (nI i) σ (oI (wdO s n p)) := hd2 _
      have sm : lq1 (F_X12_readsAll_65 kx) (fm + 1 + 1) μ = F_X12_readsAll_65 kx (lq1 (F_X12_readsAll_65 kx) (fm + 1)) μ := rfl
      rw [sc, sm]
      rcases r_lineT h f0 hb hl k1 kx with ⟨σ1, μ1, a1, a2, a3, a4, a5, a6, q, P1, L1, W1, a7, a8, a9⟩ | ⟨σ1, μ1, a1, a2, a3, a4, f, a5, a6, a7, a8⟩
      · rw [a1, a2]
        rcases ih q (i + 1) fc fm σ1 μ1 P1 L1 W1 (by omega) (by omega) (by omega) (by omega) a8 a5 a9 a6 with ⟨σ', μ', P', L', W', t1, t2, t3, t4, t5⟩ | ⟨σ', μ', t1, t2, t3, t4, t5⟩
        · left; exact ⟨σ', μ', P', L', W', t1, t2, a3.tr t3, a4.tr t4, t5⟩
        · right; exact ⟨σ', μ', t1, t2, a3.tr t3, a4.tr t4, t5⟩
      · right
        rw [a1, a2]
        refine ⟨σ1, μ1, ?_, rfl, a3, a4, f, a5, a6, a7, a8⟩
        show F_X6_readTown_18 t kc _ (nI (i + 1)) σ1 = _
        simp only [F_X6_readTown_18, a7, if_neg (nI_ne0 a5 (show f < 2 ^ 31 by omega))]
        split <;> rfl
/-- what a told town leaves as it is -/
def MU (σ τ : Mm) : Prop := (∀ a, a ≠ 0 → (a = 1 ∨ 16 < a) → ∀ k, gI τ a k = gI σ a k) ∧ (∀ a, 2 ≤ a → a ≤ 14 → ∀ k, k < r0M a → gI τ a k = gI σ a k) ∧ (∀ j, j ≠ 1 → j ≠ 3 → j ≠ 4 → j ≠ 5 → j ≠ 6 → j ≠ 8 → j ≠ 9 → j ≠ 23 → j ≠ 24 → j ≠ 37 → j ≠ 39 → gI τ 0 j = gI σ 0 j) ∧ gI τ 0 1 = 0 ∧ (∀ a k, a ≠ 0 → a ≠ 3 → a ≠ 4 → gL τ a k = gL σ a k) ∧ (∀ a k, a = 3 ∨ a = 4 → k < 6 → gL τ a k = gL σ a k) ∧ (∀ a k, gR τ a k = gR σ a k)
theorem MU.mt {σ τ υ : Mm} (h : MU σ τ) (g : MT τ υ) : MU σ υ := ⟨fun b hb hc k => (g.1 b hb hc k).trans (h.1 b hb hc k), fun b hb hc k hk => (g.2.1 b hb hc k hk).trans (h.2.1 b hb hc k hk), fun j _ _ a b c d e f i m o => (g.2.2.1 j a b c d e f i m o).trans (h.2.2.1 j ‹_› ‹_› a b c d e f i m o), (g.2.2.1 1 (by decide) (by decide) (by decide) (by decide) (by decide) (by decide) (by decide) (by decide) (by decide)).trans h.2.2.2.1, fun a k z1 z2 z3 => (g.2.2.2.1 a k z1 z2 z3).trans (h.2.2.2.2.1 a k z1 z2 z3), fun a k z1 z2 => (g.2.2.2.2.1 a k z1 z2).trans (h.2.2.2.2.2.1 a k z1 z2), fun b k => (g.2.2.2.2.2 b k).trans (h.2.2.2.2.2.2 b k)⟩
def rsM (μ : Mm) : Nat → Mm
  | 0 => μ
  | i + 1 => pI (rsM μ i) 2 (4 + i) (if i = 3 then 3 else 0)
theorem rsM4 (μ : Mm) : rsM μ 4 = pI (pI (pI (pI μ 2 4 0) 2 5 0) 2 6 0) 2 7 3 := by
  unfold rsM rsM rsM rsM rsM
  rw [if_neg (by decide), if_neg (by decide), if_neg (by decide), if_pos rfl]
theorem m_readsAll0 (μ : Mm) : f_X12_readsAll μ = J_X12_readsAll_31 (rsM μ 4) := by
  unfold f_X12_readsAll
  rw [jn_e2]
  refine lq2_run (F := F_X12_readsAll_2 J_X12_readsAll_31) (fun i => nI (4 + i)) (fun i => rsM μ i) 4 _ ?_ ?_ (by omega)
  · intro rec i hi
    have k1 : nI (4 + i) < 8 := nI_lt (a := 4 + i) (b := 8) (by omega) (by omega)
    have k2 : nI (4 + i) = 7 ↔ i = 3 := (nI_eq (b := 7) (by omega) (by omega)).trans (by omega)
    unfold F_X12_readsAll_2
    simp only [if_pos k1, jn_e2, ck_t (inb_nI (show 4 + i < 8 by omega) (by omega)), nI_tn (show 4 + i < 2147483648 by omega), bn_e, nI_1]
    by_cases z : i = 3
    · rw [if_pos (k2.mpr z)]
      show rec _ _ = rec _ (pI (rsM μ i) 2 (4 + i) (if i = 3 then 3 else 0))
      rw [if_pos z]; rfl
    · rw [if_neg (fun w => z (k2.mp w))]
      show rec _ _ = rec _ (pI (rsM μ i) 2 (4 + i) (if i = 3 then 3 else 0))
      rw [if_neg z]; rfl
  · intro rec
    unfold F_X12_readsAll_2
    rw [if_neg (show ¬ nI (4 + 4) < 8 by decide)]
theorem m_readsAll1 (τ : Mm) : J_X12_readsAll_31 τ = cl (f_X12_begins (pI (pI (pI (pI τ 12 1 1000) 13 1 1000) 0 24 0) 0 23 1000)) (fun _ σ62 => lq1 (F_X12_readsAll_65 (fun σ_172 => some ((1 : Int32), σ_172))) 1000000 σ62) := by
  unfold J_X12_readsAll_31
  simp only [ck_t (show inb 1 2 = true from rfl), bn_e, jn_e2, show (1 : Int32).toNatClampNeg = 1 from rfl]
theorem r_town {σ μ : Mm} {s : Nat → Nat} {n t : Nat} (h : TapeR σ μ s n) (kw : KwC σ) (ht : isTown t = true) :
    (∃ σ' μ' P L W, f_X6_readTown t σ = cl (f_X9_findWays t σ') (fun _ τ => some (gI τ 3 1, τ)) ∧ f_X12_readsAll μ = some (1, μ') ∧ CT t σ σ' ∧ MU μ μ' ∧ gI σ' 3 1 = 0 ∧ LwT σ' μ' t ∧ TB σ' μ' t P L W) ∨
    (∃ σ' μ' f, 0 < f ∧ f < 1000000 ∧ f_X6_readTown t σ = some (nI f, σ') ∧ f_X12_readsAll μ = some (0, μ') ∧ gI μ' 0 9 = nI f ∧ CT t σ σ' ∧ MU μ μ') := by
  have ta := town_a ht
  obtain ⟨σ0, e0⟩ : ∃ y, y = pI (pI (pI (pI (pI (pI σ t 0 0) t 1 0) t 2 0) t 3 3) t 4 0) (t + 1) 2 0 := ⟨_, rfl⟩
  have em : f_X9_empty t σ = some (0, σ0) := by
    unfold f_X9_empty
    simp only [ck_t ht, bn_e, ← e0]
  obtain ⟨σ1, e1⟩ : ∃ y, y = pI σ0 3 1 0 := ⟨_, rfl⟩
  have i1 : ∀ a k, a ≠ 3 → a ≠ t → a ≠ t + 1 → gI σ1 a k = gI σ a k := fun a k h1 h2 h3 => by
    rw [e1, gI_pI_n (Or.inl h1), e0, gI_pI_n (Or.inl h3), gI_pI_n (Or.inl h2), gI_pI_n (Or.inl h2), gI_pI_n (Or.inl h2), gI_pI_n (Or.inl h2), gI_pI_n (Or.inl h2)]
  have l1 : ∀ a k, gL σ1 a k = gL σ a k := fun a k => by rw [e1, e0]; rfl
  have c1 : CT t σ σ1 := ⟨fun a h1 _ h3 k => i1 a k h1 (by omega) (by omega), fun a _ _ k => l1 a k, fun a k => by rw [e1, e0]; rfl⟩
  obtain ⟨μ1, e2⟩ : ∃ y, y = pI (pI (pI (pI (pI (pI (pI (pI μ 2 4 0) 2 5 0) 2 6 0) 2 7 3) 12 1 1000) 13 1 1000) 0 24 0) 0 23 1000 := ⟨_, rfl⟩
  have m1 : MT μ μ1 := by
    rw [e2]
    exact (MT.pI (by omega) (by show (4 : Nat) ≤ 4; omega)).tr ((MT.pI (by omega) (by show (4 : Nat) ≤ 5; omega)).tr ((MT.pI (by omega) (by show (4 : Nat) ≤ 6; omega)).tr ((MT.pI (by omega) (by show (4 : Nat) ≤ 7; omega)).tr ((MT.pI (by omega) (by show (1 : Nat) ≤ 1; omega)).tr ((MT.pI (by omega) (by show (1 : Nat) ≤ 1; omega)).tr ((MT.p0 (Or.inr rfl)).tr (MT.p0 (Or.inl rfl))))))))
  have t1 : TapeR σ1 μ1 s n := by
    refine ⟨h.1, ?_, ?_, fun k hk => ?_⟩
    · rw [i1 1 _ (by decide) (by omega) (by omega)]; exact h.2.1
    · rw [m1.2.2.1 1 (by decide) (by decide) (by decide) (by decide) (by decide) (by decide) (by decide) (by decide) (by decide)]; exact h.2.2.1
    · rw [i1 2 _ (by decide) (by omega) (by omega), m1.1 1 (by decide) (Or.inl rfl)]; exact h.2.2.2 k hk
  have kw1 : KwC σ1 := fun i hi => by rw [l1]; exact kw i hi
  obtain ⟨σ2, μ2, a1, a2, a3, a4, a5, a6, a7, a8, a9⟩ := r_begin t1 kw1
  have c2 : CT t σ σ2 := c1.tr a3.cf.ct
  have f0 : gI σ2 3 1 = 0 := by rw [a3.1 3 (by decide), e1, gI_pI_s]
  have mu : MU μ μ2 := by
    refine ⟨fun a h1 h2 k => ?_, fun a h1 h2 k hk => ?_, fun j j1 j3 j4 j5 j6 j8 j9 j23 j24 j37 j39 => ?_, a7, fun a k z1 z2 z3 => ?_, fun a k z1 z2 => ?_, fun a k => ?_⟩
    · rw [a5 a h1]; exact m1.1 a h1 h2 k
    · rw [a5 a (by omega)]; exact m1.2.1 a h1 h2 k hk
    · rw [a6 j j1 j3 j4 j5 j6 j8]; exact m1.2.2.1 j j4 j5 j6 j8 j9 j23 j24 j37 j39
    · rw [a8 a k (fun y => z1 y.1)]; exact m1.2.2.2.1 a k z1 z2 z3
    · rw [a8 a k (by omega)]; exact m1.2.2.2.2.1 a k z1 z2
    · rw [a9]; exact m1.2.2.2.2.2 a k
  have x2 : ∀ k, gI σ2 t k = gI σ1 t k := fun k => a3.1 t (by omega) k
  have y2 : ∀ k, gI μ2 2 k = gI μ1 2 k := fun k => a5 2 (by decide) k
  have st0 : gI σ1 t 0 = nI 0 ∧ gI σ1 t 1 = nI 0 ∧ gI σ1 t 2 = nI 0 ∧ gI σ1 t 3 = 3 ∧ gI σ1 t 4 = 0 ∧ gI σ1 (t + 1) 2 = nI 0 := by
    rw [e1, e0]
    refine ⟨?_, ?_, ?_, ?_, ?_, ?_⟩
    · rw [gI_pI_n (Or.inl (by omega)), gI_pI_n (Or.inl (by omega)), gI_pI_n (Or.inr (by decide)), gI_pI_n (Or.inr (by decide)), gI_pI_n (Or.inr (by decide)), gI_pI_n (Or.inr (by decide)), gI_pI_s]; rfl
    · rw [gI_pI_n (Or.inl (by omega)), gI_pI_n (Or.inl (by omega)), gI_pI_n (Or.inr (by decide)), gI_pI_n (Or.inr (by decide)), gI_pI_n (Or.inr (by decide)), gI_pI_s]; rfl
    · rw [gI_pI_n (Or.inl (by omega)), gI_pI_n (Or.inl (by omega)), gI_pI_n (Or.inr (by decide)), gI_pI_n (Or.inr (by decide)), gI_pI_s]; rfl
    · rw [gI_pI_n (Or.inl (by omega)), gI_pI_n (Or.inl (by omega)), gI_pI_n (Or.inr (by decide)), gI_pI_s]
    · rw [gI_pI_n (Or.inl (by omega)), gI_pI_n (Or.inl (by omega)), gI_pI_s]
    · rw [gI_pI_n (Or.inl (by omega)), gI_pI_s]; rfl
  have sm0 : gI μ1 2 4 = nI 0 ∧ gI μ1 2 5 = nI 0 ∧ gI μ1 2 6 = nI 0 ∧ gI μ1 2 7 = 3 ∧ gI μ1 12 1 = nI 1000 ∧ gI μ1 13 1 = nI 1000 ∧ gI μ1 0 24 = 0 ∧ gI μ1 0 23 = nI 1000 := by
    rw [e2]
    have d : ∀ (τ : Mm) (a k : Nat), a ≠ 0 → a ≠ 12 → a ≠ 13 → gI (pI (pI (pI (pI τ 12 1 1000) 13 1 1000) 0 24 0) 0 23 1000) a k = gI τ a k := fun τ a k h1 h2 h3 => by rw [gI_pI_n (Or.inl h1), gI_pI_n (Or.inl h1), gI_pI_n (Or.inl h3), gI_pI_n (Or.inl h2)]
    refine ⟨?_, ?_, ?_, ?_, ?_, ?_, ?_, ?_⟩
    · rw [d _ _ _ (by decide) (by decide) (by decide), gI_pI_n (Or.inr (by decide)), gI_pI_n (Or.inr (by decide)), gI_pI_n (Or.inr (by decide)), gI_pI_s]; rfl
    · rw [d _ _ _ (by decide) (by decide) (by decide), gI_pI_n (Or.inr (by decide)), gI_pI_n (Or.inr (by decide)), gI_pI_s]; rfl
    · rw [d _ _ _ (by decide) (by decide) (by decide), gI_pI_n (Or.inr (by decide)), gI_pI_s]; rfl
    · rw [d _ _ _ (by decide) (by decide) (by decide), gI_pI_s]
    · rw [gI_pI_n (Or.inl (by decide)), gI_pI_n (Or.inl (by decide)), gI_pI_n (Or.inl (by decide)), gI_pI_s]; rfl
    · rw [gI_pI_n (Or.inl (by decide)), gI_pI_n (Or.inl (by decide)), gI_pI_s]; rfl
    · rw [gI_pI_n (Or.inr (by decide)), gI_pI_s]
    · rw [gI_pI_s]; rfl
  have tb : TB σ2 μ2 t 0 0 0 := by
    refine ⟨⟨ht, by omega, by omega, by rw [x2]; exact st0.1, by rw [y2]; exact sm0.1, fun k hk => absurd hk (by omega)⟩, ⟨ht, by omega, by omega, by rw [x2]; exact st0.2.2.1, by rw [y2]; exact sm0.2.2.1, fun k hk => absurd hk (by omega)⟩, by omega, by rw [x2]; exact st0.2.1, by rw [y2]; exact sm0.2.1, ?_, ?_, fun k hk => absurd hk (by omega), fun k hk => absurd hk (by omega)⟩
    · rw [x2, y2, st0.2.2.2.1, sm0.2.2.2.1]
    · rw [x2, a6 24 (by decide) (by decide) (by decide) (by decide) (by decide) (by decide), st0.2.2.2.2.1, sm0.2.2.2.2.2.2.1]
  have lw : LwT σ2 μ2 t := ⟨by rw [a5 12 (by decide)]; exact sm0.2.2.2.2.1, Or.inl ⟨by rw [a3.1 _ (by omega)]; exact st0.2.2.2.2.2, by rw [a5 13 (by decide)]; exact sm0.2.2.2.2.2.1, by rw [a6 23 (by decide) (by decide) (by decide) (by decide) (by decide) (by decide)]; exact sm0.2.2.2.2.2.2.2⟩⟩
  obtain ⟨kc, ek⟩ : ∃ k : Mm → Option (Int32 × Mm), k = (fun (σ_164 : Mm) => jn (fun (σ_175 : Mm) => some ((gI σ_175 3 1), σ_175)) (fun k175 => (if (gI σ_164 3 1) = 0 then cl (f_X9_findWays t σ_164) (fun _ σ172 => k175 σ172) else k175 σ_164))) := ⟨_, rfl⟩
  have eC : f_X6_readTown t σ = lq2 (F_X6_readTown_18 t kc) 1000000 (0 : Int32) σ2 := by
    unfold f_X6_readTown
    rw [ck_t ht, cl_of _ em, bn_e, ← e1, cl_of _ a1, jn_e2, ← ek]
  have eM : f_X12_readsAll μ = lq1 (F_X12_readsAll_65 (fun σ_172 => some ((1 : Int32), σ_172))) 1000000 μ2 := by
    rw [m_readsAll0, m_readsAll1, rsM4, ← e2, cl_of _ a2]
  have hn := h.1
  rw [eC, eM]
  rcases r_linesT (t := t) (n := n) (s := s) kc (fun σ_172 => some ((1 : Int32), σ_172)) 1000 0 0 999999 999999 σ2 μ2 0 0 0 (by omega) (by omega) (by omega) (by omega) a4 f0 tb lw with ⟨σ', μ', P, L, W, b1, b2, b3, b4, b5, b6, b7⟩ | ⟨σ', μ', b1, b2, b3, b4, f, b5, b6, b7, b8⟩
  · left
    refine ⟨σ', μ', P, L, W, Eq.trans b1 ?_, b2, c2.tr b3, mu.mt b4, b5, b6, b7⟩
    rw [ek]
    show jn _ _ = _
    rw [jn_e2, if_pos b5]
  · right
    refine ⟨σ', μ', f, b5, b6, Eq.trans b1 ?_, b2, b8, c2.tr b3, mu.mt b4⟩
    rw [ek]
    show jn _ _ = _
    rw [jn_e2, b7, if_neg (nI_ne0 b5 (show f < 2 ^ 31 by omega))]
    show some (gI σ' 3 1, σ') = _
    rw [b7]
