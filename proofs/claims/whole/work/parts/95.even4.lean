def TapeR (σ μ : Mm) (s : Nat → Nat) (n : Nat) : Prop := n ≤ 1000 ∧ gI σ 1 1 = nI n ∧ gI μ 0 1 = nI n ∧ ∀ k, k < n → gI σ 2 k = nI (s k) ∧ gI μ 1 k = nI (s k) ∧ sOk (s k)
/-- reading begins -/
theorem r_begin {σ μ : Mm} {s : Nat → Nat} {n : Nat} (h : TapeR σ μ s n) (kw : KwC σ) : ∃ σ' μ', f_X8_restart σ = some (0, σ') ∧ f_X12_begins μ = some (0, μ') ∧ Fx 4 σ σ' ∧ Rd σ' μ' s n 0 ∧ (∀ a, a ≠ 0 → ∀ k, gI μ' a k = gI μ a k) ∧ (∀ j, j ≠ 1 → j ≠ 3 → j ≠ 4 → j ≠ 5 → j ≠ 6 → j ≠ 8 → gI μ' 0 j = gI μ 0 j) ∧ gI μ' 0 1 = 0 ∧ (∀ a k, ¬ (a = 0 ∧ k = 7) → gL μ' a k = gL μ a k) ∧ (∀ a k, gR μ' a k = gR μ a k) := by
  obtain ⟨h1, h2, h3, h4⟩ := h
  obtain ⟨σ1, e1⟩ : ∃ y, y = pI σ 4 4 0 := ⟨_, rfl⟩
  have f1 : Fx 4 σ σ1 := by rw [e1]; exact Fx.pI
  have t1 : TPc σ1 s n := TPc.fx ⟨h1, h2, fun k hk => ⟨(h4 k hk).1, (h4 k hk).2.2⟩⟩ f1
  obtain ⟨σ', a1, a2, a3⟩ := s_advance (p := 0) t1 (kw.fx f1) (by omega) (by rw [e1, gI_pI_s]; rfl)
  obtain ⟨μ1, e2⟩ : ∃ y, y = pI (pI (pI μ 0 3 (nI n)) 0 1 0) 0 4 0 := ⟨_, rfl⟩
  have m0 : ∀ a, a ≠ 0 → ∀ k, gI μ1 a k = gI μ a k := fun a ha k => by rw [e2, gI_pI_n (Or.inl ha), gI_pI_n (Or.inl ha), gI_pI_n (Or.inl ha)]
  have m1 : ∀ j, j ≠ 1 → j ≠ 3 → j ≠ 4 → gI μ1 0 j = gI μ 0 j := fun j a b c => by rw [e2, gI_pI_n (Or.inr c), gI_pI_n (Or.inr a), gI_pI_n (Or.inr b)]
  have t2 : TPm μ1 s n := ⟨h1, by rw [e2, gI_pI_n (Or.inr (by decide)), gI_pI_n (Or.inr (by decide)), gI_pI_s], fun k hk => by rw [m0 1 (by decide)]; exact ⟨(h4 k hk).2.1, (h4 k hk).2.2⟩⟩
  obtain ⟨μ', b1, b2, b3⟩ := m_nextToken (p := 0) t2 (by omega) (by rw [e2, gI_pI_s]; rfl)
  refine ⟨σ', μ', ?_, ?_, f1.tr a2, ⟨t1.fx a2, t2.fm b2, kw.fx (f1.tr a2), by omega, a3, b3⟩, fun a ha k => (b2.1 a ha k).trans (m0 a ha k), fun j j1 j3 j4 j5 j6 j8 => (b2.2.1 j j4 j5 j6 j8).trans (m1 j j1 j3 j4), ?_, fun a k z => ?_, fun a k => ?_⟩
  · unfold f_X8_restart
    rw [bn_e, ← e1, cl_of _ a1]
  · unfold f_X12_begins
    simp only [bn_e, h3, ← e2, cl_of _ b1]
  · rw [b2.2.1 1 (by decide) (by decide) (by decide) (by decide), e2, gI_pI_n (Or.inr (by decide)), gI_pI_s]
  · rw [b2.2.2.1 a k z, e2]; rfl
  · rw [b2.2.2.2 a k, e2]; rfl
def lnZ : Ln := (0, fun _ => 0, fun _ => 0, fun _ => 0)
/-- what a told evening leaves as it is -/
def Mev (σ τ : Mm) : Prop := (∀ a, a ≠ 0 → (a < 28 ∨ 31 < a) → ∀ k, gI τ a k = gI σ a k) ∧ (∀ j, 9 < j → j ≠ 37 → j ≠ 39 → gI τ 0 j = gI σ 0 j) ∧ gI τ 0 1 = 0 ∧ (∀ k, 0 < k → k < 5 → gI τ 28 k = gI σ 28 k) ∧ (∀ a, 29 ≤ a → a ≤ 31 → ∀ k, 40 ≤ k → k < 200 → gI τ a k = gI σ a k) ∧ (∀ a k, a ≠ 0 → gL τ a k = gL σ a k) ∧ (∀ a k, gR τ a k = gR σ a k)
theorem r_evening {σ μ : Mm} {s : Nat → Nat} {n t P W b1 : Nat} (h : TapeR σ μ s n) (kw : KwC σ) (hP : NmP σ μ t 0 P) (hW : NmW σ μ t 0 W) (hb : b1 = 237 ∨ b1 = 241) :
    (∃ σ' μ' l, f_X6_readEvening b1 t σ = some (0, σ') ∧ f_X12_evening μ = some (0, μ') ∧ CE b1 σ σ' ∧ Mev μ μ' ∧ LC σ' b1 l ∧ LR μ' 0 l ∧ LnOq P W l) ∨ (∃ σ' μ' f, 0 < f ∧ f < 1000000 ∧ f_X6_readEvening b1 t σ = some (nI f, σ') ∧ f_X12_evening μ = some (nI f, μ') ∧ CE b1 σ σ' ∧ Mev μ μ' ∧ (gI μ' 28 0 = gI μ 28 0) ∧ ∀ a, 29 ≤ a → a ≤ 31 → ∀ k, k < 40 → gI μ' a k = gI μ a k) := by
  have n5 : (5 : Int32).toNatClampNeg = 5 := rfl
  have ta := town_a hP.1
  obtain ⟨σ1, e1⟩ : ∃ y, y = pI (pI σ b1 0 0) 3 1 0 := ⟨_, rfl⟩
  have c1 : CE b1 σ σ1 := by
    rw [e1]
    exact ⟨fun a h1 h2 h3 k => by rw [gI_pI_n (Or.inl h1), gI_pI_n (Or.inl (by omega))], fun _ _ _ => rfl, fun _ _ => rfl, fun i hi h4 q => q.fr (fun j => by rw [gI_pI_n (Or.inl (by omega)), gI_pI_n (Or.inl (by omega))])⟩
  obtain ⟨μ1, e2⟩ : ∃ y, y = pI (pI μ 0 0 0) 28 5 0 := ⟨_, rfl⟩
  have m1 : ∀ a, a ≠ 0 → a ≠ 28 → ∀ k, gI μ1 a k = gI μ a k := fun a h1 h2 k => by rw [e2, gI_pI_n (Or.inl h2), gI_pI_n (Or.inl h1)]
  have m2 : ∀ j, 0 < j → gI μ1 0 j = gI μ 0 j := fun j hj => by rw [e2, gI_pI_n (Or.inl (by decide)), gI_pI_n (Or.inr (by omega))]
  have m3 : ∀ k, k ≠ 5 → gI μ1 28 k = gI μ 28 k := fun k hk => by rw [e2, gI_pI_n (Or.inr hk), gI_pI_n (Or.inl (by decide))]
  have t1 : TapeR σ1 μ1 s n := by
    refine ⟨h.1, ?_, by rw [m2 1 (by omega)]; exact h.2.2.1, fun k hk => ?_⟩
    · rw [c1.1 1 (by decide) (by decide) (by omega)]; exact h.2.1
    · rw [c1.1 2 (by decide) (by decide) (by omega), m1 1 (by decide) (by decide)]; exact h.2.2.2 k hk
  have kw1 : KwC σ1 := fun i hi => by rw [c1.2.1 5 (by decide)]; exact kw i hi
  obtain ⟨σ2, μ2, a1, a2, a3, a4, a5, a6, a7, a8, a9⟩ := r_begin t1 kw1
  have c2 : CE b1 σ σ2 := c1.tr a3.cf.ce
  have f0 : gI σ2 3 1 = 0 := by rw [a3.1 3 (by decide), e1, gI_pI_s]
  have hl : LC σ2 b1 lnZ := ⟨lines_a hb, by rw [a3.1 b1 (by omega), e1, gI_pI_n (Or.inl (by omega)), gI_pI_s]; rfl, fun k hk => absurd hk (Nat.not_lt_zero k)⟩
  have hm : LR μ2 5 lnZ := ⟨by rw [a5 28 (by decide), e2, gI_pI_s]; rfl, fun k hk => absurd hk (Nat.not_lt_zero k)⟩
  have ok : LnOq P W lnZ := ⟨by show 0 ≤ 40; omega, fun k hk => absurd hk (Nat.not_lt_zero k)⟩
  have gl : ∀ a k, a ≠ 0 → gL μ2 a k = gL μ a k := fun a k ha => by rw [a8 a k (fun z => ha z.1), e2]; rfl
  have hP2 : NmP σ2 μ2 t 0 P := by
    obtain ⟨h1, h2, h3, h4, h5, h6⟩ := hP
    refine ⟨h1, h2, h3, by rw [c2.1 t (by omega) (by omega) (by omega)]; exact h4, by rw [a5 2 (by decide), m1 2 (by decide) (by decide)]; exact h5, fun k hk => ?_⟩
    rw [c2.2.1 (t + 4) (by omega), gl 3 _ (by decide)]; exact h6 k hk
  have hW2 : NmW σ2 μ2 t 0 W := by
    obtain ⟨h1, h2, h3, h4, h5, h6⟩ := hW
    refine ⟨h1, h2, h3, by rw [c2.1 t (by omega) (by omega) (by omega)]; exact h4, by rw [a5 2 (by decide), m1 2 (by decide) (by decide)]; exact h5, fun k hk => ?_⟩
    rw [c2.2.1 (t + 8) (by omega), gl 4 _ (by decide)]; exact h6 k hk
  have eC : f_X6_readEvening b1 t σ = lq2 (F_X6_readEvening_19 b1 t (fun σ_56 => some ((gI σ_56 3 1), σ_56))) 1000000 (0 : Int32) σ2 := by
    unfold f_X6_readEvening
    rw [ck_t (lines_a hb), ck_t hP.1, bn_e, bn_e, ← e1, cl_of _ a1, jn_e2]
  obtain ⟨kx, ek⟩ : ∃ k : Mm → Option (Int32 × Mm), k = (fun (σ_35 : Mm) => cl (f_X12_laysLines (5 : Int32) (0 : Int32) σ_35) (fun _ σ38 => some ((0 : Int32), σ38))) := ⟨_, rfl⟩
  have eM : f_X12_evening μ = lq1 (F_X12_evening_16 kx (fun σ_30 => some ((gI σ_30 0 9), σ_30))) 1000000 μ2 := by
    unfold f_X12_evening
    rw [bn_e, ck_t (show inb 5 6 = true from rfl), bn_e, n5, ← e2, cl_of _ a2, jn_e2, jn_e2, ← ek]
  have hn := h.1
  have key := r_lines (t := t) (P := P) (W := W) (n := n) (s := s) hb kx 1000 0 0 999999 999999 σ2 μ2 lnZ (by omega) (by omega) (by omega) (by omega) a4 f0 hP2 hW2 hl hm ok
  rw [eC, eM]
  have g : ∀ μ', ME μ2 μ' → Mev μ μ' ∧ gI μ' 28 0 = gI μ 28 0 ∧ ∀ a, 29 ≤ a → a ≤ 31 → ∀ k, k < 200 → gI μ' a k = gI μ a k := by
    intro μ' q
    refine ⟨⟨fun a h1 h2 k => ?_, fun j j1 j2 j3 => ?_, ?_, fun k k1 k2 => ?_, fun a h1 h2 k k1 k2 => ?_, fun a k ha => ?_, fun a k => ?_⟩, ?_, fun a h1 h2 k hk => ?_⟩
    · rw [q.1 a h1 h2, a5 a h1, m1 a h1 (by omega)]
    · rw [q.2.1 j (by omega) (by omega) (by omega) (by omega) (by omega) j2 j3, a6 j (by omega) (by omega) (by omega) (by omega) (by omega) (by omega), m2 j (by omega)]
    · rw [q.2.1 1 (by decide) (by decide) (by decide) (by decide) (by decide) (by decide) (by decide)]; exact a7
    · rw [q.2.2.1 k k2, a5 28 (by decide), m3 k (by omega)]
    · rw [q.2.2.2.1 a h1 h2 k k2, a5 a (by omega), m1 a (by omega) (by omega)]
    · rw [q.2.2.2.2.1 a k (fun z => ha z.1), gl a k ha]
    · rw [q.2.2.2.2.2 a k, a9, e2]; rfl
    · rw [q.2.2.1 0 (by decide), a5 28 (by decide), m3 0 (by decide)]
    · rw [q.2.2.2.1 a h1 h2 k hk, a5 a (by omega), m1 a (by omega) (by omega)]
  rcases key with ⟨σ', μ', l', b1', b2', b3', b4', b5', b6', b7'⟩ | ⟨σ', μ', f, g0, g1, b1', b2', b3', b4'⟩
  · left
    obtain ⟨τ, t1, t2, t3, t4⟩ := m_laysLines (σ := μ') (a := 5) (b := 0) (by omega) (by omega) (by omega)
    have t1 : f_X12_laysLines 5 0 μ' = some (0, τ) := t1
    refine ⟨σ', τ, l', b1', ?_, c2.tr b3', ?_, b5', b6'.lay b7'.1 t3 t4, b7'⟩
    · refine Eq.trans b2' ?_
      rw [ek]
      show cl (f_X12_laysLines 5 0 μ') _ = _
      rw [cl_of _ t1]
    · obtain ⟨q1, q2, q3, q4, q5, q6, q7⟩ := (g μ' b4').1
      refine ⟨fun a h1 h2 k => ?_, fun j j1 j2 j3 => ?_, ?_, fun k k1 k2 => ?_, fun a h1 h2 k k1 k2 => ?_, fun a k ha => ?_, fun a k => ?_⟩
      · rw [t2.1 a (by simp; omega)]; exact q1 a h1 h2 k
      · rw [t2.1 0 (by simp)]; exact q2 j j1 j2 j3
      · rw [t2.1 0 (by simp)]; exact q3
      · rw [t3, if_neg (by omega)]; exact q4 k k1 k2
      · rw [(t4 a (by omega)).2 k (by omega)]; exact q5 a h1 h2 k k1 k2
      · rw [t2.2.1]; exact q6 a k ha
      · rw [t2.2.2]; exact q7 a k
  · right
    exact ⟨σ', μ', f, g0, g1, b1', b2', c2.tr b3', (g μ' b4').1, (g μ' b4').2.1, fun a h1 h2 k hk => (g μ' b4').2.2 a h1 h2 k (by omega)⟩
