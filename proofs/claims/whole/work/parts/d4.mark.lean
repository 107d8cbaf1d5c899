/-! marks -/
theorem fitB_iff {σ : Mm} {a : Nat} : fitB σ a 40 = true ↔ Fb σ a := by
  unfold fitB Fb
  rw [List.all_eq_true]
  exact ⟨fun h j hj => h j (List.mem_range.mpr hj), fun h j hj => h j (List.mem_range.mp hj)⟩
theorem s_copyL {σ : Mm} {a b : Nat} {l : Ln} (ha : isLines a = true) (hab : a ≠ b) (h : LC σ b l) (h40 : lM l ≤ 40) (fb : ∀ i, i < 3 → Fb σ (b + 1 + i)) : ∃ τ, f_X2_copyFrom a b σ = some (0, τ) ∧ LC τ a l ∧ (∀ i, i < 3 → Fb τ (a + 1 + i)) ∧ Off [a, a + 1, a + 2, a + 3] σ τ := by
  obtain ⟨h1, h2, h3⟩ := h
  have la := lines_in ha
  have lb := lines_in h1
  obtain ⟨τ1, e1⟩ : ∃ q, q = pI σ a 0 (gI σ b 0) := ⟨_, rfl⟩
  obtain ⟨τ2, e2⟩ : ∃ q, q = pC τ1 (b + 1) 0 (a + 1) 0 40 := ⟨_, rfl⟩
  obtain ⟨τ3, e3⟩ : ∃ q, q = pC τ2 (b + 2) 0 (a + 2) 0 40 := ⟨_, rfl⟩
  obtain ⟨τ4, e4⟩ : ∃ q, q = pC τ3 (b + 3) 0 (a + 3) 0 40 := ⟨_, rfl⟩
  have k1 : ∀ c, c ≠ a → ∀ k, gI τ1 c k = gI σ c k := fun c hc k => by rw [e1, gI_pI_n (Or.inl hc)]
  have k2 : ∀ c, c ≠ a → c ≠ a + 1 → ∀ k, gI τ2 c k = gI σ c k := fun c hc hd k => by rw [e2, gI_pC_n hd]; exact k1 c hc k
  have k3 : ∀ c, c ≠ a → c ≠ a + 1 → c ≠ a + 2 → ∀ k, gI τ3 c k = gI σ c k := fun c hc hd he k => by rw [e3, gI_pC_n he]; exact k2 c hc hd k
  have f1 : fitB τ1 (b + 1) 40 = true := fitB_iff.mpr ((fb 0 (by omega)).fr (fun j => k1 _ (by omega) j))
  have f2 : fitB τ2 (b + 2) 40 = true := fitB_iff.mpr ((fb 1 (by omega)).fr (fun j => k2 _ (by omega) (by omega) j))
  have f3 : fitB τ3 (b + 3) 40 = true := fitB_iff.mpr ((fb 2 (by omega)).fr (fun j => k3 _ (by omega) (by omega) (by omega) j))
  have g1 : ∀ k, k < 40 → gI τ4 (a + 1) k = gI σ (b + 1) k := fun k hk => by rw [e4, gI_pC_n (by omega), e3, gI_pC_n (by omega), e2, gI_pC_s hk]; exact k1 _ (by omega) k
  have g2 : ∀ k, k < 40 → gI τ4 (a + 2) k = gI σ (b + 2) k := fun k hk => by rw [e4, gI_pC_n (by omega), e3, gI_pC_s hk]; exact k2 _ (by omega) (by omega) k
  have g3 : ∀ k, k < 40 → gI τ4 (a + 3) k = gI σ (b + 3) k := fun k hk => by rw [e4, gI_pC_s hk]; exact k3 _ (by omega) (by omega) (by omega) k
  have g0 : gI τ4 a 0 = gI σ b 0 := by rw [e4, gI_pC_n (by omega), e3, gI_pC_n (by omega), e2, gI_pC_n (by omega), e1, gI_pI_s]
  refine ⟨τ4, ?_, ⟨ha, g0.trans h2, fun k hk => ?_⟩, fun i hi => ?_, fun c hc k => ?_, fun c k => ?_, fun c k => ?_⟩
  · unfold f_X2_copyFrom
    rw [ck_t ha, ck_t h1, bn_e, ← e1, ck_t f1, bn_e, ← e2, ck_t f2, bn_e, ← e3, ck_t f3, bn_e, ← e4]
  · rw [g1 k (by omega), g2 k (by omega), g3 k (by omega)]; exact h3 k hk
  · have ii : i = 0 ∨ i = 1 ∨ i = 2 := by omega
    rcases ii with rfl | rfl | rfl
    · exact fun j hj => by rw [show a + 1 + 0 = a + 1 from rfl, g1 j hj]; exact fb 0 (by omega) j hj
    · exact fun j hj => by rw [show a + 1 + 1 = a + 2 from rfl, g2 j hj]; exact fb 1 (by omega) j hj
    · exact fun j hj => by rw [show a + 1 + 2 = a + 3 from rfl, g3 j hj]; exact fb 2 (by omega) j hj
  · simp only [List.mem_cons, List.not_mem_nil, or_false, not_or] at hc
    rw [e4, gI_pC_n hc.2.2.2]; exact k3 c hc.1 hc.2.1 hc.2.2.1 k
  · rw [e4, gL_pC, e3, gL_pC, e2, gL_pC, e1, gL_pI]
  · rw [e4, gR_pC, e3, gR_pC, e2, gR_pC, e1, gR_pI]
theorem watched_in {a : Nat} (h : isWatched a = true) : a = 127 ∨ a = 144 ∨ a = 160 ∨ a = 176 ∨ a = 192 := by
  simp only [isWatched, List.contains_eq_mem, List.mem_cons, List.not_mem_nil, or_false, decide_eq_true_eq] at h
  exact h
theorem nar01 {z : Int32} (h : z = 0 ∨ z = 1) : vp_nar .boolean z = z := by rcases h with rfl | rfl <;> rfl
theorem s_copyW {σ : Mm} {T : Tw} {a b : Nat} {w : Wt} (ha : isWatched a = true) (hab : a ≠ b) (h : WC σ b w) (ok : WtOk T w) : ∃ τ, f_X10_copyFrom a b σ = some (0, τ) ∧ WC τ a w ∧ Off [a, a + 1, a + 2, a + 3] σ τ := by
  obtain ⟨h1, h2, h3⟩ := h
  have la := watched_in ha
  have lb := watched_in h1
  obtain ⟨τ1, e1⟩ : ∃ q, q = pI σ a 0 (gI σ b 0) := ⟨_, rfl⟩
  have k1 : ∀ c, c ≠ a → ∀ k, gI τ1 c k = gI σ c k := fun c hc k => by rw [e1, gI_pI_n (Or.inl hc)]
  have q := lq2_inv (F := F_X10_copyFrom_10 a b (fun σ_58 => some ((0 : Int32), σ_58))) (fun i => nI i) (fun i c => Off [a + 1, a + 2, a + 3] τ1 c ∧ ∀ k, k < i → gI c (a + 1) k = gI σ (b + 1) k ∧ gI c (a + 2) k = gI σ (b + 2) k ∧ gI c (a + 3) k = vp_nar .boolean (gI σ (b + 3) k)) 6 (fun σ_58 => some ((0 : Int32), σ_58)) ?_ ?_ (n := 1000000) (b0 := τ1) ?_ (by omega)
  · obtain ⟨c, hc, e⟩ := q
    refine ⟨c, ?_, ⟨ha, ?_, fun k hk => ?_⟩, fun d hd k => ?_, fun d k => ?_, fun d k => ?_⟩
    · unfold f_X10_copyFrom
      rw [ck_t ha, ck_t h1, bn_e, jn_e2, ← e1]
      exact e
    · rw [hc.1.1 a (by simp), e1, gI_pI_s]; exact h2
    · have h6 := ok.1
      obtain ⟨c1, c2, c3⟩ := hc.2 k (by omega)
      rw [c1, c2, c3, nar01 (by rw [(h3 k hk).2.2]; exact (ok.2 k hk).2.2)]
      exact h3 k hk
    · simp only [List.mem_cons, List.not_mem_nil, or_false, not_or] at hd
      rw [hc.1.1 d (by simp; omega)]; exact k1 d hd.1 k
    · rw [hc.1.2.1, e1, gL_pI]
    · rw [hc.1.2.2, e1, gR_pI]
  · intro rc i c hi hc
    obtain ⟨c1, c2⟩ := hc
    have l1 : nI i < 6 := nI_lt (a := i) (b := 6) hi (by omega)
    have s1 : gI c (b + 1) i = gI σ (b + 1) i := by rw [c1.1 (b + 1) (by simp; omega)]; exact k1 _ (by omega) i
    have s2 : ∀ v, gI (pI c (a + 1) i v) (b + 2) i = gI σ (b + 2) i := fun v => by rw [gI_pI_n (Or.inl (by omega)), c1.1 (b + 2) (by simp; omega)]; exact k1 _ (by omega) i
    have s3 : ∀ v u, gI (pI (pI c (a + 1) i v) (a + 2) i u) (b + 3) i = gI σ (b + 3) i := fun v u => by rw [gI_pI_n (Or.inl (by omega)), gI_pI_n (Or.inl (by omega)), c1.1 (b + 3) (by simp; omega)]; exact k1 _ (by omega) i
    refine ⟨pI (pI (pI c (a + 1) i (gI σ (b + 1) i)) (a + 2) i (gI σ (b + 2) i)) (a + 3) i (vp_nar .boolean (gI σ (b + 3) i)), ⟨((c1.tr (Off.pI (by simp))).tr (Off.pI (by simp))).tr (Off.pI (by simp)), fun k hk => ?_⟩, ?_⟩
    · by_cases z : k = i
      · subst z
        refine ⟨?_, ?_, gI_pI_s _ _ _ _⟩
        · rw [gI_pI_n (Or.inl (by omega)), gI_pI_n (Or.inl (by omega)), gI_pI_s]
        · rw [gI_pI_n (Or.inl (by omega)), gI_pI_s]
      · rw [gI_pI_n (Or.inr z), gI_pI_n (Or.inr z), gI_pI_n (Or.inr z), gI_pI_n (Or.inr z), gI_pI_n (Or.inr z), gI_pI_n (Or.inr z), gI_pI_n (Or.inr z), gI_pI_n (Or.inr z), gI_pI_n (Or.inr z)]
        exact c2 k (by omega)
    · simp only [F_X10_copyFrom_10, if_pos l1, bn_e, ck_t (inb_nI (show i < 6 by omega) (by omega)), nI_tn (show i < 2147483648 by omega), s1, s2, s3, nI_1]
  · intro rc c hc
    have c1 : ¬ nI 6 < 6 := by decide
    simp only [F_X10_copyFrom_10, if_neg c1]
  · exact ⟨Off.rf, fun j hj => absurd hj (Nat.not_lt_zero j)⟩
theorem b6m (a b : Nat) : (6 : Int32) * nI a + nI b = nI (6 * a + b) := by rw [show (6 : Int32) = nI 6 from rfl, pk_mul, nI_add]
theorem m_laysWatched {σ : Mm} {a b : Nat} (ha : a < 5) (hb : b < 5) (hab : a ≠ b) : ∃ τ, f_X12_laysWatched (nI a) (nI b) σ = some (0, τ) ∧ Off [32, 33, 34, 35] σ τ ∧ (∀ k, gI τ 32 k = if k = b then gI σ 32 a else gI σ 32 k) ∧ (∀ k, k < 6 → gI τ 33 (6 * b + k) = gI σ 33 (6 * a + k) ∧ gI τ 34 (6 * b + k) = gI σ 34 (6 * a + k) ∧ gI τ 35 (6 * b + k) = vp_nar .boolean (gI σ 35 (6 * a + k))) ∧ ∀ c, 33 ≤ c → c ≤ 35 → ∀ k, (k < 6 * b ∨ 6 * b + 6 ≤ k) → gI τ c k = gI σ c k := by
  obtain ⟨τ1, e1⟩ : ∃ q, q = pI σ 32 b (gI σ 32 a) := ⟨_, rfl⟩
  have k1 : ∀ c, c ≠ 32 → ∀ k, gI τ1 c k = gI σ c k := fun c hc k => by rw [e1, gI_pI_n (Or.inl hc)]
  have q := lq2_inv (F := F_X12_laysWatched_14 (nI a) (nI b) (fun σ_92 => some ((0 : Int32), σ_92))) (fun i => nI i) (fun i c => Off [33, 34, 35] τ1 c ∧ (∀ k, k < i → gI c 33 (6 * b + k) = gI σ 33 (6 * a + k) ∧ gI c 34 (6 * b + k) = gI σ 34 (6 * a + k) ∧ gI c 35 (6 * b + k) = vp_nar .boolean (gI σ 35 (6 * a + k))) ∧ ∀ d, 33 ≤ d → d ≤ 35 → ∀ k, (k < 6 * b ∨ 6 * b + 6 ≤ k) → gI c d k = gI σ d k) 6 (fun σ_92 => some ((0 : Int32), σ_92)) ?_ ?_ (n := 1000000) (b0 := τ1) ?_ (by omega)
  · obtain ⟨c, hc, e⟩ := q
    refine ⟨c, ?_, ⟨fun d hd k => ?_, fun d k => ?_, fun d k => ?_⟩, fun k => ?_, hc.2.1, hc.2.2⟩
    · unfold f_X12_laysWatched
      rw [ck_t (inb_nI ha (by omega)), ck_t (inb_nI hb (by omega)), bn_e, jn_e2, nI_tn (by omega), nI_tn (by omega), ← e1]
      exact e
    · simp only [List.mem_cons, List.not_mem_nil, or_false, not_or] at hd
      rw [hc.1.1 d (by simp; omega)]; exact k1 d hd.1 k
    · rw [hc.1.2.1, e1, gL_pI]
    · rw [hc.1.2.2, e1, gR_pI]
    · rw [hc.1.1 32 (by simp), e1, gI_pI]
      by_cases z : k = b
      · rw [if_pos ⟨rfl, z⟩, if_pos z]
      · rw [if_neg (fun y => z y.2), if_neg z]
  · intro rc i c hi hc
    obtain ⟨c1, c2, c3⟩ := hc
    have l1 : nI i < 6 := nI_lt (a := i) (b := 6) hi (by omega)
    have ab : 6 * a + 6 ≤ 6 * b ∨ 6 * b + 6 ≤ 6 * a := by omega
    have s1 : gI c 33 (6 * a + i) = gI σ 33 (6 * a + i) := c3 33 (by omega) (by omega) _ (by omega)
    have s2 : ∀ v, gI (pI c 33 (6 * b + i) v) 34 (6 * a + i) = gI σ 34 (6 * a + i) := fun v => by rw [gI_pI_n (Or.inl (by omega))]; exact c3 34 (by omega) (by omega) _ (by omega)
    have s3 : ∀ v u, gI (pI (pI c 33 (6 * b + i) v) 34 (6 * b + i) u) 35 (6 * a + i) = gI σ 35 (6 * a + i) := fun v u => by rw [gI_pI_n (Or.inl (by omega)), gI_pI_n (Or.inl (by omega))]; exact c3 35 (by omega) (by omega) _ (by omega)
    refine ⟨pI (pI (pI c 33 (6 * b + i) (gI σ 33 (6 * a + i))) 34 (6 * b + i) (gI σ 34 (6 * a + i))) 35 (6 * b + i) (vp_nar .boolean (gI σ 35 (6 * a + i))), ⟨((c1.tr (Off.pI (by simp))).tr (Off.pI (by simp))).tr (Off.pI (by simp)), fun k hk => ?_, fun d h1 h2 k hk => ?_⟩, ?_⟩
    · by_cases z : k = i
      · subst z
        refine ⟨?_, ?_, gI_pI_s _ _ _ _⟩
        · rw [gI_pI_n (Or.inl (by omega)), gI_pI_n (Or.inl (by omega)), gI_pI_s]
        · rw [gI_pI_n (Or.inl (by omega)), gI_pI_s]
      · have z2 : 6 * b + k ≠ 6 * b + i := by omega
        rw [gI_pI_n (Or.inr z2), gI_pI_n (Or.inr z2), gI_pI_n (Or.inr z2), gI_pI_n (Or.inr z2), gI_pI_n (Or.inr z2), gI_pI_n (Or.inr z2), gI_pI_n (Or.inr z2), gI_pI_n (Or.inr z2), gI_pI_n (Or.inr z2)]
        exact c2 k (by omega)
    · have z2 : k ≠ 6 * b + i := by omega
      rw [gI_pI_n (Or.inr z2), gI_pI_n (Or.inr z2), gI_pI_n (Or.inr z2)]
      exact c3 d h1 h2 k hk
    · simp only [F_X12_laysWatched_14, if_pos l1, bn_e, b6m, ck_t (inb_nI (show 6 * a + i < 30 by omega) (by omega)), ck_t (inb_nI (show 6 * b + i < 30 by omega) (by omega)), nI_tn (show 6 * a + i < 2147483648 by omega), nI_tn (show 6 * b + i < 2147483648 by omega), s1, s2, s3, nI_1]
  · intro rc c hc
    have c1 : ¬ nI 6 < 6 := by decide
    simp only [F_X12_laysWatched_14, if_neg c1]
  · exact ⟨Off.rf, fun j hj => absurd hj (Nat.not_lt_zero j), fun d h1 h2 k _ => k1 d (by omega) k⟩
theorem WR.lay {σ τ : Mm} {T : Tw} {a b : Nat} {w : Wt} (h : WR σ a w) (ok : WtOk T w) (e1 : ∀ k, gI τ 32 k = if k = b then gI σ 32 a else gI σ 32 k) (e2 : ∀ k, k < 6 → gI τ 33 (6 * b + k) = gI σ 33 (6 * a + k) ∧ gI τ 34 (6 * b + k) = gI σ 34 (6 * a + k) ∧ gI τ 35 (6 * b + k) = vp_nar .boolean (gI σ 35 (6 * a + k))) : WR τ b w := by
  refine ⟨by rw [e1, if_pos rfl]; exact h.1, fun k hk => ?_⟩
  have h6 := ok.1
  obtain ⟨c1, c2, c3⟩ := e2 k (by omega)
  have hk2 := h.2 k hk
  rw [c1, c2, c3, nar01 (by rw [hk2.2.2]; exact (ok.2 k hk).2.2)]
  exact hk2
