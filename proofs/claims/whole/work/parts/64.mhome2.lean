theorem m_goes22 (σ : Mm) (kx : Mm → Option (Int32 × Mm)) :
    ∃ τ, lq2 (F_X12_goesHome_22 kx) 1000000 (0 : Int32) σ = kx τ ∧ Off [44, 45] σ τ ∧ ∀ j, j < 6 → gI τ 44 j = 0 ∧ gI τ 45 j = -1 := by
  have q := lq2_inv (F := F_X12_goesHome_22 kx) (fun i => nI i) (fun i b => Off [44, 45] σ b ∧ ∀ j, j < i → gI b 44 j = 0 ∧ gI b 45 j = -1) 6 kx ?_ ?_ (n := 1000000) (b0 := σ) ?_ (by omega)
  · obtain ⟨b, hb, e⟩ := q
    exact ⟨b, e, hb.1, hb.2⟩
  · intro rec i b hi hb
    have c1 : nI i < 6 := nI_lt (a := i) (b := 6) hi (by omega)
    refine ⟨pI (pI b 44 i 0) 45 i (-1), ⟨hb.1.tr ((Off.pI (by simp)).tr (Off.pI (by simp))), fun j hj => ?_⟩, ?_⟩
    · by_cases z : j = i
      · subst z; exact ⟨by rw [gI_pI_n (Or.inl (by decide)), gI_pI_s], by rw [gI_pI_s]⟩
      · rw [gI_pI_n (Or.inr z), gI_pI_n (Or.inr z), gI_pI_n (Or.inr z), gI_pI_n (Or.inr z)]; exact hb.2 j (by omega)
    · simp only [F_X12_goesHome_22, if_pos c1, ck_t (inb_nI (show i < 6 by omega) (by omega)), bn_e, nI_tn (show i < 2147483648 by omega), nI_1]
  · intro rec b hb
    have c1 : ¬ nI 6 < 6 := by decide
    simp only [F_X12_goesHome_22, if_neg c1]
  · exact ⟨Off.rf, fun j hj => absurd hj (Nat.not_lt_zero j)⟩
theorem m_goes84 {σ : Mm} {T : Tw} (h : TM σ T) (hT : TwOk T) (kx : Mm → Option (Int32 × Mm)) :
    ∃ τ, lq2 (F_X12_goesHome_84 kx) 1000000 (0 : Int32) σ = kx τ ∧ Off [44] σ τ ∧ ∀ w, w < tW T → gI τ 44 w = gI σ 44 w + gI σ 43 w := by
  have hW := hT.2.2.1
  have n2 : (2 : Int32).toNatClampNeg = 2 := rfl
  have q := lq2_inv (F := F_X12_goesHome_84 kx) (fun i => nI i) (fun i b => Off [44] σ b ∧ ∀ w, gI b 44 w = if w < i then gI σ 44 w + gI σ 43 w else gI σ 44 w) (tW T) kx ?_ ?_ (n := 1000000) (b0 := σ) ?_ (by omega)
  · obtain ⟨b, hb, e⟩ := q
    exact ⟨b, e, hb.1, fun w hw => by rw [hb.2 w, if_pos hw]⟩
  · intro rec i b hi hb
    have hTb := h.off hb.1 (fun a ha => by simp only [List.mem_cons, List.not_mem_nil, or_false] at ha; omega)
    have c1 : nI i < gI b 2 2 := by rw [hTb.2.2.1]; exact nI_lt hi (by omega)
    have g1 : gI b 44 i = gI σ 44 i := by rw [hb.2 i, if_neg (Nat.lt_irrefl i)]
    have g2 : gI b 43 i = gI σ 43 i := hb.1.1 43 (by simp) i
    refine ⟨pI b 44 i (gI σ 44 i + gI σ 43 i), ⟨hb.1.tr (Off.pI (by simp)), fun w => ?_⟩, ?_⟩
    · by_cases z : w = i
      · subst z; rw [gI_pI_s, if_pos (Nat.lt_succ_self w)]
      · rw [gI_pI_n (Or.inr z), hb.2 w]
        have e2 : w < i + 1 ↔ w < i := by omega
        simp only [e2]
    · simp only [F_X12_goesHome_84, ck_t (show inb 2 8 = true from rfl), n2, if_pos c1, ck_t (inb_nI (show i < 6 by omega) (by omega)), bn_e, nI_tn (show i < 2147483648 by omega), nI_1, g1, g2]
  · intro rec b hb
    have hTb := h.off hb.1 (fun a ha => by simp only [List.mem_cons, List.not_mem_nil, or_false] at ha; omega)
    have c1 : ¬ nI (tW T) < gI b 2 2 := by rw [hTb.2.2.1]; exact nI_nlt (Nat.le_refl _) (by omega)
    simp only [F_X12_goesHome_84, ck_t (show inb 2 8 = true from rfl), n2, if_neg c1]
  · exact ⟨Off.rf, fun w => by rw [if_neg (Nat.not_lt_zero w)]⟩
theorem m_goes117 {σ : Mm} {T : Tw} (h : TM σ T) (hT : TwOk T) {p f : Nat → Bool} (h63 : gI σ 0 63 = nI (bts p (tL T))) (h42 : ∀ k, k < tL T → (0 < gI σ 42 k ↔ f k = true)) (kx : Mm → Option (Int32 × Mm)) :
    ∃ τ, lq2 (F_X12_goesHome_117 kx) 1000000 (0 : Int32) σ = kx τ ∧ Off [0] σ τ ∧ (∀ j, j ≠ 63 → gI τ 0 j = gI σ 0 j) ∧ gI τ 0 63 = nI (bts (fun k => p k || f k) (tL T)) := by
  have hL := hT.2.1
  have n1 : (1 : Int32).toNatClampNeg = 1 := rfl
  have q := lq2_inv (F := F_X12_goesHome_117 kx) (fun i => nI i) (fun i b => Off [0] σ b ∧ (∀ j, j ≠ 63 → gI b 0 j = gI σ 0 j) ∧ gI b 0 63 = nI (bts (fun k => p k || (decide (k < i) && f k)) (tL T))) (tL T) kx ?_ ?_ (n := 1000000) (b0 := σ) ?_ (by omega)
  · obtain ⟨b, hb, e⟩ := q
    refine ⟨b, e, hb.1, hb.2.1, hb.2.2.trans ?_⟩
    congr 1
    exact bts_congr (fun i hi => by simp [hi])
  · intro rec i b hi hb
    obtain ⟨b1, b2, b3⟩ := hb
    have hTb := h.off b1 (fun a ha => by simp only [List.mem_cons, List.not_mem_nil, or_false] at ha; omega)
    have c1 : nI i < gI b 2 1 := by rw [hTb.2.1]; exact nI_lt hi (by omega)
    have g2 : gI b 42 i = gI σ 42 i := b1.1 42 (by simp) i
    by_cases c : f i = true
    · refine ⟨pI b 0 63 (nI (bts (fun k => p k || (decide (k < i + 1) && f k)) (tL T))), ⟨b1.tr (Off.pI (by simp)), fun j hj => by rw [gI_pI_n (Or.inr hj)]; exact b2 j hj, by rw [gI_pI_s]⟩, ?_⟩
      have e2 : nI (bts (fun k => p k || (decide (k < i) && f k)) (tL T)) ||| ((1 : Int32) <<< (nI i &&& 31)) = nI (bts (fun k => p k || (decide (k < i + 1) && f k)) (tL T)) := by
        refine or_set hL hi (fun j hj => ?_)
        by_cases z : j = i
        · subst z; simp [c]
        · have y : j < i + 1 ↔ j < i := by omega
          simp [y, z]
      simp only [F_X12_goesHome_117, ck_t (show inb 1 8 = true from rfl), n1, if_pos c1, ck_t (inb_nI (show i < 8 by omega) (by omega)), nI_tn (show i < 2147483648 by omega), jn_e, bn_e, g2, if_pos ((h42 i hi).mpr c), b3, e2, nI_1]
    · refine ⟨pI b 0 63 (nI (bts (fun k => p k || (decide (k < i + 1) && f k)) (tL T))), ⟨b1.tr (Off.pI (by simp)), fun j hj => by rw [gI_pI_n (Or.inr hj)]; exact b2 j hj, by rw [gI_pI_s]⟩, ?_⟩
      have e2 : nI (bts (fun k => p k || (decide (k < i) && f k)) (tL T)) ||| 0 = nI (bts (fun k => p k || (decide (k < i + 1) && f k)) (tL T)) := by
        rw [Int32.or_zero]
        congr 1
        refine bts_congr (fun j hj => ?_)
        by_cases z : j = i
        · subst z; simp [c]
        · have y : j < i + 1 ↔ j < i := by omega
          simp [y]
      simp only [F_X12_goesHome_117, ck_t (show inb 1 8 = true from rfl), n1, if_pos c1, ck_t (inb_nI (show i < 8 by omega) (by omega)), nI_tn (show i < 2147483648 by omega), jn_e, bn_e, g2, if_neg (fun y => c ((h42 i hi).mp y)), b3, e2, nI_1]
  · intro rec b hb
    have hTb := h.off hb.1 (fun a ha => by simp only [List.mem_cons, List.not_mem_nil, or_false] at ha; omega)
    have c1 : ¬ nI (tL T) < gI b 2 1 := by rw [hTb.2.1]; exact nI_nlt (Nat.le_refl _) (by omega)
    simp only [F_X12_goesHome_117, ck_t (show inb 1 8 = true from rfl), n1, if_neg c1]
  · refine ⟨Off.rf, fun _ _ => rfl, h63.trans ?_⟩
    congr 1
    exact bts_congr (fun i hi => by simp)
