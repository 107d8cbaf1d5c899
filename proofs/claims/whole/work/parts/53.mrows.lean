/-! the reference's rows -/
def WP (σ : Mm) (a o : Nat) (T : Tw) (N : Nt) (w : Nat) : Prop := gI σ a (o + (11 + w)) = nI (atN T N w) ∧ gI σ a (o + (17 + w)) = nI (nG N w) ∧ gI σ a (o + (23 + w)) = nS N w ∧ gI σ a (o + (29 + w)) = nI (nE N w) ∧ (0 < nE N w → ∀ k, tF T (nB N w) (nG N w) = some k → gI σ a (o + (35 + w)) = nI k)
def RP (σ : Mm) (a o : Nat) (T : Tw) (N : Nt) : Prop := gI σ a (o + 0) = nT N ∧ gI σ a (o + 1) = nP N ∧ gI σ a (o + 2) = nD N ∧ (∀ k, k < 8 → gI σ a (o + (3 + k)) = nI (nL N k)) ∧ ∀ w, w < tW T → WP σ a o T N w
theorem RP.copy {σ τ : Mm} {a o b p : Nat} {T : Tw} {N : Nt} (h : RP σ a o T N) (hW : tW T ≤ 6) (e : ∀ j, j < 41 → gI τ b (p + j) = gI σ a (o + j)) : RP τ b p T N := by
  obtain ⟨h1, h2, h3, h4, h5⟩ := h
  refine ⟨by rw [e 0 (by omega)]; exact h1, by rw [e 1 (by omega)]; exact h2, by rw [e 2 (by omega)]; exact h3, fun k hk => by rw [e _ (by omega)]; exact h4 k hk, fun w hw => ?_⟩
  have q := h5 w hw
  unfold WP at q ⊢
  rw [e _ (by omega), e _ (by omega), e _ (by omega), e _ (by omega), e _ (by omega)]
  exact q
theorem mask63 : ∀ w, w < 6 → ¬ (((63 : Int32) >>> (nI w &&& 31)) &&& 1 = 0) := by decide
theorem RM.of_RP {σ : Mm} {T : Tw} {N : Nt} (h : RP σ 36 0 T N) (hW : tW T ≤ 6) (e : gI σ 0 57 = 63) : RM σ T N := by
  obtain ⟨h1, h2, h3, h4, h5⟩ := h
  simp only [Nat.zero_add] at h1 h2 h3 h4
  refine ⟨h1, h2, h3, h4, fun w hw => Or.inr ⟨by rw [e]; exact mask63 w (by omega), ?_⟩⟩
  have q := h5 w hw
  unfold WP at q
  simp only [Nat.zero_add] at q
  exact q
theorem RM.to_RP {σ : Mm} {T : Tw} {N : Nt} (h : RM σ T N) (hW : tW T ≤ 6) (e : gI σ 0 57 = 63) : RP σ 36 0 T N := by
  obtain ⟨h1, h2, h3, h4, h5⟩ := h
  refine ⟨h1, h2, h3, fun k hk => by rw [Nat.zero_add]; exact h4 k hk, fun w hw => ?_⟩
  unfold WP
  simp only [Nat.zero_add]
  rcases h5 w hw with q | q
  · rw [e] at q; exact absurd q.1 (mask63 w (by omega))
  · exact q.2
/-- just some may go, the others are home already -/
def restN (N : Nt) (m : Nat) : Nt := ((nT N, nP N, nD N), nL N, nB N, fun w => if m.testBit w then nG N w else nB N w, nS N, fun w => if m.testBit w then nE N w else 0)
theorem restN_G (N : Nt) (m w : Nat) : nG (restN N m) w = if m.testBit w then nG N w else nB N w := rfl
theorem restN_E (N : Nt) (m w : Nat) : nE (restN N m) w = if m.testBit w then nE N w else 0 := rfl
theorem tF_self {T : Tw} (hT : TwOk T) {a : Nat} (ha : a < tP T) : tF T a a = none := by
  cases e : tF T a a with
  | none => rfl
  | some k => exact absurd rfl (hT.2.2.2.2.1 a a k ha ha e).2.2
theorem restN_ok {T : Tw} {N : Nt} (hN : NtOk T N) (m : Nat) : NtOk T (restN N m) := by
  refine ⟨hN.1, fun w hw => ?_⟩
  obtain ⟨c1, c2, c3, c4⟩ := hN.2 w hw
  rw [restN_G, restN_E]
  show nB N w < tP T ∧ _ ∧ _ ∧ (_ → tK T w = 3 ∧ ∃ k, tF T (nB N w) _ = some k)
  by_cases z : m.testBit w = true
  · rw [if_pos z, if_pos z]; exact ⟨c1, c2, c3, c4⟩
  · rw [if_neg z, if_neg z]; exact ⟨c1, c1, by omega, fun q => absurd q (Nat.lt_irrefl 0)⟩
theorem RM.rest {σ : Mm} {T : Tw} {N : Nt} {m : Nat} (h : RP σ 36 0 T N) (hT : TwOk T) (hN : NtOk T N) (hm : m < 2147483648) (e : gI σ 0 57 = nI m) : RM σ T (restN N m) := by
  have hW := hT.2.2.1
  obtain ⟨h1, h2, h3, h4, h5⟩ := h
  simp only [Nat.zero_add] at h1 h2 h3 h4
  refine ⟨h1, h2, h3, h4, fun w hw => ?_⟩
  have q := h5 w hw
  unfold WP at q
  simp only [Nat.zero_add] at q
  obtain ⟨c1, c2, c3, c4⟩ := hN.2 w hw
  by_cases z : m.testBit w = true
  · refine Or.inr ⟨by rw [e]; exact fun y => absurd ((shr_bit0 hm (by omega)).mp y) (by rw [z]; decide), ?_⟩
    have eA : atN T (restN N m) w = atN T N w := by
      unfold atN
      rw [restN_G, restN_E, if_pos z, if_pos z]
      rfl
    rw [eA, restN_G, restN_E, if_pos z, if_pos z]
    exact q
  · have z' : m.testBit w = false := by cases y : m.testBit w <;> simp_all
    refine Or.inl ⟨by rw [e]; exact (shr_bit0 hm (by omega)).mpr z', ?_, ?_⟩
    · rw [restN_G, if_neg z]; exact tF_self hT c1
    · rw [restN_E, if_neg z]
theorem copies_e (b1 : Nat) (p2 : Int32) (b3 : Nat) (p4 : Int32) (σ : Mm) : f_X12_copies b1 p2 b3 p4 σ = lq2 (F_X12_copies_3 b1 p2 b3 p4 (fun σ_28 => some (0, σ_28))) 1000000 (0 : Int32) σ := by
  unfold f_X12_copies
  rw [jn_e2]
theorem m_copies {a b o p : Nat} (σ : Mm) (ha : isIA a = true) (hb : isIA b = true) (hab : a ≠ b) (ho : o + 41 ≤ lenM a) (hp : p + 41 ≤ lenM b) (la : lenM a < 2147483648) (lb : lenM b < 2147483648) :
    ∃ τ, f_X12_copies a (nI o) b (nI p) σ = some (0, τ) ∧ Off [b] σ τ ∧ (∀ j, j < 41 → gI τ b (p + j) = gI σ a (o + j)) ∧ ∀ j, (j < p ∨ p + 41 ≤ j) → gI τ b j = gI σ b j := by
  rw [copies_e]
  have q := lq2_inv (F := F_X12_copies_3 a (nI o) b (nI p) (fun σ_28 => some (0, σ_28))) (fun i => nI i) (fun i c => Off [b] σ c ∧ (∀ j, j < i → gI c b (p + j) = gI σ a (o + j)) ∧ ∀ j, (j < p ∨ p + i ≤ j) → gI c b j = gI σ b j) 41 (fun σ_28 => some (0, σ_28)) ?_ ?_ (n := 1000000) (b0 := σ) ?_ (by omega)
  · obtain ⟨c, hc, e⟩ := q
    exact ⟨c, e, hc⟩
  · intro rec i c hi hc
    obtain ⟨c1, c2, c3⟩ := hc
    have l1 : nI i < 41 := nI_lt (a := i) (b := 41) hi (by omega)
    refine ⟨pI c b (p + i) (gI σ a (o + i)), ⟨c1.tr (Off.pI (by simp)), fun j hj => ?_, fun j hj => ?_⟩, ?_⟩
    · by_cases z : j = i
      · subst z; rw [gI_pI_s]
      · rw [gI_pI_n (Or.inr (by omega))]; exact c2 j (by omega)
    · rw [gI_pI_n (Or.inr (by omega))]; exact c3 j (by omega)
    · have ga : gI c a (o + i) = gI σ a (o + i) := c1.1 a (by simpa using hab) _
      simp only [F_X12_copies_3, if_pos l1, bn_e, nI_add, ck_t ha, ck_t hb, ck_t (inb_nI (show o + i < lenM a by omega) la), ck_t (inb_nI (show p + i < lenM b by omega) lb), nI_tn (show o + i < 2147483648 by omega), nI_tn (show p + i < 2147483648 by omega), ga, nI_1]
  · intro rec c hc
    have c1 : ¬ nI 41 < 41 := by decide
    simp only [F_X12_copies_3, if_neg c1]
  · exact ⟨Off.rf, fun j hj => absurd hj (Nat.not_lt_zero j), fun _ _ => rfl⟩
theorem fresh_e (σ : Mm) : f_X12_fresh σ = lq2 (F_X12_fresh_2 (fun σ_21 => lq2 (F_X12_fresh_23 (fun σ_84 => some (0, σ_84))) 1000000 (0 : Int32) σ_21)) 1000000 (0 : Int32) σ := by
  unfold f_X12_fresh
  simp only [jn_e2]
theorem m_fresh2 (σ : Mm) (kx : Mm → Option (Int32 × Mm)) :
    ∃ τ, lq2 (F_X12_fresh_2 kx) 1000000 (0 : Int32) σ = kx τ ∧ Off [36] σ τ ∧ ∀ j, j < 41 → gI τ 36 j = 0 := by
  have q := lq2_inv (F := F_X12_fresh_2 kx) (fun i => nI i) (fun i b => Off [36] σ b ∧ ∀ j, j < i → gI b 36 j = 0) 41 kx ?_ ?_ (n := 1000000) (b0 := σ) ?_ (by omega)
  · obtain ⟨b, hb, e⟩ := q
    exact ⟨b, e, hb.1, hb.2⟩
  · intro rec i b hi hb
    have c1 : nI i < 41 := nI_lt (a := i) (b := 41) hi (by omega)
    refine ⟨pI b 36 i 0, ⟨hb.1.tr (Off.pI (by simp)), fun j hj => ?_⟩, ?_⟩
    · by_cases z : j = i
      · subst z; rw [gI_pI_s]
      · rw [gI_pI_n (Or.inr z)]; exact hb.2 j (by omega)
    · simp only [F_X12_fresh_2, if_pos c1, ck_t (inb_nI (show i < 41 by omega) (by omega)), bn_e, nI_tn (show i < 2147483648 by omega), nI_1]
  · intro rec b hb
    have c1 : ¬ nI 41 < 41 := by decide
    simp only [F_X12_fresh_2, if_neg c1]
  · exact ⟨Off.rf, fun j hj => absurd hj (Nat.not_lt_zero j)⟩
theorem m_fresh {σ : Mm} {T : Tw} (h : TM σ T) (hT : TwOk T) :
    ∃ τ, f_X12_fresh σ = some (0, τ) ∧ RP τ 36 0 T (beginN T) ∧ Off [36] σ τ := by
  have hW := hT.2.2.1
  have n2 : (2 : Int32).toNatClampNeg = 2 := rfl
  rw [fresh_e]
  obtain ⟨σ2, l2, o2, f2⟩ := m_fresh2 σ (fun σ_21 => lq2 (F_X12_fresh_23 (fun σ_84 => some (0, σ_84))) 1000000 (0 : Int32) σ_21)
  rw [l2]
  have q := lq2_inv (F := F_X12_fresh_23 (fun σ_84 => some (0, σ_84))) (fun i => nI i) (fun i b => Off [36] σ2 b ∧ (∀ j, (j < 11 ∨ 29 ≤ j) → gI b 36 j = gI σ2 36 j) ∧ ∀ w, w < i → gI b 36 (11 + w) = nI (tS T w) ∧ gI b 36 (17 + w) = nI (tG T w) ∧ gI b 36 (23 + w) = tM T w) (tW T) (fun σ_84 => some (0, σ_84)) ?_ ?_ (n := 1000000) (b0 := σ2) ?_ (by omega)
  · obtain ⟨b, hb, e⟩ := q
    refine ⟨b, e, ⟨?_, ?_, ?_, fun k hk => ?_, fun w hw => ?_⟩, o2.tr hb.1⟩
    · rw [Nat.zero_add, hb.2.1 0 (by omega), f2 0 (by omega)]; rfl
    · rw [Nat.zero_add, hb.2.1 1 (by omega), f2 1 (by omega)]; rfl
    · rw [Nat.zero_add, hb.2.1 2 (by omega), f2 2 (by omega)]; rfl
    · rw [Nat.zero_add, hb.2.1 _ (by omega), f2 _ (by omega)]; rfl
    · unfold WP
      simp only [Nat.zero_add]
      obtain ⟨w1, w2, w3⟩ := hb.2.2 w hw
      refine ⟨by rw [w1, atN_0 (show nE (beginN T) w = 0 from rfl)]; rfl, w2, w3, by rw [hb.2.1 _ (by omega), f2 _ (by omega)]; rfl, fun z => absurd z (Nat.lt_irrefl 0)⟩
  · intro rec i b hi hb
    obtain ⟨b1, b2, b3⟩ := hb
    have hTb := h.off (o2.tr b1) (fun a ha => by simp only [List.mem_cons, List.not_mem_nil, or_false] at ha; omega)
    have c1 : nI i < gI b 2 2 := by rw [hTb.2.2.1]; exact nI_lt hi (by omega)
    obtain ⟨w1, w2, w3, w4⟩ := hTb.2.2.2.2.2.1 i hi
    have v1 : ∀ x, gI (pI b 36 (11 + i) x) 10 i = nI (tG T i) := fun x => by rw [gI_pI_n (Or.inl (by decide))]; exact w3
    have v2 : ∀ x y, gI (pI (pI b 36 (11 + i) x) 36 (17 + i) y) 11 i = tM T i := fun x y => by rw [gI_pI_n (Or.inl (by decide)), gI_pI_n (Or.inl (by decide))]; exact w4
    refine ⟨pI (pI (pI b 36 (11 + i) (nI (tS T i))) 36 (17 + i) (nI (tG T i))) 36 (23 + i) (tM T i), ⟨b1.tr ((Off.pI (by simp)).tr ((Off.pI (by simp)).tr (Off.pI (by simp)))), fun j hj => ?_, fun w hw => ?_⟩, ?_⟩
    · rw [gI_pI_n (Or.inr (by omega)), gI_pI_n (Or.inr (by omega)), gI_pI_n (Or.inr (by omega))]; exact b2 j hj
    · by_cases z : w = i
      · subst z
        refine ⟨?_, ?_, ?_⟩
        · rw [gI_pI_n (Or.inr (by omega)), gI_pI_n (Or.inr (by omega)), gI_pI_s]
        · rw [gI_pI_n (Or.inr (by omega)), gI_pI_s]
        · rw [gI_pI_s]
      · have u : ∀ c, (c = 11 ∨ c = 17 ∨ c = 23) → ∀ x1 x2 x3, gI (pI (pI (pI b 36 (11 + i) x1) 36 (17 + i) x2) 36 (23 + i) x3) 36 (c + w) = gI b 36 (c + w) := fun c hc x1 x2 x3 => by rw [gI_pI_n (Or.inr (by omega)), gI_pI_n (Or.inr (by omega)), gI_pI_n (Or.inr (by omega))]
        rw [u 11 (by omega), u 17 (by omega), u 23 (by omega)]; exact b3 w (by omega)
    · simp only [F_X12_fresh_23, ck_t (show inb 2 8 = true from rfl), n2, if_pos c1, a11, a17, a23, ck_t (inb_nI (show i < 12 by omega) (by omega)), bn_e, nI_tn (show i < 2147483648 by omega), ck_t (inb_nI (show 11 + i < 41 by omega) (by omega)), nI_tn (show 11 + i < 2147483648 by omega), ck_t (inb_nI (show 17 + i < 41 by omega) (by omega)), nI_tn (show 17 + i < 2147483648 by omega), ck_t (inb_nI (show 23 + i < 41 by omega) (by omega)), nI_tn (show 23 + i < 2147483648 by omega), nI_1, w2, v1, v2]
  · intro rec b hb
    have hTb := h.off (o2.tr hb.1) (fun a ha => by simp only [List.mem_cons, List.not_mem_nil, or_false] at ha; omega)
    have c1 : ¬ nI (tW T) < gI b 2 2 := by rw [hTb.2.2.1]; exact nI_nlt (Nat.le_refl _) (by omega)
    simp only [F_X12_fresh_23, ck_t (show inb 2 8 = true from rfl), n2, if_neg c1]
  · exact ⟨Off.rf, fun _ _ => rfl, fun w hw => absurd hw (Nat.not_lt_zero w)⟩
