/-! the reference goes home -/
theorem RM.off {σ τ : Mm} {T : Tw} {N : Nt} {S : List Nat} (r : RM σ T N) (o : Off S σ τ) (h36 : (36 : Nat) ∉ S) (h0 : gI τ 0 57 = gI σ 0 57) (hW : tW T ≤ 6) : RM τ T N := r.congr36 hW h0 (fun j _ => o.1 36 h36 j)
theorem notes_e (p1 : Int32) (σ : Mm) : f_X12_notes p1 σ = cl (f_X12_burning σ) (fun r6 _ => ck (inb p1 100) (lq2 (F_X12_notes_12 p1 (fun σ_52 => some (0, σ_52))) 1000000 (0 : Int32) (pI σ 46 p1.toNatClampNeg r6))) := by
  unfold f_X12_notes
  simp only [jn_e2, bn_e]
theorem m_notes {σ : Mm} {T : Tw} {N : Nt} (h : TM σ T) (hT : TwOk T) (r : RM σ T N) (hN : NtOk T N) {i : Nat} (hi : i < 100) :
    ∃ τ, f_X12_notes (nI i) σ = some (0, τ) ∧ Off [45, 46] σ τ ∧ (∀ j, gI τ 46 j = if j = i then nI (bts (brN N) (tL T)) else gI σ 46 j) ∧ ∀ w, w < tW T → gI τ 45 w = if gI σ 45 w < 0 ∧ homeN T N w = true then nI i else gI σ 45 w := by
  have hW := hT.2.2.1
  have n2 : (2 : Int32).toNatClampNeg = 2 := rfl
  rw [notes_e, cl_of _ (m_burning h hT r hN), ck_t (inb_nI hi (by omega)), nI_tn (show i < 2147483648 by omega)]
  obtain ⟨σ1, e1⟩ : ∃ z, z = pI σ 46 i (nI (bts (brN N) (tL T))) := ⟨_, rfl⟩
  rw [← e1]
  have o1 : Off [45, 46] σ σ1 := by rw [e1]; exact Off.pI (by simp)
  have q := lq2_inv (F := F_X12_notes_12 (nI i) (fun σ_52 => some (0, σ_52))) (fun w => nI w) (fun k b => Off [45, 46] σ b ∧ (∀ j, gI b 46 j = gI σ1 46 j) ∧ ∀ w, w < tW T → gI b 45 w = if w < k ∧ gI σ 45 w < 0 ∧ homeN T N w = true then nI i else gI σ 45 w) (tW T) (fun σ_52 => some (0, σ_52)) ?_ ?_ (n := 1000000) (b0 := σ1) ?_ (by omega)
  · obtain ⟨b, ⟨b1, b2, b3⟩, e⟩ := q
    refine ⟨b, e, b1, fun j => ?_, fun w hw => ?_⟩
    · rw [b2, e1]
      by_cases z : j = i
      · subst z; rw [gI_pI_s, if_pos rfl]
      · rw [gI_pI_n (Or.inr z), if_neg z]
    · rw [b3 w hw]; simp [hw]
  · intro rec k b hk hb
    obtain ⟨b1, b2, b3⟩ := hb
    have hTb := h.off b1 (fun a ha => by simp only [List.mem_cons, List.not_mem_nil, or_false] at ha; omega)
    have rb := r.off b1 (by simp) (b1.1 0 (by simp) 57) hW
    have c1 : nI k < gI b 2 2 := by rw [hTb.2.2.1]; exact nI_lt hk (by omega)
    have g45 : gI b 45 k = gI σ 45 k := by rw [b3 k hk]; simp
    have hh := m_isHome hTb hT hN hk (rb.2.2.2.2 k hk)
    by_cases c : gI σ 45 k < 0 ∧ homeN T N k = true
    · refine ⟨pI b 45 k (nI i), ⟨b1.tr (Off.pI (by simp)), fun j => by rw [gI_pI_n (Or.inl (by decide))]; exact b2 j, fun w hw => ?_⟩, ?_⟩
      · by_cases z : w = k
        · subst z; rw [gI_pI_s, if_pos ⟨Nat.lt_succ_self w, c⟩]
        · rw [gI_pI_n (Or.inr z), b3 w hw]
          have e2 : w < k + 1 ↔ w < k := by omega
          simp only [e2]
      · rw [c.2] at hh
        simp only [F_X12_notes_12, ck_t (show inb 2 8 = true from rfl), n2, if_pos c1, ck_t (inb_nI (show k < 6 by omega) (by omega)), nI_tn (show k < 2147483648 by omega), jn_e, g45, if_pos c.1, cl_of _ hh, if_true, show ¬ (1 : Int32) = 0 by decide, if_false, bn_e, nI_1]
    · refine ⟨b, ⟨b1, b2, fun w hw => ?_⟩, ?_⟩
      · rw [b3 w hw]
        by_cases z : w = k
        · subst z; rw [if_neg (fun y => absurd y.1 (Nat.lt_irrefl w)), if_neg (fun y => c y.2)]
        · have e2 : w < k + 1 ↔ w < k := by omega
          simp only [e2]
      · simp only [F_X12_notes_12, ck_t (show inb 2 8 = true from rfl), n2, if_pos c1, ck_t (inb_nI (show k < 6 by omega) (by omega)), nI_tn (show k < 2147483648 by omega), jn_e, g45, cl_of _ hh, bn_e, nI_1]
        by_cases c2 : gI σ 45 k < 0
        · have c3 : homeN T N k = false := by
            cases y : homeN T N k
            · rfl
            · exact absurd ⟨c2, y⟩ c
          rw [if_pos c2, c3]; rfl
        · rw [if_neg c2]
  · intro rec b hb
    have hTb := h.off hb.1 (fun a ha => by simp only [List.mem_cons, List.not_mem_nil, or_false] at ha; omega)
    have c1 : ¬ nI (tW T) < gI b 2 2 := by rw [hTb.2.2.1]; exact nI_nlt (Nat.le_refl _) (by omega)
    simp only [F_X12_notes_12, ck_t (show inb 2 8 = true from rfl), n2, if_neg c1]
  · refine ⟨o1, fun _ => rfl, fun w hw => ?_⟩
    rw [e1, gI_pI_n (Or.inl (by decide)), if_neg (fun y => absurd y.1 (Nat.not_lt_zero w))]
