def dk1 (T : Tw) (N : Nt) (w : Nat) : Int32 := if dkN T N w then 1 else 0
theorem nI_inc (n : Nat) : nI n + 1 = nI (n + 1) := nI_1 n
/-- the reference's walkers go, one behind another -/
theorem m_pass25 {σ : Mm} {T : Tw} {N : Nt} (lg : Int32) (h : TM σ T) (hT : TwOk T) (r : RM σ T N) (hN : NtOk T N) (h6 : ∀ j, j < 8 → gI σ 42 j = 0) (kx : Int32 → Mm → Option (Int32 × Mm)) :
    ∃ τ, lq3 (F_X12_passes_25 kx) 1000000 (0 : Int32) (0 : Int32) σ = kx (nI (cnt (dkN T N) (tW T))) τ ∧ Off [36, 42, 43] σ τ ∧ (∀ j, j < 11 → gI τ 36 j = gI σ 36 j) ∧ (∀ j, j < 8 → gI τ 42 j = nI (ftN T N j)) ∧ (∀ w, w < tW T → gI τ 43 w = dk1 T N w) ∧ ∀ w, w < tW T → WM τ T (passN T N lg) w := by
  have hW := hT.2.2.1
  have hL := hT.2.1
  have q := lq3_inv (F := F_X12_passes_25 kx) (fun i => nI (cnt (dkN T N) i)) (fun i => nI i) (fun i b => Off [36, 42, 43] σ b ∧ (∀ j, j < 11 → gI b 36 j = gI σ 36 j) ∧ (∀ j, j < 8 → gI b 42 j = nI (ftI T N i j)) ∧ (∀ w, w < i → gI b 43 w = dk1 T N w) ∧ ∀ w, w < tW T → (w < i → WM b T (passN T N lg) w) ∧ (¬ w < i → WM b T N w)) (tW T) (fun b => kx (nI (cnt (dkN T N) (tW T))) b) ?_ ?_ (n := 1000000) (b0 := σ) ?_ (by omega)
  · obtain ⟨b, hb, e⟩ := q
    exact ⟨b, e, hb.1, hb.2.1, hb.2.2.1, hb.2.2.2.1, fun w hw => (hb.2.2.2.2 w hw).1 hw⟩
  · intro rec i b hi hb
    obtain ⟨o, b0, b6, b4, bw⟩ := hb
    have hTb := h.off o (fun a ha => by simp only [List.mem_cons, List.not_mem_nil, or_false] at ha; omega)
    have n2 : (2 : Int32).toNatClampNeg = 2 := rfl
    have c1 : nI i < gI b 2 2 := by rw [hTb.2.2.1]; exact nI_lt hi (by omega)
    have hTb' : TM (pI b 43 i 0) T := hTb.off (S := [43]) (Off.pI (by simp)) (fun a ha => by simp only [List.mem_cons, List.not_mem_nil, or_false] at ha; omega)
    have wi : WM (pI b 43 i 0) T N i := ((bw i hi).2 (Nat.lt_irrefl i)).congr rfl rfl rfl rfl rfl rfl
    have ht : gI (pI b 43 i 0) 36 0 = nT N := by rw [gI_pI_n (Or.inl (by decide)), b0 0 (by decide)]; exact r.1
    have io := m_isOut hTb' hT hN hi ht wi
    cases hl : lnA T N i with
    | none =>
      have ho : outN T N i = false := by unfold outN; rw [hl]; rfl
      have hd : dkN T N i = false := by unfold dkN; rw [hl]
      rw [ho] at io
      refine ⟨pI b 43 i 0, ⟨o.tr (Off.pI (by simp)), fun j hj => by rw [gI_pI_n (Or.inl (by decide))]; exact b0 j hj, fun j hj => ?_, fun w hw => ?_, fun w hw => ⟨fun hwi => ?_, fun hwi => ?_⟩⟩, ?_⟩
      · rw [gI_pI_n (Or.inl (by decide)), b6 j hj]; unfold ftI; simp only [cnt, hl]; simp
      · by_cases z : w = i
        · subst z; rw [gI_pI_s]; unfold dk1; rw [hd]; rfl
        · rw [gI_pI_n (Or.inr z)]; exact b4 w (by omega)
      · by_cases z : w = i
        · subst z
          have q := wi
          unfold WM atN at q ⊢
          rw [pass_B0 hl, pass_E0 hl]
          exact q
        · exact ((bw w hw).1 (by omega)).congr rfl rfl rfl rfl rfl rfl
      · exact ((bw w hw).2 (by omega)).congr rfl rfl rfl rfl rfl rfl
      · have ec : cnt (dkN T N) (i + 1) = cnt (dkN T N) i := by simp only [cnt, hd]; simp
        rw [ec]
        simp only [F_X12_passes_25, ck_t (show inb 2 8 = true from rfl), n2, if_pos c1, ck_t (inb_nI (show i < 6 by omega) (by omega)), nI_tn (show i < 2147483648 by omega), bn_e, jn_e, cl_of _ io, nI_1]
        rfl
    | some k =>
      have hF := lnA_F hl
      obtain ⟨k1, k2, k3, k4⟩ := hN.2 i hi
      have hk := (hT.2.2.2.2.1 _ _ k k1 k2 hF).1
      have ho : outN T N i = true := by unfold outN; rw [hl]; rfl
      rw [ho] at io
      have la := m_lanesAhead hTb' hT hN hi wi hF
      have l4 := hTb.2.2.2.2.2.1 i hi
      -- feet
      obtain ⟨b1, e1⟩ : ∃ z, z = pI (pI b 43 i 0) 42 k (gI (pI b 43 i 0) 42 k + 1) := ⟨_, rfl⟩
      have v3 : gI b1 36 (3 + k) = nI (nL N k) := by rw [e1, gI_pI_n (Or.inl (by decide)), gI_pI_n (Or.inl (by decide)), b0 _ (by omega)]; exact r.2.2.2.1 k (by omega)
      have v8 : gI b1 8 i = tK T i := by rw [e1, gI_pI_n (Or.inl (by decide)), gI_pI_n (Or.inl (by decide))]; exact l4.1
      have dkE : dkN T N i = decide (nL N k = 0 ∧ tK T i ≠ 1 ∧ tK T i ≠ 2) := by
        simp only [dkN, hl]
        by_cases z : nL N k = 0 <;> simp [z]
      have hTb1 : TM (pI b1 43 i (dk1 T N i)) T := by
        refine hTb'.off (S := [42, 43]) ?_ (fun a ha => by simp only [List.mem_cons, List.not_mem_nil, or_false] at ha; omega)
        rw [e1]; exact (Off.pI (by simp)).tr (Off.pI (by simp))
      have wi1 : WM (pI b1 43 i (dk1 T N i)) T N i := by rw [e1]; exact wi.congr rfl rfl rfl rfl rfl rfl
      obtain ⟨τ, t1, t2, t3, t4⟩ := m_goesAlong lg hTb1 hT hN hi wi1 hl
      have u42 : ∀ j, gI τ 42 j = gI b1 42 j := fun j => by rw [t2.1 42 (by simp), gI_pI_n (Or.inl (by decide))]
      have u36 : ∀ j, j ≠ 11 + i → j ≠ 29 + i → j ≠ 35 + i → gI τ 36 j = gI b 36 j := fun j j1 j2 j3 => by rw [t3 j j1 j2 j3, gI_pI_n (Or.inl (by decide)), e1, gI_pI_n (Or.inl (by decide)), gI_pI_n (Or.inl (by decide))]
      have u0 : ∀ j, gI τ 0 j = gI b 0 j := fun j => by rw [t2.1 0 (by simp), gI_pI_n (Or.inl (by decide)), e1, gI_pI_n (Or.inl (by decide)), gI_pI_n (Or.inl (by decide))]
      refine ⟨τ, ⟨o.tr (?_ : Off [36, 42, 43] b τ), fun j hj => by rw [u36 j (by omega) (by omega) (by omega)]; exact b0 j hj, fun j hj => ?_, fun w hw => ?_, fun w hw => ⟨fun hwi => ?_, fun hwi => ?_⟩⟩, ?_⟩
      · refine Off.tr (τ := pI b1 43 i (dk1 T N i)) ?_ (t2.mono (by simp))
        rw [e1]; exact (Off.pI (by simp)).tr ((Off.pI (by simp)).tr (Off.pI (by simp)))
      · rw [u42, e1]
        unfold ftI
        by_cases z : j = k
        · subst z
          rw [gI_pI_s, gI_pI_n (Or.inl (by decide)), b6 j hj]
          simp only [cnt, hl]; simp [ftI, nI_1]
        · rw [gI_pI_n (Or.inr z), gI_pI_n (Or.inl (by decide)), b6 j hj]
          have z' : ¬ k = j := fun q => z q.symm
          have z2 : (k == j) = false := by simpa using z'
          simp only [cnt, hl]; simp [ftI, z2]
      · rw [t2.1 43 (by simp)]
        by_cases z : w = i
        · subst z; rw [gI_pI_s]
        · rw [gI_pI_n (Or.inr z), e1, gI_pI_n (Or.inl (by decide)), gI_pI_n (Or.inr z)]; exact b4 w (by omega)
      · by_cases z : w = i
        · subst z; exact t4
        · exact ((bw w hw).1 (by omega)).congr (u0 _) (u36 _ (by omega) (by omega) (by omega)) (u36 _ (by omega) (by omega) (by omega)) (u36 _ (by omega) (by omega) (by omega)) (u36 _ (by omega) (by omega) (by omega)) (u36 _ (by omega) (by omega) (by omega))
      · exact ((bw w hw).2 (by omega)).congr (u0 _) (u36 _ (by omega) (by omega) (by omega)) (u36 _ (by omega) (by omega) (by omega)) (u36 _ (by omega) (by omega) (by omega)) (u36 _ (by omega) (by omega) (by omega)) (u36 _ (by omega) (by omega) (by omega))
      · have hne : ¬ (1 : Int32) = 0 := by decide
        have io : f_X12_isOut (nI i) (pI b 43 i 0) = some (1, pI b 43 i 0) := io
        have key : ∀ E : Int32 → Option (Int32 × Mm), (if gI b1 36 (3 + k) = 0 then (if gI b1 8 i = 1 then E 0 else if gI b1 8 i = 2 then E 0 else E 1) else E 0) = E (dk1 T N i) := by
          intro E
          rw [v3, v8]
          unfold dk1
          rw [dkE]
          have z0 : nI (nL N k) = 0 ↔ nL N k = 0 := nI_eq (b := 0) (by have := hN.1 k; omega) (by omega)
          by_cases c1 : nL N k = 0
          · rw [if_pos (z0.mpr c1)]
            by_cases c2 : tK T i = 1
            · rw [if_pos c2, if_neg]; simp [c2]
            · rw [if_neg c2]
              by_cases c3 : tK T i = 2
              · rw [if_pos c3, if_neg]; simp [c3]
              · rw [if_neg c3, if_pos]; simp [c1, c2, c3]
          · rw [if_neg (fun z => c1 (z0.mp z)), if_neg]; simp [c1]
        have ec : nI (cnt (dkN T N) i) + dk1 T N i = nI (cnt (dkN T N) (i + 1)) := by
          unfold dk1
          simp only [cnt]
          cases dkN T N i
          · simp
          · simp [nI_1]
        simp only [F_X12_passes_25, ck_t (show inb 2 8 = true from rfl), n2, if_pos c1, ck_t (inb_nI (show i < 6 by omega) (by omega)), nI_tn (show i < 2147483648 by omega), bn_e, jn_e, cl_of _ io, if_neg hne, cl_of _ la, ck_t (inb_nI (show k < 8 by omega) (by omega)), nI_tn (show k < 2147483648 by omega), a3, ck_t (inb_nI (show 3 + k < 41 by omega) (by omega)), nI_tn (show 3 + k < 2147483648 by omega), ck_t (inb_nI (show i < 12 by omega) (by omega))]
        rw [← e1]
        rw [key (fun y => cl (f_X12_goesAlong (nI i) (nI k) (pI b1 43 i y)) fun _ σ123 => rec (nI (cnt (dkN T N) i) + gI (pI b1 43 i y) 43 i) (nI i + 1) σ123)]
        rw [cl_of _ t1, gI_pI_s, ec, nI_1]
  · intro rec b hb
    have hTb := h.off hb.1 (fun a ha => by simp only [List.mem_cons, List.not_mem_nil, or_false] at ha; omega)
    have c1 : ¬ nI (tW T) < gI b 2 2 := by rw [hTb.2.2.1]; exact nI_nlt (Nat.le_refl _) (by omega)
    have n2 : (2 : Int32).toNatClampNeg = 2 := rfl
    simp only [F_X12_passes_25, ck_t (show inb 2 8 = true from rfl), n2, if_neg c1]
  · exact ⟨Off.rf, fun _ _ => rfl, fun j hj => h6 j hj, fun w hw => absurd hw (Nat.not_lt_zero w), fun w hw => ⟨fun z => absurd z (Nat.not_lt_zero w), fun _ => r.2.2.2.2 w hw⟩⟩
