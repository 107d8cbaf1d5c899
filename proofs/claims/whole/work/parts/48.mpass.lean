theorem WM.congr {σ τ : Mm} {T : Tw} {N : Nt} {w : Nat} (h : WM σ T N w) (e0 : gI τ 0 57 = gI σ 0 57) (e1 : gI τ 36 (11 + w) = gI σ 36 (11 + w)) (e2 : gI τ 36 (17 + w) = gI σ 36 (17 + w)) (e3 : gI τ 36 (23 + w) = gI σ 36 (23 + w)) (e4 : gI τ 36 (29 + w) = gI σ 36 (29 + w)) (e5 : gI τ 36 (35 + w) = gI σ 36 (35 + w)) : WM τ T N w := by
  unfold WM at h ⊢
  rw [e0, e1, e2, e3, e4, e5]
  exact h
theorem othE_lt {T : Tw} (hT : TwOk T) {k p : Nat} (hk : k < tL T) : othE T k p < tP T := by
  have := hT.2.2.2.1 k hk
  unfold othE
  split <;> omega
theorem othE_2 {T : Tw} (hT : TwOk T) {k p : Nat} (hk : k < tL T) (h : tA T k = p ∨ tB T k = p) : othE T k (othE T k p) = p := by
  have := hT.2.2.2.1 k hk
  unfold othE
  rcases h with h | h
  · rw [if_pos h, if_neg (by omega)]; exact h
  · rw [if_neg (show ¬ tA T k = p by omega), if_pos rfl]; exact h
theorem lnA_F {T : Tw} {N : Nt} {w k : Nat} (h : lnA T N w = some k) : tF T (nB N w) (nG N w) = some k := by
  unfold lnA at h
  split at h
  · cases h
  · exact h
theorem litN_le {T : Tw} {N : Nt} (hT : TwOk T) (hN : NtOk T N) (lg : Int32) (k : Nat) : litN T N lg k ≤ 30 := by
  have h1 := hN.1 k
  have h2 := hT.2.2.2.2.2.1 (tT T k + lg) (nI (nL N k - 1)) (nI (ftN T N k)) (nT N)
  unfold litN
  split
  · split <;> omega
  · exact h1
/-- a minute keeps the night sound -/
theorem passN_ok {T : Tw} {N : Nt} (hT : TwOk T) (hN : NtOk T N) (lg : Int32) : NtOk T (passN T N lg) := by
  refine ⟨fun k => litN_le hT hN lg k, fun w hw => ?_⟩
  obtain ⟨c1, c2, c3, c4⟩ := hN.2 w hw
  have eG : nG (passN T N lg) w = nG N w := rfl
  rw [eG]
  cases hl : lnA T N w with
  | none => rw [pass_B0 hl, pass_E0 hl]; exact ⟨c1, c2, c3, c4⟩
  | some k =>
    have hF := lnA_F hl
    have hk := (hT.2.2.2.2.1 _ _ k c1 c2 hF).1
    rw [pass_B hl, pass_E hl]
    by_cases o : onN T N w = true
    · rw [if_pos o, if_pos o]
      exact ⟨othE_lt hT hk, c2, by omega, fun z => absurd z (by omega)⟩
    · rw [if_neg o, if_neg o]
      have o : ¬ (tK T w ≠ 3 ∨ 2 ≤ nE N w) := fun z => o (by unfold onN; simpa using z)
      refine ⟨c1, c2, by omega, fun _ => ⟨?_, k, hF⟩⟩
      by_cases z : tK T w = 3
      · exact z
      · exact absurd (Or.inl z) o
theorem irm3 : irm (nI 0 + 1) 3 = nI 1 ∧ irm (nI 1 + 1) 3 = nI 2 ∧ irm (nI 2 + 1) 3 = nI 0 := by decide
theorem m_goesAlong {σ : Mm} {T : Tw} {N : Nt} {w k : Nat} (lg : Int32) (hm : TM σ T) (hT : TwOk T) (hN : NtOk T N) (hw : w < tW T) (r : WM σ T N w) (hl : lnA T N w = some k) :
    ∃ τ, f_X12_goesAlong (nI w) (nI k) σ = some (0, τ) ∧ Off [36] σ τ ∧ (∀ j, j ≠ 11 + w → j ≠ 29 + w → j ≠ 35 + w → gI τ 36 j = gI σ 36 j) ∧ WM τ T (passN T N lg) w := by
  have hW := hT.2.2.1
  have hL := hT.2.1
  have hP := hT.1
  obtain ⟨c1, c2, c3, c4⟩ := hN.2 w hw
  have hF := lnA_F hl
  obtain ⟨hk, hend, -⟩ := hT.2.2.2.2.1 _ _ k c1 c2 hF
  have hab := hT.2.2.2.1 k hk
  obtain ⟨l5, l6, l7⟩ := hm.2.2.2.2.1 k hk
  have h8 := (hm.2.2.2.2.2.1 w hw).1
  rcases r with ⟨r1, r2, r3⟩ | ⟨r1, r2, r3, r4, r5, r6⟩
  · rw [hF] at r2; exact absurd r2 (by simp)
  have hat : atN T N w < tP T := by
    unfold atN
    rw [hF]
    split
    · exact othE_lt hT hk
    · exact c1
  have eJ : f_X12_goesAlong (nI w) (nI k) σ = J_X12_goesAlong_41 (nI w) (nI k) σ (nI (othE T k (atN T N w))) := by
    unfold f_X12_goesAlong
    simp only [jn_e, bn_e, a11, ck_t (inb_nI (show k < 16 by omega) (by omega)), ck_t (inb_nI (show 11 + w < 41 by omega) (by omega)), nI_tn (show 11 + w < 2147483648 by omega), nI_tn (show k < 2147483648 by omega), r2, l5, l6]
    unfold othE
    by_cases e : tA T k = atN T N w
    · rw [if_pos (by rw [e]), if_pos e]
    · rw [if_neg (fun z => e ((nI_eq (by omega) (by omega)).mp z)), if_neg e]
  rw [eJ]
  unfold J_X12_goesAlong_41
  simp only [bn_e, a11, a35, a29, ck_t (inb_nI (show 11 + w < 41 by omega) (by omega)), nI_tn (show 11 + w < 2147483648 by omega), ck_t (inb_nI (show w < 12 by omega) (by omega)), nI_tn (show w < 2147483648 by omega), ck_t (inb_nI (show 35 + w < 41 by omega) (by omega)), nI_tn (show 35 + w < 2147483648 by omega), ck_t (inb_nI (show 29 + w < 41 by omega) (by omega)), nI_tn (show 29 + w < 2147483648 by omega)]
  rw [gI_pI_n (Or.inl (by decide : (8 : Nat) ≠ 36)), h8]
  have eG : nG (passN T N lg) w = nG N w := rfl
  have eS : nS (passN T N lg) w = nS N w := rfl
  by_cases k3 : tK T w = 3
  · rw [if_pos k3]
    have g29 : ∀ x y, gI (pI (pI σ 36 (11 + w) x) 36 (35 + w) y) 36 (29 + w) = nI (nE N w) := fun x y => by rw [gI_pI_n (Or.inr (by omega)), gI_pI_n (Or.inr (by omega))]; exact r5
    rw [g29]
    refine ⟨_, rfl, ((Off.pI (by simp)).tr (Off.pI (by simp))).tr (Off.pI (by simp)), fun j j1 j2 j3 => ?_, Or.inr ⟨?_, ?_, ?_, ?_, ?_, ?_⟩⟩
    · rw [gI_pI_n (Or.inr j2), gI_pI_n (Or.inr j3), gI_pI_n (Or.inr j1)]
    · rw [gI_pI_n (Or.inl (by decide)), gI_pI_n (Or.inl (by decide)), gI_pI_n (Or.inl (by decide))]; exact r1
    · rw [gI_pI_n (Or.inr (by omega)), gI_pI_n (Or.inr (by omega)), gI_pI_s]
      congr 1
      unfold atN
      rw [eG, pass_B hl, pass_E hl]
      have eo : onN T N w = decide (2 ≤ nE N w) := by unfold onN; rw [k3]; rfl
      rw [eo]
      rcases (show nE N w = 0 ∨ nE N w = 1 ∨ nE N w = 2 by omega) with z | z | z
      · rw [z]; simp [hF]
      · rw [z]; simp [hF]; exact othE_2 hT hk hend
      · rw [z]; simp
    · rw [gI_pI_n (Or.inr (by omega)), gI_pI_n (Or.inr (by omega)), gI_pI_n (Or.inr (by omega)), eG]; exact r3
    · rw [gI_pI_n (Or.inr (by omega)), gI_pI_n (Or.inr (by omega)), gI_pI_n (Or.inr (by omega)), eS]; exact r4
    · rw [gI_pI_s, pass_E hl]
      have eo : onN T N w = decide (2 ≤ nE N w) := by unfold onN; rw [k3]; rfl
      rw [eo]
      rcases (show nE N w = 0 ∨ nE N w = 1 ∨ nE N w = 2 by omega) with z | z | z
      · rw [z]; exact irm3.1
      · rw [z]; exact irm3.2.1
      · rw [z]; exact irm3.2.2
    · intro z k' hk'
      rw [gI_pI_n (Or.inr (by omega)), gI_pI_s]
      rw [pass_E hl] at z
      rw [eG, pass_B hl] at hk'
      by_cases o : onN T N w = true
      · rw [if_pos o] at z; omega
      · rw [if_neg o, hF] at hk'; rw [Option.some.inj hk']
  · rw [if_neg k3]
    have hE : nE N w = 0 := by
      rcases Nat.eq_zero_or_pos (nE N w) with z | z
      · exact z
      · exact absurd (c4 z).1 k3
    have o : onN T N w = true := by unfold onN; simp [k3]
    refine ⟨_, rfl, Off.pI (by simp), fun j j1 j2 j3 => by rw [gI_pI_n (Or.inr j1)], Or.inr ⟨?_, ?_, ?_, ?_, ?_, ?_⟩⟩
    · rw [gI_pI_n (Or.inl (by decide))]; exact r1
    · rw [gI_pI_s, atN_0 hE, atN_0 (by rw [pass_E hl, if_pos o]), pass_B hl, if_pos o]
    · rw [gI_pI_n (Or.inr (by omega)), eG]; exact r3
    · rw [gI_pI_n (Or.inr (by omega)), eS]; exact r4
    · rw [gI_pI_n (Or.inr (by omega)), pass_E hl, if_pos o, r5, hE]
    · intro z; rw [pass_E hl, if_pos o] at z; omega
