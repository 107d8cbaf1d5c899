theorem r_told {σ μ : Mm} {t P L W : Nat} (hb : TB σ μ t P L W) (hl : LwT σ μ t) : ∃ (σ' υ χ : Mm) (T : Tw) (D : Nat → Nat → Nat), f_X9_findWays t σ = some (0, σ') ∧ f_X12_lays μ = some (0, υ) ∧ f_X12_lays0 υ = some (0, χ) ∧ TwOk T ∧ TC σ' t T ∧ TMr χ T ∧ tP T = P ∧ tL T = L ∧ tW T = W ∧ Off [t + 13, t + 14] σ σ' ∧ (∀ a, a = 0 ∨ a = 1 ∨ (14 < a ∧ a ≠ 27) → ∀ k, gI χ a k = gI μ a k) ∧ (∀ a, a ≠ 3 → a ≠ 4 → ∀ k, gL χ a k = gL μ a k) ∧ (∀ a k, gR χ a k = gR μ a k) ∧ NmP σ' χ t 0 P ∧ NmW σ' χ t 0 W ∧ ∀ x b, x < P → b < P → gI σ' (t + 13) (6 * x + b) = (if D x b < 99 then nI (D x b) else -1) ∧ gI χ 27 (6 * x + b) = nI (D x b) ∧ D x b ≤ 99 := by
  have ht := hb.1.1
  have ta := town_a ht
  obtain ⟨hP, hW, hL, q1, q2, q3, q4, q5, q6⟩ := id hb
  have p6 := hP.2.2.1
  have w6 := hW.2.2.1
  obtain ⟨τ, υ, l1, sh, eυ⟩ := m_lays μ
  have uI : ∀ a k, a ≠ 12 → a ≠ 13 → gI υ a k = gI τ a k := fun a k h1 h2 => by rw [eυ, gI_pI_n (Or.inl h2), gI_pI_n (Or.inl h1)]
  have u12 : gI υ 12 0 = gI μ 12 1 - 1000 := by rw [eυ, gI_pI_n (Or.inl (by decide)), gI_pI_s]
  have u13 : gI υ 13 0 = gI μ 13 1 - 1000 := by rw [eυ, gI_pI_s]
  have uL : ∀ a k, gL υ a k = gL τ a k := fun a k => by rw [eυ]; rfl
  have row : ∀ a, a ∈ ([14, 11, 10, 9, 8, 7, 6, 5, 2] : List Nat) → ∀ k, k < r0M a → gI υ a k = gI μ a (r0M a + k) := fun a ha k hk => by
    rw [uI a k (by intro z; rw [z] at ha; simp at ha) (by intro z; rw [z] at ha; simp at ha), sh.2.1 a k ha, if_pos hk]
  have r2 : ∀ k, k < 4 → gI υ 2 k = gI μ 2 (4 + k) := fun k hk => row 2 (by simp) k hk
  have r5 : ∀ a, a = 5 ∨ a = 6 ∨ a = 7 → ∀ k, k < 8 → gI υ a k = gI μ a (8 + k) := fun a ha k hk => by
    rcases ha with rfl | rfl | rfl
    · exact row 5 (by simp) k hk
    · exact row 6 (by simp) k hk
    · exact row 7 (by simp) k hk
  have r8 : ∀ a, a = 8 ∨ a = 9 ∨ a = 10 ∨ a = 11 → ∀ k, k < 6 → gI υ a k = gI μ a (6 + k) := fun a ha k hk => by
    rcases ha with rfl | rfl | rfl | rfl
    · exact row 8 (by simp) k hk
    · exact row 9 (by simp) k hk
    · exact row 10 (by simp) k hk
    · exact row 11 (by simp) k hk
  have lnm : ∀ τ' : Mm, (∀ x, x = 2 ∨ x = 5 ∨ x = 6 → ∀ k, gI τ' x k = gI υ x k) → ∀ a b, a < 6 → b < 6 → f_X12_laneOf 0 (nI a) (nI b) τ' = some (oI (lnT P L W σ t a b), τ') := fun τ' e a b ha hbb =>
    lnT_m hb (by rw [e 2 (by omega), r2 1 (by omega)]; exact q2) (fun k hk => by rw [e 5 (by omega), r5 5 (by omega) k (by omega)]) (fun k hk => by rw [e 6 (by omega), r5 6 (by omega) k (by omega)]) ha hbb
  have l8 : ∀ a b k, lnT P L W σ t a b = some k → k < 8 := fun a b k h => by have := (lnT_p hb h).1; omega
  obtain ⟨χ, D, m1, m2, m3, m4⟩ := m_lays0 (σ := υ) (ln := lnT P L W σ t) (fun τ' o => lnm τ' (fun x hx k => o.1 x (by simp; omega) k)) l8
  have wy : WyH σ t P (lnT P L W σ t) D := ⟨ht, p6, hP.2.2.2.1, fun τ' o a b ha hbb => lnT_c hb o ha hbb, l8, fun a b h => by
    cases e : lnT P L W σ t a b with
    | none => exact absurd e h
    | some k => have := lnT_p hb e; exact ⟨this.2.1, this.2.2.1, this.2.2.2.1⟩, m4, fun a b ha hbb => (m3 a b ha hbb).2⟩
  obtain ⟨σ', f1, f2, f3⟩ := s_findWays wy
  obtain ⟨E, lwB⟩ := lwT_B hl
  have cI : ∀ a k, a ≠ 27 → gI χ a k = gI υ a k := fun a k h => m2.1 a (by simp; exact h) k
  have rk : ∀ a k, 2 ≤ a → a ≤ 14 → k < r0M a → ∀ ν, Rw0 χ ν → gI ν a k = gI υ a k := fun a k h1 h2 hk ν hν => (hν.1 a h1 h2 k hk).trans (cI a k (by omega))
  have lwX : ∀ ν, Rw0 χ ν → LwB σ ν t E := fun ν hν => lwB ν (fun k hk => (rk 14 k (by omega) (by omega) hk ν hν).trans (row 14 (by simp) k hk)) ((rk 12 0 (by omega) (by omega) (by decide) ν hν).trans u12) ((rk 13 0 (by omega) (by omega) (by decide) ν hν).trans u13)
  have sI : ∀ a k, a ≠ t + 13 → a ≠ t + 14 → gI σ' a k = gI σ a k := fun a k h1 h2 => f2.1 a (by simp; exact ⟨h1, h2⟩) k
  obtain ⟨T, eT⟩ : ∃ T, T = mkT P L W σ t (nxL (lnT P L W σ t) D P) (tEof E) := ⟨_, rfl⟩
  have hF : ∀ a b k, a < P → b < P → nxL (lnT P L W σ t) D P a b = some k → k < L ∧ ((gI σ (t + 5) k).toNatClampNeg = a ∨ (gI σ (t + 6) k).toNatClampNeg = a) ∧ a ≠ b := fun a b k ha hbb h => by
    have nn : ¬ (a = b ∨ ¬ D a b < 99) := fun z => by rw [(nxL_iff wy ha hbb).mpr z] at h; cases h
    unfold nxL at h
    cases e : nxY (lnT P L W σ t) D P a b with
    | none => rw [e] at h; cases h
    | some y =>
      rw [e] at h
      have h : lnT P L W σ t a y = some k := h
      have lp := lnT_p hb h
      exact ⟨lp.1, lp.2.2.2.2, fun z => nn (Or.inl z)⟩
  have twok : TwOk T := by rw [eT]; exact tb_tw hb hF (fun a b c d => clN_le _)
  have g7 : ∀ k, k < L → gI χ 7 k = gI σ (t + 7) k := fun k hk => by
    obtain ⟨a, b, m, _, _, _, _, _, _, _, _, z9, _, _, z12⟩ := tb_lane hb hk
    rw [cI 7 k (by decide), r5 7 (by omega) k (by omega), z12, z9]
  refine ⟨σ', υ, χ, T, D, f1, l1, m1, twok, ?_, ?_, by rw [eT]; rfl, by rw [eT]; rfl, by rw [eT]; rfl, f2, fun a ha k => ?_, fun a h3 h4 k => ?_, fun a k => ?_, ?_, ?_, fun x b hx hbb => ⟨(f3 x b hx hbb).1, (m3 x b (by omega) (by omega)).1, (m3 x b (by omega) (by omega)).2⟩⟩
  · rw [eT]
    refine ⟨ht, ?_, ?_, ?_, ?_, fun k hk => ?_, fun w hw => ?_, fun a b ha hbb => (f3 a b ha hbb).2, fun τ' e1 e2 x1 x2 x3 x4 h0 => ?_⟩
    · rw [sI _ _ (by omega) (by omega)]; exact hP.2.2.2.1
    · rw [sI _ _ (by omega) (by omega)]; exact q1
    · rw [sI _ _ (by omega) (by omega)]; exact hW.2.2.2.1
    · rw [sI _ _ (by omega) (by omega)]; rfl
    · obtain ⟨a, b, m, _, _, _, _, z5, z6, z7, z8, z9, _⟩ := tb_lane hb (k := k) hk
      show _ = nI (gI σ (t + 5) k).toNatClampNeg ∧ _ = nI (gI σ (t + 6) k).toNatClampNeg ∧ _ = gI σ (t + 7) k
      rw [sI _ _ (by omega) (by omega), sI _ _ (by omega) (by omega), sI _ _ (by omega) (by omega), z5, z6]
      exact ⟨z7, z8, rfl⟩
    · obtain ⟨c, a, b, m, _, _, _, _, z5, z6, z7, z8, z9, z10, _⟩ := tb_walker hb (w := w) hw
      show _ = gI σ (t + 9) w ∧ _ = nI (gI σ (t + 10) w).toNatClampNeg ∧ _ = nI (gI σ (t + 11) w).toNatClampNeg ∧ _ = gI σ (t + 12) w
      rw [sI _ _ (by omega) (by omega), sI _ _ (by omega) (by omega), sI _ _ (by omega) (by omega), sI _ _ (by omega) (by omega), z5, z6]
      exact ⟨rfl, z8, z9, rfl⟩
    · exact lawC ht (lwX χ Rw0.rf) τ' (fun k => (e1 k).trans (sI _ _ (by omega) (by omega))) (fun k => (e2 k).trans (sI _ _ (by omega) (by omega))) x1 x2 x3 x4 h0
  · rw [eT]
    intro ν hν
    have k2 : ∀ k, k < 4 → gI ν 2 k = gI υ 2 k := fun k hk => rk 2 k (by omega) (by omega) hk ν hν
    have k5 : ∀ a, a = 5 ∨ a = 6 ∨ a = 7 → ∀ k, k < 8 → gI ν a k = gI υ a k := fun a ha k hk => rk a k (by omega) (by omega) (by rcases ha with rfl | rfl | rfl <;> exact hk) ν hν
    have k8 : ∀ a, a = 8 ∨ a = 9 ∨ a = 10 ∨ a = 11 → ∀ k, k < 6 → gI ν a k = gI υ a k := fun a ha k hk => rk a k (by omega) (by omega) (by rcases ha with rfl | rfl | rfl | rfl <;> exact hk) ν hν
    have lnv : ∀ τ' : Mm, (∀ x, x = 2 ∨ x = 5 ∨ x = 6 → ∀ k, gI τ' x k = gI ν x k) → ∀ a b, a < 6 → b < 6 → f_X12_laneOf 0 (nI a) (nI b) τ' = some (oI (lnT P L W σ t a b), τ') := fun τ' e a b ha hbb =>
      lnT_m hb (by rw [e 2 (by omega), k2 1 (by omega), r2 1 (by omega)]; exact q2) (fun k hk => by rw [e 5 (by omega), k5 5 (by omega) k (by omega), r5 5 (by omega) k (by omega)]) (fun k hk => by rw [e 6 (by omega), k5 6 (by omega) k (by omega), r5 6 (by omega) k (by omega)]) ha hbb
    have g7v : ∀ k, k < L → gI ν 7 k = gI σ (t + 7) k := fun k hk => by
      rw [k5 7 (by omega) k (by omega), ← cI 7 k (by decide)]
      exact g7 k hk
    refine ⟨?_, ?_, ?_, ?_, fun k hk => ?_, fun w hw => ?_, wayX wy rfl (fun _ _ _ _ => rfl) ?_ (fun x y hx hy => (hν.2 _ (by omega)).trans (m3 x y hx hy).1) (fun τ' e => lnv τ' (fun x hx k => e x (by simp; omega) k)), lawX (lwX ν hν) rfl hL (fun k hk => g7v k hk)⟩
    · rw [k2 0 (by omega), r2 0 (by omega)]; exact hP.2.2.2.2.1
    · rw [k2 1 (by omega), r2 1 (by omega)]; exact q2
    · rw [k2 2 (by omega), r2 2 (by omega)]; exact hW.2.2.2.2.1
    · rw [k2 3 (by omega), r2 3 (by omega)]; exact q3.symm
    · have hk : k < L := hk
      obtain ⟨a, b, m, _, _, _, _, z5, z6, z7, z8, z9, z10, z11, z12⟩ := tb_lane hb (k := k) hk
      show _ = nI (gI σ (t + 5) k).toNatClampNeg ∧ _ = nI (gI σ (t + 6) k).toNatClampNeg ∧ _ = gI σ (t + 7) k
      rw [k5 5 (by omega) k (by omega), k5 6 (by omega) k (by omega), r5 5 (by omega) k (by omega), r5 6 (by omega) k (by omega), z5, z6]
      exact ⟨z10, z11, g7v k hk⟩
    · have hw : w < W := hw
      obtain ⟨c, a, b, m, _, _, _, _, z5, z6, z7, z8, z9, z10, z11, z12, z13, z14⟩ := tb_walker hb (w := w) hw
      show _ = gI σ (t + 9) w ∧ _ = nI (gI σ (t + 10) w).toNatClampNeg ∧ _ = nI (gI σ (t + 11) w).toNatClampNeg ∧ _ = gI σ (t + 12) w
      rw [k8 8 (by omega) w (by omega), k8 9 (by omega) w (by omega), k8 10 (by omega) w (by omega), k8 11 (by omega) w (by omega), r8 8 (by omega) w (by omega), r8 9 (by omega) w (by omega), r8 10 (by omega) w (by omega), r8 11 (by omega) w (by omega), z5, z6, z7, z10]
      exact ⟨z11, z12, z13, z14⟩
    · rw [k2 0 (by omega), r2 0 (by omega)]; exact hP.2.2.2.2.1
  · rw [cI _ _ (by omega), uI _ _ (by omega) (by omega), sh.1 a k (by simp; omega)]
  · rw [m2.2.1, uL, sh.2.2.1 a k (by simp; exact ⟨h4, h3⟩)]
  · rw [m2.2.2, eυ]
    exact sh.2.2.2.2 a k
  · refine ⟨ht, by omega, p6, by rw [sI _ _ (by omega) (by omega)]; exact hP.2.2.2.1, by rw [cI _ _ (by decide), r2 0 (by omega)]; exact hP.2.2.2.2.1, fun k hk => ?_⟩
    rw [f2.2.1, m2.2.1, uL, sh.2.2.2.1 3 _ (by simp), if_pos (by omega)]
    have := hP.2.2.2.2.2 k hk
    rw [show 6 * 1 + k = 6 + (6 * 0 + k) by omega] at this
    exact this
  · refine ⟨ht, by omega, w6, by rw [sI _ _ (by omega) (by omega)]; exact hW.2.2.2.1, by rw [cI _ _ (by decide), r2 2 (by omega)]; exact hW.2.2.2.2.1, fun k hk => ?_⟩
    rw [f2.2.1, m2.2.1, uL, sh.2.2.2.1 4 _ (by simp), if_pos (by omega)]
    have := hW.2.2.2.2.2 k hk
    rw [show 6 * 1 + k = 6 + (6 * 0 + k) by omega] at this
    exact this
