theorem end_iff {s : Nat → Nat} {n p : Nat} (hp : p ≤ n) (h : tkK s n p ≠ 1) : p < n := by
  have tl := tk_le (s := s) hp
  rcases Nat.lt_or_ge (tkB s n p) n with z | z
  · omega
  · exfalso
    apply h
    unfold tkK
    rw [if_pos (by omega)]
theorem r_lines {t P W b1 n : Nat} {s : Nat → Nat} (hb : b1 = 237 ∨ b1 = 241) (kx : Mm → Option (Int32 × Mm)) : ∀ d p i fc fm (σ μ : Mm) (l : Ln), n - p ≤ d → i ≤ p → d < fc → d < fm → Rd σ μ s n p → gI σ 3 1 = 0 → NmP σ μ t 0 P → NmW σ μ t 0 W → LC σ b1 l → LR μ 5 l → LnOq P W l →
    (∃ σ' μ' l', lq2 (F_X6_readEvening_19 b1 t (fun σ_56 => some ((gI σ_56 3 1), σ_56))) (fc + 1) (nI i) σ = some (0, σ') ∧ lq1 (F_X12_evening_16 kx (fun σ_30 => some ((gI σ_30 0 9), σ_30))) (fm + 1) μ = kx μ' ∧ CE b1 σ σ' ∧ ME μ μ' ∧ LC σ' b1 l' ∧ LR μ' 5 l' ∧ LnOq P W l') ∨ (∃ σ' μ' f, 0 < f ∧ f < 1000000 ∧ lq2 (F_X6_readEvening_19 b1 t (fun σ_56 => some ((gI σ_56 3 1), σ_56))) (fc + 1) (nI i) σ = some (nI f, σ') ∧ lq1 (F_X12_evening_16 kx (fun σ_30 => some ((gI σ_30 0 9), σ_30))) (fm + 1) μ = some (nI f, μ') ∧ CE b1 σ σ' ∧ ME μ μ') := by
  intro d
  induction d with
  | zero =>
    intro p i fc fm σ μ l hd hi h1 h2 h f0 hP hW hl hm ok
    left
    obtain ⟨q1, q2, q3, q4, q5, q6⟩ := id h
    have k1 : tkK s n p = 1 := by
      apply Classical.byContradiction
      intro z
      have := end_iff q4 z
      omega
    refine ⟨σ, μ, l, ?_, ?_, Cf.rf.ce, ME.rf, hl, hm, ok⟩
    · show F_X6_readEvening_19 b1 t _ _ (nI i) σ = _
      simp only [F_X6_readEvening_19, f0, q5.2.2.1, k1, show nI 1 = 1 from rfl, if_true]
      split <;> rfl
    · show F_X12_evening_16 kx _ _ μ = _
      simp only [F_X12_evening_16, q6.2.2.1, k1, show nI ((1 + 4) % 5) = 0 from rfl, if_true]
  | succ d ih =>
    intro p i fc fm σ μ l hd hi h1 h2 h f0 hP hW hl hm ok
    obtain ⟨q1, q2, q3, q4, q5, q6⟩ := id h
    have hn := q1.1
    have k4 := tkK_le s n p
    by_cases k1 : tkK s n p = 1
    · left
      refine ⟨σ, μ, l, ?_, ?_, Cf.rf.ce, ME.rf, hl, hm, ok⟩
      · show F_X6_readEvening_19 b1 t _ _ (nI i) σ = _
        simp only [F_X6_readEvening_19, f0, q5.2.2.1, k1, show nI 1 = 1 from rfl, if_true]
        split <;> rfl
      · show F_X12_evening_16 kx _ _ μ = _
        simp only [F_X12_evening_16, q6.2.2.1, k1, show nI ((1 + 4) % 5) = 0 from rfl, if_true]
    · have pn := end_iff q4 k1
      have c1 : nI i < 1000 := nI_lt (a := i) (b := 1000) (by omega) (by omega)
      have e1 : ¬ nI (tkK s n p) = 1 := fun w => k1 ((nI_eq (b := 1) (by omega) (by omega)).mp w)
      have e2 : ¬ nI ((tkK s n p + 4) % 5) = 0 := fun w => by have := (nI_eq (b := 0) (by omega) (by omega)).mp w; omega
      obtain ⟨fc, rfl⟩ : ∃ k, fc = k + 1 := ⟨fc - 1, by omega⟩
      obtain ⟨fm, rfl⟩ : ∃ k, fm = k + 1 := ⟨fm - 1, by omega⟩
      rcases r_line h f0 hP hW hl hb hm ok with ⟨σ1, μ1, q, l1, a1, a2, a3, a4, a5, a6, a7, a8, a9, a10⟩ | ⟨σ1, μ1, a1, a2, a3, a4, f, a5, a6, a7, a8⟩
      · have sc : lq2 (F_X6_readEvening_19 b1 t (fun σ_56 => some ((gI σ_56 3 1), σ_56))) (fc + 1 + 1) (nI i) σ = lq2 (F_X6_readEvening_19 b1 t (fun σ_56 => some ((gI σ_56 3 1), σ_56))) (fc + 1) (nI (i + 1)) σ1 := by
          show F_X6_readEvening_19 b1 t _ _ (nI i) σ = _
          simp only [F_X6_readEvening_19, if_pos c1, f0, if_true, q5.2.2.1, if_neg e1, cl_of _ a1, nI_1]
        have sm : lq1 (F_X12_evening_16 kx (fun σ_30 => some ((gI σ_30 0 9), σ_30))) (fm + 1 + 1) μ = lq1 (F_X12_evening_16 kx (fun σ_30 => some ((gI σ_30 0 9), σ_30))) (fm + 1) μ1 := by
          show F_X12_evening_16 kx _ _ μ = _
          simp only [F_X12_evening_16, q6.2.2.1, if_neg e2, cl_of _ a2, if_neg one0]
        rw [sc, sm]
        rcases ih q (i + 1) fc fm σ1 μ1 l1 (by omega) (by omega) (by omega) (by omega) a6 a5 (hP.fe a3 a4 hb) (hW.fe a3 a4 hb) a8 a9 a10 with ⟨σ', μ', l', t1, t2, t3, t4, t5, t6, t7⟩ | ⟨σ', μ', f, g0, g1, t1, t2, t3, t4⟩
        · left; exact ⟨σ', μ', l', t1, t2, a3.tr t3, a4.tr t4, t5, t6, t7⟩
        · right; exact ⟨σ', μ', f, g0, g1, t1, t2, a3.tr t3, a4.tr t4⟩
      · right
        refine ⟨σ1, μ1, f, a5, a6, ?_, ?_, a3, a4⟩
        · show F_X6_readEvening_19 b1 t _ _ (nI i) σ = _
          simp only [F_X6_readEvening_19, if_pos c1, f0, if_true, q5.2.2.1, if_neg e1, cl_of _ a1, nI_1]
          show F_X6_readEvening_19 b1 t _ _ (nI (i + 1)) σ1 = _
          simp only [F_X6_readEvening_19, a7, if_neg (nI_ne0 a5 (show f < 2 ^ 31 by omega))]
          split <;> rfl
        · show F_X12_evening_16 kx _ _ μ = _
          simp only [F_X12_evening_16, q6.2.2.1, if_neg e2, cl_of _ a2, if_true, a8]
theorem b40 (a b : Nat) : (40 : Int32) * nI a + nI b = nI (40 * a + b) := by rw [show (40 : Int32) = nI 40 from rfl, pk_mul, nI_add]
/-- lines are laid from row to row -/
theorem m_laysLines {σ : Mm} {a b : Nat} (ha : a < 6) (hb : b < 6) (hab : a ≠ b) : ∃ τ, f_X12_laysLines (nI a) (nI b) σ = some (0, τ) ∧ Off [28, 29, 30, 31] σ τ ∧ (∀ k, gI τ 28 k = if k = b then gI σ 28 a else gI σ 28 k) ∧ ∀ c, c = 29 ∨ c = 30 ∨ c = 31 → (∀ k, k < 40 → gI τ c (40 * b + k) = gI σ c (40 * a + k)) ∧ ∀ k, (k < 40 * b ∨ 40 * b + 40 ≤ k) → gI τ c k = gI σ c k := by
  unfold f_X12_laysLines
  rw [ck_t (inb_nI ha (by omega)), ck_t (inb_nI hb (by omega)), bn_e, jn_e2, nI_tn (show a < 2147483648 by omega), nI_tn (show b < 2147483648 by omega)]
  obtain ⟨σ1, e1⟩ : ∃ y, y = pI σ 28 b (gI σ 28 a) := ⟨_, rfl⟩
  rw [← e1]
  have q := lq2_inv (F := F_X12_laysLines_14 (nI a) (nI b) (fun σ_92 => some (0, σ_92))) (fun i => nI i) (fun i c => Off [28, 29, 30, 31] σ c ∧ (∀ k, gI c 28 k = gI σ1 28 k) ∧ ∀ x, x = 29 ∨ x = 30 ∨ x = 31 → ∀ k, gI c x k = if 40 * b ≤ k ∧ k < 40 * b + i then gI σ x (40 * a + (k - 40 * b)) else gI σ x k) 40 (fun σ_92 => some (0, σ_92)) ?_ ?_ (n := 1000000) (b0 := σ1) ⟨by rw [e1]; exact Off.pI (by simp), fun _ => rfl, fun x hx k => by rw [e1, gI_pI_n (Or.inl (by omega)), if_neg (by omega)]⟩ (by omega)
  · obtain ⟨c, ⟨c1, c2, c3⟩, e⟩ := q
    refine ⟨c, e, c1, fun k => ?_, fun x hx => ⟨fun k hk => ?_, fun k hk => ?_⟩⟩
    · rw [c2, e1, gI_pI]
      by_cases z : k = b
      · rw [if_pos ⟨rfl, z⟩, if_pos z]
      · rw [if_neg (fun y => z y.2), if_neg z]
    · rw [c3 x hx, if_pos (by omega)]; congr 1; omega
    · rw [c3 x hx, if_neg (by omega)]
  · intro rec i c hi hc
    obtain ⟨c1, c2, c3⟩ := hc
    have k1 : nI i < 40 := nI_lt (a := i) (b := 40) hi (by omega)
    have old : ∀ x, x = 29 ∨ x = 30 ∨ x = 31 → gI c x (40 * a + i) = gI σ x (40 * a + i) := fun x hx => by
      rw [c3 x hx, if_neg (by omega)]
    obtain ⟨c', ec⟩ : ∃ y, y = pI (pI (pI c 29 (40 * b + i) (gI σ 29 (40 * a + i))) 30 (40 * b + i) (gI σ 30 (40 * a + i))) 31 (40 * b + i) (gI σ 31 (40 * a + i)) := ⟨_, rfl⟩
    refine ⟨c', ⟨by rw [ec]; exact c1.tr ((Off.pI (by simp)).tr ((Off.pI (by simp)).tr (Off.pI (by simp)))), fun k => by rw [ec, gI_pI_n (Or.inl (by decide)), gI_pI_n (Or.inl (by decide)), gI_pI_n (Or.inl (by decide))]; exact c2 k, fun x hx k => ?_⟩, ?_⟩
    · have g : gI c' x k = if k = 40 * b + i then gI σ x (40 * a + i) else gI c x k := by
        rw [ec]
        rcases hx with rfl | rfl | rfl
        · rw [gI_pI_n (Or.inl (by decide)), gI_pI_n (Or.inl (by decide)), gI_pI]; simp
        · rw [gI_pI_n (Or.inl (by decide)), gI_pI]
          by_cases z : k = 40 * b + i
          · rw [if_pos ⟨rfl, z⟩, if_pos z]
          · rw [if_neg (fun y => z y.2), if_neg z, gI_pI_n (Or.inl (by decide))]
        · rw [gI_pI]
          by_cases z : k = 40 * b + i
          · rw [if_pos ⟨rfl, z⟩, if_pos z]
          · rw [if_neg (fun y => z y.2), if_neg z, gI_pI_n (Or.inl (by decide)), gI_pI_n (Or.inl (by decide))]
      rw [g, c3 x hx]
      by_cases z : k = 40 * b + i
      · subst z
        rw [if_pos rfl, if_pos (by omega), Nat.add_sub_cancel_left]
      · rw [if_neg z]
        by_cases y : 40 * b ≤ k ∧ k < 40 * b + i
        · rw [if_pos y, if_pos (by omega)]
        · rw [if_neg y, if_neg (by omega)]
    · have o30 : gI (pI c 29 (40 * b + i) (gI σ 29 (40 * a + i))) 30 (40 * a + i) = gI σ 30 (40 * a + i) := by rw [gI_pI_n (Or.inl (by decide))]; exact old 30 (by omega)
      have o31 : gI (pI (pI c 29 (40 * b + i) (gI σ 29 (40 * a + i))) 30 (40 * b + i) (gI σ 30 (40 * a + i))) 31 (40 * a + i) = gI σ 31 (40 * a + i) := by rw [gI_pI_n (Or.inl (by decide)), gI_pI_n (Or.inl (by decide))]; exact old 31 (by omega)
      simp only [F_X12_laysLines_14, if_pos k1, bn_e, b40, ck_t (inb_nI (show 40 * a + i < 240 by omega) (by omega)), ck_t (inb_nI (show 40 * b + i < 240 by omega) (by omega)), nI_tn (show 40 * a + i < 2147483648 by omega), nI_tn (show 40 * b + i < 2147483648 by omega), old 29 (Or.inl rfl), o30, o31, nI_1, ec]
  · intro rec c hc
    simp only [F_X12_laysLines_14, if_neg (show ¬ nI 40 < 40 by decide)]
theorem LR.lay {σ τ : Mm} {a b : Nat} {l : Ln} (h : LR σ a l) (h40 : lM l ≤ 40) (e1 : ∀ k, gI τ 28 k = if k = b then gI σ 28 a else gI σ 28 k) (e2 : ∀ c, c = 29 ∨ c = 30 ∨ c = 31 → (∀ k, k < 40 → gI τ c (40 * b + k) = gI σ c (40 * a + k)) ∧ ∀ k, (k < 40 * b ∨ 40 * b + 40 ≤ k) → gI τ c k = gI σ c k) : LR τ b l := by
  refine ⟨by rw [e1, if_pos rfl]; exact h.1, fun k hk => ?_⟩
  rw [(e2 29 (by omega)).1 k (by omega), (e2 30 (by omega)).1 k (by omega), (e2 31 (by omega)).1 k (by omega)]
  exact h.2 k hk
