theorem town_a {t : Nat} (h : isTown t = true) : t = 207 ∨ t = 222 := by
  have tn := town_night h n197
  exact tn.2.2.1
theorem NmP.fr {σ μ σ' μ' : Mm} {t r P : Nat} (h : NmP σ μ t r P) (c : Cf σ σ') (m : Mf μ μ') : NmP σ' μ' t r P := by
  obtain ⟨h1, h2, h3, h4, h5, h6⟩ := h
  have ta := town_a h1
  refine ⟨h1, h2, h3, by rw [c.1 t (by omega) (by omega)]; exact h4, by rw [m.1 2 (by decide)]; exact h5, fun k hk => ?_⟩
  rw [c.2.1 (t + 4) (by omega), m.2.2.1 3 _ (by omega)]; exact h6 k hk
theorem NmW.fr {σ μ σ' μ' : Mm} {t r W : Nat} (h : NmW σ μ t r W) (c : Cf σ σ') (m : Mf μ μ') : NmW σ' μ' t r W := by
  obtain ⟨h1, h2, h3, h4, h5, h6⟩ := h
  have ta := town_a h1
  refine ⟨h1, h2, h3, by rw [c.1 t (by omega) (by omega)]; exact h4, by rw [m.1 2 (by decide)]; exact h5, fun k hk => ?_⟩
  rw [c.2.1 (t + 8) (by omega), m.2.2.1 4 _ (by omega)]; exact h6 k hk
theorem nm_2 {s : Nat → Nat} {n p : Nat} (h : nmT s n p = true) : tkK s n p = 2 := by
  unfold nmT at h
  cases e : decide (tkK s n p = 2)
  · rw [e] at h; cases h
  · exact of_decide_eq_true e
/-- a place is named, or not -/
theorem r_place {σ μ : Mm} {s : Nat → Nat} {n p t r P : Nat} (h : Rd σ μ s n p) (hn : NmP σ μ t r P) :
    (∃ k, k < P ∧ tkK s n p = 2 ∧ (∀ σ', f_X8_advance σ = some (0, σ') → f_X6_readPlaceName t σ = some (nI k, σ')) ∧ f_X6_isPlaceName t σ = some (1, σ) ∧ f_X9_placeNamed t (gL σ 4 5) σ = some (nI k, σ) ∧ f_X12_needsPlace (nI r) μ = some (1, pI μ 0 37 (nI k))) ∨ (f_X6_isPlaceName t σ = some (0, σ) ∧ ∃ σ' μ', f_X6_readPlaceName t σ = some (-1, σ') ∧ f_X12_needsPlace (nI r) μ = some (0, μ') ∧ No σ μ σ' μ') := by
  have nc := h.nameC
  have nm := h.nameM
  have hP := hn.2.2.1
  cases e : nmT s n p
  · right
    rw [e] at nc nm
    obtain ⟨σ', μ', a1, a2, a3, a4, a5⟩ := h.bad (k := 1) (by omega) (by omega)
    have a1 : f_X6_wrong 1 σ = some (0, σ') := a1
    have a2 : f_X12_fails 1 μ = some (0, μ') := a2
    refine ⟨?_, σ', μ', ?_, ?_, a3, a4, a5⟩
    · unfold f_X6_isPlaceName
      rw [ck_t hn.1, cl_of _ nc, jn_e, if_pos b1F0]
    · unfold f_X6_readPlaceName f_X6_readTold
      simp only [ck_t hn.1, cl_of _ nc, jn_e, if_pos b1F0, if_true, cl_of _ a1, cl_s]
    · unfold f_X12_needsPlace
      rw [cl_of _ nm, if_neg (show ¬ b1I (!false) = 0 by decide), cl_of _ a2]
  · rw [e] at nc nm
    obtain ⟨o, o1, o2, o3⟩ := r_placeNamed hn (h.nm (nm_2 e))
    cases o with
    | none =>
      right
      have hr : Rd σ (pI μ 0 37 (-1)) s n p := h.cm (fun k => gI_pI_n (Or.inl (by decide))) (fun j hj => gI_pI_n (Or.inr (by omega))) rfl
      obtain ⟨σ', μ', a1, a2, a3, a4, a5⟩ := hr.bad (k := 2) (by omega) (by omega)
      have a1 : f_X6_wrong 2 σ = some (0, σ') := a1
      have a2 : f_X12_fails 2 (pI μ 0 37 (-1)) = some (0, μ') := a2
      refine ⟨?_, σ', μ', ?_, ?_, a3, (Mf.pI (by omega)).tr a4, a5⟩
      · unfold f_X6_isPlaceName
        rw [ck_t hn.1, cl_of _ nc, jn_e, if_neg b1T0, cl_of _ o2, oI_none, if_pos rfl]
      · unfold f_X6_readPlaceName f_X6_readTold
        simp only [ck_t hn.1, cl_of _ nc, jn_e, if_neg b1T0, cl_of _ o2, oI_none, if_true, cl_of _ a1, cl_s]
      · unfold f_X12_needsPlace
        rw [cl_of _ nm, if_pos (show b1I (!true) = 0 from rfl), cl_of _ o3, oI_none, bn_e, jn_e, gI_pI_s, if_pos (by decide), cl_of _ a2, if_pos rfl]
    | some k =>
      left
      have hk := o1 k rfl
      refine ⟨k, hk, nm_2 e, fun σ' a1 => ?_, ?_, ?_, ?_⟩
      · unfold f_X6_readPlaceName f_X6_readTold
        simp only [ck_t hn.1, cl_of _ nc, jn_e, if_neg b1T0, cl_of _ o2, oI_some, if_neg (nI_ne k (by omega)), cl_of _ a1, cl_s]
      · unfold f_X6_isPlaceName
        rw [ck_t hn.1, cl_of _ nc, jn_e, if_neg b1T0, cl_of _ o2, oI_some, if_neg (nI_ne k (by omega))]
      · exact o2
      · unfold f_X12_needsPlace
        rw [cl_of _ nm, if_pos (show b1I (!true) = 0 from rfl), cl_of _ o3, oI_some, bn_e, jn_e, gI_pI_s, if_neg (nI_pos (by omega))]
/-- two places are named, not the same -/
theorem r_two {σ μ : Mm} {s : Nat → Nat} {n p t r P : Nat} (h : Rd σ μ s n p) (f0 : gI σ 3 1 = 0) (hn : NmP σ μ t r P) :
    (∃ a σ1, a < P ∧ f_X6_readPlaceName t σ = some (nI a, σ1) ∧ Cf σ σ1 ∧ gI σ1 3 1 = 0 ∧
      ((∃ b μ2, b < P ∧ b ≠ a ∧ f_X6_isPlaceName t σ1 = some (1, σ1) ∧ f_X9_placeNamed t (gL σ1 4 5) σ1 = some (nI b, σ1) ∧ (∀ σ', f_X8_advance σ1 = some (0, σ') → f_X6_readPlaceName t σ1 = some (nI b, σ')) ∧ f_X12_needsTwo (nI r) μ = some (1, μ2) ∧ gI μ2 0 39 = nI a ∧ gI μ2 0 37 = nI b ∧ Mf μ μ2 ∧ Rd σ1 μ2 s n (tkE s n p) ∧ p < tkE s n p)
      ∨ (f_X6_isPlaceName t σ1 = some (1, σ1) ∧ f_X9_placeNamed t (gL σ1 4 5) σ1 = some (nI a, σ1) ∧ ∃ σ' μ', f_X6_wrong 3 σ1 = some (0, σ') ∧ f_X12_needsTwo (nI r) μ = some (0, μ') ∧ No σ μ σ' μ')
      ∨ (f_X6_isPlaceName t σ1 = some (0, σ1) ∧ ∃ σ' μ', f_X6_readPlaceName t σ1 = some (-1, σ') ∧ f_X12_needsTwo (nI r) μ = some (0, μ') ∧ No σ μ σ' μ')))
    ∨ ∃ σ' μ', f_X6_readPlaceName t σ = some (-1, σ') ∧ f_X12_needsTwo (nI r) μ = some (0, μ') ∧ No σ μ σ' μ' := by
  have hP := hn.2.2.1
  rcases r_place h hn with ⟨a, ha, k2, q1, q2, q3, q4⟩ | ⟨q0, σ', μ', q1, q2, q3⟩
  · left
    obtain ⟨μ1, e1⟩ : ∃ y, y = pI (pI μ 0 37 (nI a)) 0 39 (nI a) := ⟨_, rfl⟩
    have m1 : Mf μ μ1 := by rw [e1]; exact (Mf.pI (by omega)).tr (Mf.pI (by omega))
    have g39 : gI μ1 0 39 = nI a := by rw [e1, gI_pI_s]
    have hr : Rd σ μ1 s n p := h.cm (fun k => m1.1 1 (by decide) k) (fun j hj => by rw [e1, gI_pI_n (Or.inr (by omega)), gI_pI_n (Or.inr (by omega))]) (by rw [e1]; rfl)
    obtain ⟨σ1, μ2, b1, b2, b3, b4, b5⟩ := hr.next
    have two : ∀ A, f_X12_needsPlace (nI r) μ2 = A → f_X12_needsTwo (nI r) μ = cl A (fun r24 σ24 => (if r24 = 0 then some ((0 : Int32), σ24) else (if (gI σ24 0 37) = (gI σ24 0 39) then cl (f_X12_fails (3 : Int32) σ24) (fun r43 σ43 => (if r43 = 0 then some ((0 : Int32), σ43) else some ((1 : Int32), σ43))) else some ((1 : Int32), σ24)))) := by
      intro A hA
      unfold f_X12_needsTwo
      rw [cl_of _ q4, if_neg one0, bn_e, gI_pI_s, ← e1, cl_of _ b2, hA]
      rfl
    have hn2 := hn.fr b3.cf (m1.tr b4.mf)
    refine ⟨a, σ1, ha, q1 σ1 b1, b3.cf, fault4 b3 f0, ?_⟩
    have h39 : gI μ2 0 39 = nI a := by rw [b4.2.1 39 (by decide) (by decide) (by decide) (by decide)]; exact g39
    rcases r_place b5 hn2 with ⟨b, hb, k2', w1, w2, w3, w4⟩ | ⟨w0, σ', μ', w1, w2, w3⟩
    · have t2 := two _ w4
      rw [cl_s, if_neg one0, gI_pI_s, gI_pI_n (Or.inr (by decide)), h39] at t2
      have hr2 : Rd σ1 (pI μ2 0 37 (nI b)) s n (tkE s n p) := b5.cm (fun k => gI_pI_n (Or.inl (by decide))) (fun j hj => gI_pI_n (Or.inr (by omega))) rfl
      have m3 : Mf μ (pI μ2 0 37 (nI b)) := m1.tr (b4.mf.tr (Mf.pI (by omega)))
      by_cases z : b = a
      · right; left
        subst z
        rw [if_pos rfl] at t2
        obtain ⟨σ', μ', a1, a2, a3, a4, a5⟩ := hr2.bad (k := 3) (by omega) (by omega)
        have a1 : f_X6_wrong 3 σ1 = some (0, σ') := a1
        have a2 : f_X12_fails 3 (pI μ2 0 37 (nI b)) = some (0, μ') := a2
        rw [cl_of _ a2, if_pos rfl] at t2
        exact ⟨w2, w3, σ', μ', a1, t2, b3.cf.tr a3, m3.tr a4, a5⟩
      · left
        rw [if_neg (fun y => z ((nI_eq (by omega) (by omega)).mp y))] at t2
        exact ⟨b, _, hb, z, w2, w3, w1, t2, by rw [gI_pI_n (Or.inr (by decide))]; exact h39, by rw [gI_pI_s], m3, hr2, kw_adv h.2.2.2.1 (Or.inl k2)⟩
    · right; right
      have t2 := two _ w2
      rw [cl_s, if_pos rfl] at t2
      exact ⟨w0, σ', μ', w1, t2, b3.cf.tr w3.1, (m1.tr b4.mf).tr w3.2.1, w3.2.2⟩
  · right
    refine ⟨σ', μ', q1, ?_, q3⟩
    unfold f_X12_needsTwo
    rw [cl_of _ q2, if_pos rfl]
/-- a walker is named, in an evening -/
theorem r_walker {σ μ : Mm} {s : Nat → Nat} {n p t W : Nat} (h : Rd σ μ s n p) (hn : NmW σ μ t 0 W) :
    (∃ k, k < W ∧ tkK s n p = 2 ∧ (∀ σ', f_X8_advance σ = some (0, σ') → f_X6_readWalkerName t σ = some (nI k, σ')) ∧ f_X12_isKept μ = some (0, μ) ∧ f_X12_walkerNamed 0 μ = some (nI k, μ)) ∨ (f_X12_isKept μ = some (1, μ) ∧ ∃ σ' μ', f_X6_readWalkerName t σ = some (-1, σ') ∧ f_X12_fails 1 μ = some (0, μ') ∧ No σ μ σ' μ') ∨ (f_X12_isKept μ = some (0, μ) ∧ f_X12_walkerNamed 0 μ = some (-1, μ) ∧ ∃ σ', f_X6_readWalkerName t σ = some (-1, σ') ∧ f_X6_wrong 2 σ = some (0, σ')) := by
  have nc := h.nameC
  have nm := h.nameM
  have hP := hn.2.2.1
  cases e : nmT s n p
  · right; left
    rw [e] at nc nm
    obtain ⟨σ', μ', a1, a2, a3, a4, a5⟩ := h.bad (k := 1) (by omega) (by omega)
    have a1 : f_X6_wrong 1 σ = some (0, σ') := a1
    refine ⟨nm, σ', μ', ?_, a2, a3, a4, a5⟩
    unfold f_X6_readWalkerName f_X6_readTold
    simp only [ck_t hn.1, cl_of _ nc, jn_e, if_pos b1F0, if_true, cl_of _ a1, cl_s]
  · rw [e] at nc nm
    obtain ⟨o, o1, o2, o3⟩ := r_walkerNamed hn (h.nm (nm_2 e))
    cases o with
    | none =>
      right; right
      obtain ⟨σ', μ', a1, a2, a3, a4, a5⟩ := h.bad (k := 2) (by omega) (by omega)
      have a1 : f_X6_wrong 2 σ = some (0, σ') := a1
      refine ⟨nm, o3, σ', ?_, a1⟩
      unfold f_X6_readWalkerName f_X6_readTold
      simp only [ck_t hn.1, cl_of _ nc, jn_e, if_neg b1T0, cl_of _ o2, oI_none, if_true, cl_of _ a1, cl_s]
    | some k =>
      left
      have hk := o1 k rfl
      refine ⟨k, hk, nm_2 e, fun σ' a1 => ?_, nm, o3⟩
      unfold f_X6_readWalkerName f_X6_readTold
      simp only [ck_t hn.1, cl_of _ nc, jn_e, if_neg b1T0, cl_of _ o2, oI_some, if_neg (nI_ne k (by omega)), cl_of _ a1, cl_s]
