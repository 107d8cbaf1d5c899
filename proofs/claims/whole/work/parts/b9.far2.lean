theorem FwI.next {ln : Nat → Nat → Option Nat} {k j : Nat} {D E : Nat → Nat → Nat} (h : FwI ln k j D E) (l : Nat) : FwI ln l 0 E E := fun x y hx hy => by
  have c := h x y hx hy
  exact ⟨c.1, Nat.le_refl _, fun z => absurd z (by omega), c.2.2.2.1, c.2.2.2.2⟩
theorem m_lays0 {σ : Mm} {ln : Nat → Nat → Option Nat} (hl : ∀ τ : Mm, Off [27] σ τ → ∀ a b, a < 6 → b < 6 → f_X12_laneOf 0 (nI a) (nI b) τ = some (oI (ln a b), τ)) (l8 : ∀ a b k, ln a b = some k → k < 8) : ∃ τ D, f_X12_lays0 σ = some (0, τ) ∧ Off [27] σ τ ∧ (∀ a b, a < 6 → b < 6 → gI τ 27 (6 * a + b) = nI (D a b) ∧ D a b ≤ 99) ∧ Dst (adjL ln) 6 D := by
  -- the first lengths
  obtain ⟨kx, ek⟩ : ∃ k : Mm → Option (Int32 × Mm), k = (fun (σ_57 : Mm) => lq2 (F_X12_lays0_59 (fun (σ_129 : Mm) => some (0, σ_129))) 1000000 (0 : Int32) σ_57) := ⟨_, rfl⟩
  have f1 : ∃ b, lq2 (F_X12_lays0_2 kx) 1000000 0 σ = kx b ∧ Off [27] σ b ∧ ∀ m, m < 36 → gI b 27 m = nI (far0 ln (m / 6) (m % 6)) := by
    have q := lq2_inv (F := F_X12_lays0_2 kx) (fun i => nI i) (fun j b => Off [27] σ b ∧ ∀ m, m < j → gI b 27 m = nI (far0 ln (m / 6) (m % 6))) 36 kx ?_ ?_ (n := 1000000) (b0 := σ) ⟨Off.rf, fun m hm => absurd hm (by omega)⟩ (by omega)
    · obtain ⟨b, ⟨b1, b2⟩, e⟩ := q
      exact ⟨b, e, b1, b2⟩
    · intro rec j b hj hb
      obtain ⟨b1, b2⟩ := hb
      have d6 := dv6 j hj
      refine ⟨pI b 27 j (nI (far0 ln (j / 6) (j % 6))), ⟨b1.tr (Off.pI (by simp)), fun m hm => ?_⟩, ?_⟩
      · rw [gI_pI]
        by_cases z : m = j
        · rw [if_pos ⟨rfl, z⟩, z]
        · rw [if_neg (fun w => z w.2)]; exact b2 m (by omega)
      · unfold F_X12_lays0_2
        have lo := hl b b1 (j / 6) (j % 6) (by omega) (by omega)
        simp only [if_pos (show nI j < 36 from nI_lt (a := j) (b := 36) hj (by omega)), jn_e2, d6.1, d6.2, ck_t (inb_nI hj (by omega)), nI_tn (show j < 2147483648 by omega), bn_e, nI_1, cl_of _ lo]
        unfold far0
        by_cases z : j / 6 = j % 6
        · rw [if_pos (by rw [z]), if_pos z]; rfl
        · rw [if_neg (fun w => z ((nI_eq (by omega) (by omega)).mp w)), if_neg z]
          cases e : ln (j / 6) (j % 6) with
          | none => rw [oI_none, if_pos (by decide), if_pos rfl]; rfl
          | some u =>
            have := l8 _ _ u e
            rw [oI_some, if_neg (nI_pos (by omega)), if_neg (by simp)]; rfl
    · intro rec b hb
      unfold F_X12_lays0_2
      rw [if_neg (show ¬ nI 36 < 36 by decide)]
  obtain ⟨b0, e0, o0, g0⟩ := f1
  have w0 : FwI ln 0 0 (far0 ln) (far0 ln) := fun x y hx hy => by
    unfold far0
    refine ⟨?_, Nat.le_refl _, fun z => absurd z (by omega), if_pos rfl, fun h9 => ?_⟩
    · by_cases z : x = y
      · rw [if_pos z]; omega
      · rw [if_neg z]; split <;> omega
    · by_cases z : x = y
      · rw [if_pos z]; exact z
      · rw [if_neg z] at h9 ⊢
        by_cases w : ln x y = none
        · rw [if_pos w] at h9; omega
        · rw [if_neg w]; exact ⟨y, ⟨hx, hy, z, w⟩, rfl⟩
  have c0 : CmpW (adjL ln) 0 (far0 ln) := cmp_0 (fun a _ => if_pos rfl) (fun a b _ _ h => by unfold far0; rw [if_neg h.2.2.1, if_neg h.2.2.2]; exact Nat.le_refl _)
  -- the passes
  have q := lq2_inv (F := F_X12_lays0_59 (fun (σ_129 : Mm) => some (0, σ_129))) (fun i => nI i) (fun k b => Off [27] σ b ∧ ∃ D, (∀ m, m < 36 → gI b 27 m = nI (D (m / 6) (m % 6))) ∧ FwI ln k 0 D D ∧ CmpW (adjL ln) k D) 6 (fun (σ_129 : Mm) => some (0, σ_129)) ?_ ?_ (n := 1000000) (b0 := b0) ⟨o0, far0 ln, g0, w0, c0⟩ (by omega)
  · obtain ⟨b, ⟨b1, D, b2, b3, b4⟩, e⟩ := q
    refine ⟨b, D, ?_, b1, fun x y hx hy => ⟨?_, (b3 x y hx hy).1⟩, fun a ha => (b3 a a ha ha).2.2.2.1, fun x y hx hy h9 => (b3 x y hx hy).2.2.2.2 h9, fun x y L hx hy w => b4 L x y hx hy (wk_wi (fun _ _ h => h.2.1) w)⟩
    · unfold f_X12_lays0
      rw [jn_e2]
      have : (fun (σ_57 : Mm) => jn (fun (σ_129 : Mm) => some ((0 : Int32), σ_129)) (fun k129 => lq2 (F_X12_lays0_59 k129) 1000000 (0 : Int32) σ_57)) = kx := by rw [ek]; funext τ; rw [jn_e2]
      rw [this, e0, ek]
      exact e
    · rw [b2 _ (by omega), show (6 * x + y) / 6 = x by omega, show (6 * x + y) % 6 = y by omega]
  · intro rec k b hk hb
    obtain ⟨b1, D, b2, b3, b4⟩ := hb
    obtain ⟨b', E, p1, p2, p3, p4⟩ := m_fwPass hk b3 b b1 b2 (fun σ_123 => rec (nI (k + 1)) σ_123)
    refine ⟨b', ⟨p2, E, p3, p4.next _, cmp_s hk b4 (fun x y hx hy => (p4 x y hx hy).2.1) (fun x y hx hy => (p4 x y hx hy).2.2.1 (by omega))⟩, ?_⟩
    unfold F_X12_lays0_59
    rw [if_pos (show nI k < 6 from nI_lt (a := k) (b := 6) hk (by omega)), jn_e2, nI_1]
    exact p1
  · intro rec b hb
    unfold F_X12_lays0_59
    rw [if_neg (show ¬ nI 6 < 6 by decide)]
