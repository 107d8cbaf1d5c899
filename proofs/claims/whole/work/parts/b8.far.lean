/-! the reference's shortest ways -/
theorem dv6 : ∀ i, i < 36 → nI i / 6 = nI (i / 6) ∧ irm (nI i) 6 = nI (i % 6) := by decide
def adjL (ln : Nat → Nat → Option Nat) (a b : Nat) : Prop := a < 6 ∧ b < 6 ∧ a ≠ b ∧ ln a b ≠ none
def far0 (ln : Nat → Nat → Option Nat) (a b : Nat) : Nat := if a = b then 0 else if ln a b = none then 99 else 1
def FwI (ln : Nat → Nat → Option Nat) (k j : Nat) (D E : Nat → Nat → Nat) : Prop := ∀ x y, x < 6 → y < 6 → E x y ≤ 99 ∧ E x y ≤ D x y ∧ (6 * x + y < j → E x y ≤ D x k + D k y) ∧ E x x = 0 ∧ (E x y < 99 → Wk (adjL ln) (E x y) x y)
theorem im_n {a b : Nat} (ha : a < 1000) (hb : b < 1000) : imn (nI a) (nI b) = nI (min a b) := by
  unfold imn
  by_cases z : b < a
  · rw [if_pos (nI_lt z (by omega)), Nat.min_eq_right (by omega)]
  · rw [if_neg (fun w => z ((nI_ltI (by omega) (by omega)).mp w)), Nat.min_eq_left (by omega)]
theorem m_fwPass {σ : Mm} {ln : Nat → Nat → Option Nat} {k : Nat} (hk : k < 6) {D : Nat → Nat → Nat} (hD : FwI ln k 0 D D) (b0 : Mm) (o0 : Off [27] σ b0) (g0 : ∀ m, m < 36 → gI b0 27 m = nI (D (m / 6) (m % 6))) (kx : Mm → Option (Int32 × Mm)) : ∃ b E, lq2 (F_X12_lays0_67 (nI k) kx) 1000000 0 b0 = kx b ∧ Off [27] σ b ∧ (∀ m, m < 36 → gI b 27 m = nI (E (m / 6) (m % 6))) ∧ FwI ln k 36 D E := by
  have q := lq2_inv (F := F_X12_lays0_67 (nI k) kx) (fun i => nI i) (fun j b => Off [27] σ b ∧ ∃ E, (∀ m, m < 36 → gI b 27 m = nI (E (m / 6) (m % 6))) ∧ FwI ln k j D E) 36 kx ?_ ?_ (n := 1000000) (b0 := b0) ⟨o0, D, g0, hD⟩ (by omega)
  · obtain ⟨b, ⟨b1, E, b2, b3⟩, e⟩ := q
    exact ⟨b, E, e, b1, b2, b3⟩
  · intro rec j b hj hb
    obtain ⟨b1, E, b2, b3⟩ := hb
    obtain ⟨x, ex⟩ : ∃ x, x = j / 6 := ⟨_, rfl⟩
    obtain ⟨y, ey⟩ : ∃ y, y = j % 6 := ⟨_, rfl⟩
    have hx : x < 6 := by omega
    have hy : y < 6 := by omega
    have hxy : 6 * x + y = j := by omega
    have d6 := dv6 j hj
    rw [← ex, ← ey] at d6
    have g1 : gI b 27 j = nI (E x y) := by rw [b2 j hj, ← ex, ← ey]
    have g2 : gI b 27 (6 * x + k) = nI (E x k) := by rw [b2 _ (by omega), show (6 * x + k) / 6 = x by omega, show (6 * x + k) % 6 = k by omega]
    have g3 : gI b 27 (6 * k + y) = nI (E k y) := by rw [b2 _ (by omega), show (6 * k + y) / 6 = k by omega, show (6 * k + y) % 6 = y by omega]
    have c1 := b3 x y hx hy
    have c2 := b3 x k hx hk
    have c3 := b3 k y hk hy
    obtain ⟨E', eE⟩ : ∃ E', E' = fun u v => if u = x ∧ v = y then min (E x y) (E x k + E k y) else E u v := ⟨_, rfl⟩
    have es : E' x y = min (E x y) (E x k + E k y) := by rw [eE]; exact if_pos ⟨rfl, rfl⟩
    have en : ∀ u v, ¬ (u = x ∧ v = y) → E' u v = E u v := fun u v h => by rw [eE]; exact if_neg h
    refine ⟨pI b 27 j (nI (min (E x y) (E x k + E k y))), ⟨b1.tr (Off.pI (by simp)), E', fun m hm => ?_, fun u v hu hv => ?_⟩, ?_⟩
    · rw [gI_pI]
      by_cases z : m = j
      · rw [if_pos ⟨rfl, z⟩, z, ← ex, ← ey, es]
      · rw [if_neg (fun w => z w.2), b2 m hm, en _ _ (fun w => by omega)]
    · by_cases z : u = x ∧ v = y
      · obtain ⟨z1, z2⟩ := z
        subst z1 z2
        rw [es]
        refine ⟨by omega, by omega, fun _ => by omega, ?_, fun h9 => ?_⟩
        · by_cases w : v = u
          · subst w; rw [es, c1.2.2.2.1]; omega
          · rw [en _ _ (fun q => w q.2.symm)]; exact c1.2.2.2.1
        · by_cases w : E u v ≤ E u k + E k v
          · rw [Nat.min_eq_left w] at h9 ⊢; exact c1.2.2.2.2 h9
          · rw [Nat.min_eq_right (by omega)] at h9 ⊢; exact wk_cat (c2.2.2.2.2 (by omega)) (c3.2.2.2.2 (by omega))
      · have c4 := b3 u v hu hv
        rw [en u v z]
        refine ⟨c4.1, c4.2.1, fun h => c4.2.2.1 (by omega), ?_, c4.2.2.2.2⟩
        by_cases w : u = x ∧ u = y
        · obtain ⟨w1, w2⟩ := w
          subst w1
          have : E' u u = min (E u u) (E u k + E k u) := by have := es; rw [← w2] at this; exact this
          rw [this, c4.2.2.2.1]; omega
        · rw [en u u w]; exact c4.2.2.2.1
    · unfold F_X12_lays0_67
      rw [if_pos (show nI j < 36 from nI_lt (a := j) (b := 36) hj (by omega)), ck_t (inb_nI hj (by omega)), d6.1, d6.2, show (6 : Int32) * nI x + nI k = nI (6 * x + k) by rw [show (6 : Int32) = nI 6 from rfl, pk_mul, nI_add], show (6 : Int32) * nI k + nI y = nI (6 * k + y) by rw [show (6 : Int32) = nI 6 from rfl, pk_mul, nI_add], bn_e, ck_t (inb_nI (show 6 * x + k < 36 by omega) (by omega)), bn_e, ck_t (inb_nI (show 6 * k + y < 36 by omega) (by omega)), ck_t (inb_nI hj (by omega)), nI_tn (show j < 2147483648 by omega), nI_tn (show 6 * x + k < 2147483648 by omega), nI_tn (show 6 * k + y < 2147483648 by omega), g1, g2, g3, nI_add, im_n (by omega) (by omega), bn_e, nI_1]
  · intro rec b hb
    unfold F_X12_lays0_67
    rw [if_neg (show ¬ nI 36 < 36 by decide)]
