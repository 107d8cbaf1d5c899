/-! both go the same way -/
theorem nxL_iff {σ : Mm} {t P a b : Nat} {ln : Nat → Nat → Option Nat} {D : Nat → Nat → Nat} (h : WyH σ t P ln D) (ha : a < P) (hb : b < P) : nxL ln D P a b = none ↔ (a = b ∨ ¬ D a b < 99) := by
  obtain ⟨s1, s2, s3, s4⟩ := h.sh ha hb
  have h6 := h.2.1
  constructor
  · intro e
    by_cases z : a = b
    · exact Or.inl z
    · by_cases y : D a b < 99
      · have d0 : ¬ D a b = 0 := fun q => z (s2.mp q)
        have := s1 y
        obtain ⟨v, k, _, n2, n3⟩ := (nx_iff (x := a) (L := D a b) h hb ha (by omega) (by omega) (Nat.le_refl _)).1 rfl
        unfold nxL at e
        rw [n2] at e
        have e : ln a v = none := e
        rw [n3] at e; cases e
      · exact Or.inr y
  · intro e
    rcases e with e | e
    · exact s3 (s2.mpr e)
    · exact s4 e
theorem m_next {τ : Mm} {P a b q : Nat} {ln : Nat → Nat → Option Nat} {D : Nat → Nat → Nat} (h6 : P ≤ 6) (ha : a < P) (hb : b < P) (m20 : gI τ 2 0 = nI P) (m27 : ∀ x y, x < 6 → y < 6 → gI τ 27 (6 * x + y) = nI (D x y)) (h99 : ∀ x y, x < 6 → y < 6 → D x y ≤ 99) (hl : ∀ x y, x < 6 → y < 6 → f_X12_laneOf 0 (nI x) (nI y) τ = some (oI (ln x y), τ)) (l8 : ∀ a b k, ln a b = some k → k < 8) (d0 : 0 < D a b) (e : nxY ln D P a b = some q) : f_X12_nextPlace (nI a) (nI b) τ = some (nI q, τ) := by
  unfold f_X12_nextPlace
  rw [jn_e2]
  have k := lq1_fst (F := F_X12_nextPlace_2 (nI a) (nI b) τ (some (-1, τ))) (fun y => decide (D y b + 1 = D a b) && (ln a y).isSome) 0 P (fun y => some (nI y, τ)) (some (-1, τ)) ?_ ?_ ?_ (n := 1000000) (by omega)
  · unfold nxY at e
    rw [e] at k
    exact k
  all_goals have t0 : (0 : Int32).toNatClampNeg = 0 := rfl
  all_goals have i0 : inb 0 8 = true := rfl
  · intro rec y _ hy hp
    have hy : y < P := by omega
    have hp : (decide (D y b + 1 = D a b) && (ln a y).isSome) = true := hp
    rw [Bool.and_eq_true] at hp
    have e1 := of_decide_eq_true hp.1
    have d9 := h99 a b (by omega) (by omega)
    unfold F_X12_nextPlace_2
    rw [ck_t i0, t0, m20, if_pos (nI_lt hy (by omega)), cl_of _ (hl a y (by omega) (by omega)), jn_e2]
    cases e2 : ln a y with
    | none => rw [e2] at hp; cases hp.2
    | some u =>
      have := l8 _ _ u e2
      rw [oI_some, if_neg (nI_pos (by omega)), show (6 : Int32) * nI y + nI b = nI (6 * y + b) by rw [show (6 : Int32) = nI 6 from rfl, pk_mul, nI_add], show (6 : Int32) * nI a + nI b = nI (6 * a + b) by rw [show (6 : Int32) = nI 6 from rfl, pk_mul, nI_add], bn_e, ck_t (inb_nI (show 6 * y + b < 36 by omega) (by omega)), bn_e, ck_t (inb_nI (show 6 * a + b < 36 by omega) (by omega)), nI_tn (show 6 * y + b < 2147483648 by omega), nI_tn (show 6 * a + b < 2147483648 by omega), m27 y b (by omega) (by omega), m27 a b (by omega) (by omega), show nI (D a b) - 1 = nI (D a b - 1) by rw [show (1 : Int32) = nI 1 from rfl, pk_sub (by omega)], if_pos (show nI (D y b) = nI (D a b - 1) by rw [← e1, Nat.add_sub_cancel])]
  · intro rec y _ hy hp
    have hy : y < P := by omega
    have hp : (decide (D y b + 1 = D a b) && (ln a y).isSome) = false := hp
    have d9 := h99 a b (by omega) (by omega)
    have d8 := h99 y b (by omega) (by omega)
    unfold F_X12_nextPlace_2
    rw [ck_t i0, t0, m20, if_pos (nI_lt hy (by omega)), cl_of _ (hl a y (by omega) (by omega)), jn_e2, nI_1]
    cases e2 : ln a y with
    | none => rw [oI_none, if_pos (by decide)]
    | some u =>
      have := l8 _ _ u e2
      rw [e2] at hp
      have ne : ¬ D y b + 1 = D a b := fun z => by rw [decide_eq_true z] at hp; cases hp
      rw [oI_some, if_neg (nI_pos (by omega)), show (6 : Int32) * nI y + nI b = nI (6 * y + b) by rw [show (6 : Int32) = nI 6 from rfl, pk_mul, nI_add], show (6 : Int32) * nI a + nI b = nI (6 * a + b) by rw [show (6 : Int32) = nI 6 from rfl, pk_mul, nI_add], bn_e, ck_t (inb_nI (show 6 * y + b < 36 by omega) (by omega)), bn_e, ck_t (inb_nI (show 6 * a + b < 36 by omega) (by omega)), nI_tn (show 6 * y + b < 2147483648 by omega), nI_tn (show 6 * a + b < 2147483648 by omega), m27 y b (by omega) (by omega), m27 a b (by omega) (by omega), show nI (D a b) - 1 = nI (D a b - 1) by rw [show (1 : Int32) = nI 1 from rfl, pk_sub (by omega)], if_neg (fun z => ne (by have := (nI_eq (by omega) (by omega)).mp z; omega))]
  · intro rec
    unfold F_X12_nextPlace_2
    rw [ck_t i0, t0, m20, Nat.zero_add, if_neg (fun z => Int32.lt_irrefl z)]
theorem wayX {σ μ : Mm} {t P : Nat} {ln : Nat → Nat → Option Nat} {D : Nat → Nat → Nat} {T : Tw} (h : WyH σ t P ln D) (hT : tP T = P) (hF : ∀ a b, a < P → b < P → tF T a b = nxL ln D P a b) (m20 : gI μ 2 0 = nI P) (m27 : ∀ x y, x < 6 → y < 6 → gI μ 27 (6 * x + y) = nI (D x y)) (hl : ∀ τ : Mm, (∀ x, x ∈ ([2, 5, 6, 27] : List Nat) → ∀ j, gI τ x j = gI μ x j) → ∀ x y, x < 6 → y < 6 → f_X12_laneOf 0 (nI x) (nI y) τ = some (oI (ln x y), τ)) : WayM μ T := by
  have h6 := h.2.1
  have l8 := h.2.2.2.2.1
  have h99 := h.2.2.2.2.2.2.2
  intro a b ha hb
  rw [hT] at ha hb
  have d9 := h99 a b (by omega) (by omega)
  refine ⟨?_, fun k hk => ?_⟩
  · rw [hF a b ha hb, nxL_iff h ha hb, m27 a b (by omega) (by omega)]
    have : nI (D a b) < 99 ↔ D a b < 99 := nI_ltI (b := 99) (by omega) (by omega)
    rw [this]
  · rw [hF a b ha hb] at hk
    have hk0 := hk
    unfold nxL at hk
    cases e : nxY ln D P a b with
    | none => rw [e] at hk; cases hk
    | some q =>
      rw [e] at hk
      have hk : ln a q = some k := hk
      obtain ⟨_, p2, p3, _⟩ := fst1_some e
      have p3 : (decide (D q b + 1 = D a b) && (ln a q).isSome) = true := p3
      rw [Bool.and_eq_true] at p3
      have d1 := of_decide_eq_true p3.1
      refine ⟨q, by omega, fun τ hτ => ⟨m_next h6 ha hb (by rw [hτ 2 (by simp)]; exact m20) (fun x y hx hy => by rw [hτ 27 (by simp)]; exact m27 x y hx hy) h99 (hl τ hτ) l8 (by omega) e, ?_⟩⟩
      rw [hl τ hτ a q (by omega) (by omega), hk]; rfl
