theorem fst1_shift {p q : Nat → Bool} {c : Nat} (h : ∀ j, p (c + j) = q j) : ∀ d i, fst1 p (c + i) d = (fst1 q i d).map (fun k => c + k) := by
  intro d
  induction d with
  | zero => intro i; rfl
  | succ d ih =>
    intro i
    simp only [fst1, h i]
    by_cases hq : q i = true
    · simp [hq]
    · have := ih (i + 1)
      rw [← Nat.add_assoc] at this
      simp only [hq]
      exact this
/-! the town's small questions: class and model -/
def lanP (A B : Nat → Int32) (a b : Int32) (k : Nat) : Bool := decide (A k = a ∧ B k = b ∨ A k = b ∧ B k = a)
def lnB (A B : Nat → Int32) (L : Nat) (a b : Int32) : Int32 := match fst1 (lanP A B a b) 0 L with
  | some k => nI k
  | none => -1
theorem s_laneBetween {σ : Mm} {t L : Nat} (ht : isTown t = true) (hL : gI σ t 1 = nI L) (hL8 : L ≤ 8) (a b : Int32) : f_X9_laneBetween t a b σ = some (lnB (gI σ (t + 5)) (gI σ (t + 6)) L a b, σ) := by
  unfold f_X9_laneBetween
  rw [ck_t ht, jn_e]
  have h := lq1_fst (F := F_X9_laneBetween_2 t a b σ (some (-1, σ))) (lanP (gI σ (t + 5)) (gI σ (t + 6)) a b) 0 L (fun i => some (nI i, σ)) (some (-1, σ)) ?_ ?_ ?_ (n := 1000000) (by omega)
  · rw [show (0 : Int32) = nI 0 from rfl, h]
    unfold lnB
    cases fst1 (lanP (gI σ (t + 5)) (gI σ (t + 6)) a b) 0 L <;> rfl
  · intro rec i _ hi hp
    have h1 : nI i < gI σ t 1 := by rw [hL]; exact nI_lt (by omega) (by omega)
    have hp := of_decide_eq_true hp
    simp only [F_X9_laneBetween_2, if_pos h1, ck_t (inb_nI (show i < 8 by omega) (by omega)), jn_e, nI_tn (show i < 2147483648 by omega)]
    rcases hp with ⟨p1, p2⟩ | ⟨p1, p2⟩
    · simp [p1, p2]
    · simp [p1, p2]
  · intro rec i _ hi hp
    have h1 : nI i < gI σ t 1 := by rw [hL]; exact nI_lt (by omega) (by omega)
    have hp := of_decide_eq_false hp
    simp only [F_X9_laneBetween_2, if_pos h1, ck_t (inb_nI (show i < 8 by omega) (by omega)), jn_e, nI_tn (show i < 2147483648 by omega), nI_1]
    by_cases q1 : gI σ (t + 5) i = a
    · by_cases q2 : gI σ (t + 6) i = b
      · exact absurd (Or.inl ⟨q1, q2⟩) hp
      · by_cases q3 : gI σ (t + 5) i = b
        · by_cases q4 : gI σ (t + 6) i = a
          · exact absurd (Or.inr ⟨q3, q4⟩) hp
          · rw [if_pos q1, if_neg q2, if_pos q3, if_neg q4]
        · rw [if_pos q1, if_neg q2, if_neg q3]
    · by_cases q3 : gI σ (t + 5) i = b
      · by_cases q4 : gI σ (t + 6) i = a
        · exact absurd (Or.inr ⟨q3, q4⟩) hp
        · rw [if_neg q1, if_pos q3, if_neg q4]
      · rw [if_neg q1, if_neg q3]
  · intro rec
    have h1 : ¬ nI (0 + L) < gI σ t 1 := by rw [hL, Nat.zero_add]; exact nI_nlt (Nat.le_refl _) (by omega)
    simp only [F_X9_laneBetween_2, if_neg h1]
theorem s_has {σ : Mm} {t : Nat} (ht : isTown t = true) (x : Int32) : f_X9_hasPlace t x σ = some (if ¬ x < 0 ∧ x < gI σ t 0 then 1 else 0, σ) ∧ f_X9_hasLane t x σ = some (if ¬ x < 0 ∧ x < gI σ t 1 then 1 else 0, σ) ∧ f_X9_hasWalker t x σ = some (if ¬ x < 0 ∧ x < gI σ t 2 then 1 else 0, σ) := by
  refine ⟨?_, ?_, ?_⟩
  · unfold f_X9_hasPlace
    rw [ck_t ht, jn_e]
    by_cases h1 : x < 0
    · simp [h1]
    · by_cases h2 : x < gI σ t 0 <;> simp [h1, h2]
  · unfold f_X9_hasLane
    rw [ck_t ht, jn_e]
    by_cases h1 : x < 0
    · simp [h1]
    · by_cases h2 : x < gI σ t 1 <;> simp [h1, h2]
  · unfold f_X9_hasWalker
    rw [ck_t ht, jn_e]
    by_cases h1 : x < 0
    · simp [h1]
    · by_cases h2 : x < gI σ t 2 <;> simp [h1, h2]
theorem m_laneOf {σ : Mm} {r L : Nat} (hr : r ≤ 1) (hL : gI σ 2 (4 * r + 1) = nI L) (hL8 : L ≤ 8) (a b : Int32) : f_X12_laneOf (nI r) a b σ = some (lnB (fun k => gI σ 5 (8 * r + k)) (fun k => gI σ 6 (8 * r + k)) L a b, σ) := by
  unfold f_X12_laneOf
  have e8 : (8 : Int32) * nI r = nI (8 * r) := by rw [show (8 : Int32) = nI 8 from rfl, pk_mul]
  have e4 : (4 : Int32) * nI r + 1 = nI (4 * r + 1) := by rw [show (4 : Int32) = nI 4 from rfl, pk_mul, nI_1]
  rw [bn_e, jn_e, e8]
  have h := lq1_fst (F := F_X12_laneOf_6 (nI r) a b σ (some (-1, σ))) (fun k => lanP (gI σ 5) (gI σ 6) a b k) (8 * r) L (fun i => some (nI (i - 8 * r), σ)) (some (-1, σ)) ?_ ?_ ?_ (n := 1000000) (by omega)
  · rw [h]
    have key := fun d i => fst1_shift (c := 8 * r) (p := lanP (gI σ 5) (gI σ 6) a b) (q := lanP (fun k => gI σ 5 (8 * r + k)) (fun k => gI σ 6 (8 * r + k)) a b) (fun j => rfl) d i
    have k0 := key L 0
    rw [Nat.add_zero] at k0
    unfold lnB
    show (match fst1 (lanP (gI σ 5) (gI σ 6) a b) (8 * r) L with | some k => some (nI (k - 8 * r), σ) | none => some (-1, σ)) = _
    rw [k0]
    cases fst1 (lanP (fun k => gI σ 5 (8 * r + k)) (fun k => gI σ 6 (8 * r + k)) a b) 0 L with
    | none => rfl
    | some k => simp
  · intro rec i hb hi hp
    have h1 : nI i < nI (8 * r) + nI L := by rw [nI_add]; exact nI_lt (by omega) (by omega)
    have hp := of_decide_eq_true hp
    have h2 : nI i - nI (8 * r) = nI (i - 8 * r) := pk_sub hb
    simp only [F_X12_laneOf_6, bn_e, e4, e8, nI_tn (show 4 * r + 1 < 2147483648 by omega), ck_t (inb_nI (show 4 * r + 1 < 8 by omega) (by omega)), hL, if_pos h1, ck_t (inb_nI (show i < 16 by omega) (by omega)), jn_e, nI_tn (show i < 2147483648 by omega), h2]
    rcases hp with ⟨p1, p2⟩ | ⟨p1, p2⟩
    · simp [p1, p2]
    · simp [p1, p2]
  · intro rec i hb hi hp
    have h1 : nI i < nI (8 * r) + nI L := by rw [nI_add]; exact nI_lt (by omega) (by omega)
    have hp := of_decide_eq_false hp
    simp only [F_X12_laneOf_6, bn_e, e4, e8, nI_tn (show 4 * r + 1 < 2147483648 by omega), ck_t (inb_nI (show 4 * r + 1 < 8 by omega) (by omega)), hL, if_pos h1, ck_t (inb_nI (show i < 16 by omega) (by omega)), jn_e, nI_tn (show i < 2147483648 by omega), nI_1]
    by_cases q1 : gI σ 5 i = a
    · by_cases q2 : gI σ 6 i = b
      · exact absurd (Or.inl ⟨q1, q2⟩) hp
      · by_cases q3 : gI σ 5 i = b
        · by_cases q4 : gI σ 6 i = a
          · exact absurd (Or.inr ⟨q3, q4⟩) hp
          · rw [if_pos q1, if_neg q2, if_pos q3, if_neg q4]
        · rw [if_pos q1, if_neg q2, if_neg q3]
    · by_cases q3 : gI σ 5 i = b
      · by_cases q4 : gI σ 6 i = a
        · exact absurd (Or.inr ⟨q3, q4⟩) hp
        · rw [if_neg q1, if_pos q3, if_neg q4]
      · rw [if_neg q1, if_neg q3]
  · intro rec
    have h1 : ¬ nI (8 * r + L) < nI (8 * r) + nI L := by rw [nI_add]; exact nI_nlt (Nat.le_refl _) (by omega)
    simp only [F_X12_laneOf_6, bn_e, e4, e8, nI_tn (show 4 * r + 1 < 2147483648 by omega), ck_t (inb_nI (show 4 * r + 1 < 8 by omega) (by omega)), hL, if_neg h1]
