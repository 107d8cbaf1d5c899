/-! a town, a night in the reference's memory -/
theorem a3 (w : Nat) : (3 : Int32) + nI w = nI (3 + w) := by rw [show (3 : Int32) = nI 3 from rfl, nI_add]
theorem a11 (w : Nat) : (11 : Int32) + nI w = nI (11 + w) := by rw [show (11 : Int32) = nI 11 from rfl, nI_add]
theorem a17 (w : Nat) : (17 : Int32) + nI w = nI (17 + w) := by rw [show (17 : Int32) = nI 17 from rfl, nI_add]
theorem a23 (w : Nat) : (23 : Int32) + nI w = nI (23 + w) := by rw [show (23 : Int32) = nI 23 from rfl, nI_add]
theorem a29 (w : Nat) : (29 : Int32) + nI w = nI (29 + w) := by rw [show (29 : Int32) = nI 29 from rfl, nI_add]
theorem a35 (w : Nat) : (35 : Int32) + nI w = nI (35 + w) := by rw [show (35 : Int32) = nI 35 from rfl, nI_add]
theorem b6 (a b : Nat) : (6 : Int32) * nI a + nI b = nI (6 * a + b) := by rw [show (6 : Int32) = nI 6 from rfl, pk_mul, nI_add]
def lawM : List Nat := [17, 18, 19, 20, 21, 22, 23, 24, 25, 26]
/-- the lane one goes next, and the way's end -/
def WayM (σ : Mm) (T : Tw) : Prop := ∀ a b, a < tP T → b < tP T → (tF T a b = none ↔ (a = b ∨ ¬ gI σ 27 (6 * a + b) < 99)) ∧ ∀ k, tF T a b = some k → ∃ q, q < tP T ∧ ∀ τ : Mm, (∀ x, x ∈ ([2, 5, 6, 27] : List Nat) → ∀ j, gI τ x j = gI σ x j) → f_X12_nextPlace (nI a) (nI b) τ = some (nI q, τ) ∧ f_X12_laneOf 0 (nI a) (nI q) τ = some (nI k, τ)
def LawM (σ : Mm) (T : Tw) : Prop := ∀ τ : Mm, (∀ x, x ∈ ([7, 12, 13, 14] : List Nat) → ∀ j, gI τ x j = gI σ x j) → ∀ k, k < tL T → ∀ p2 p3, ∃ υ, f_X12_burnsBy (nI k) p2 p3 τ = some (imx p2 (nI (tE T (tT T k + gI τ 0 56) p2 p3 (gI τ 36 0))), υ) ∧ Off lawM τ υ
def TM (σ : Mm) (T : Tw) : Prop := gI σ 2 0 = nI (tP T) ∧ gI σ 2 1 = nI (tL T) ∧ gI σ 2 2 = nI (tW T) ∧ gI σ 2 3 = tC T ∧ (∀ k, k < tL T → gI σ 5 k = nI (tA T k) ∧ gI σ 6 k = nI (tB T k) ∧ gI σ 7 k = tT T k) ∧ (∀ w, w < tW T → gI σ 8 w = tK T w ∧ gI σ 9 w = nI (tS T w) ∧ gI σ 10 w = nI (tG T w) ∧ gI σ 11 w = tM T w) ∧ WayM σ T ∧ LawM σ T
theorem TM.off {σ τ : Mm} {T : Tw} {S : List Nat} (h : TM σ T) (o : Off S σ τ) (hs : ∀ a, a ∈ S → a = 0 ∨ (14 < a ∧ a ≠ 27)) : TM τ T := by
  obtain ⟨h1, h2, h3, h4, h5, h6, h7, h8⟩ := h
  have q : ∀ a, (0 < a ∧ a ≤ 14) ∨ a = 27 → ∀ k, gI τ a k = gI σ a k := fun a ha k => o.1 _ (fun hm => by have := hs _ hm; omega) k
  refine ⟨by rw [q 2 (by omega)]; exact h1, by rw [q 2 (by omega)]; exact h2, by rw [q 2 (by omega)]; exact h3, by rw [q 2 (by omega)]; exact h4, fun k hk => ?_, fun w hw => ?_, fun a b ha hb => ?_, fun υ e => ?_⟩
  · rw [q 5 (by omega), q 6 (by omega), q 7 (by omega)]; exact h5 k hk
  · rw [q 8 (by omega), q 9 (by omega), q 10 (by omega), q 11 (by omega)]; exact h6 w hw
  · obtain ⟨w1, w2⟩ := h7 a b ha hb
    refine ⟨by rw [q 27 (by omega)]; exact w1, fun k hk => ?_⟩
    obtain ⟨q', w3, w4⟩ := w2 k hk
    refine ⟨q', w3, fun υ e => w4 υ (fun x hx j => ?_)⟩
    rw [e x hx j]
    apply q
    simp only [List.mem_cons, List.not_mem_nil, or_false] at hx
    omega
  · refine h8 υ (fun x hx j => ?_)
    rw [e x hx j]
    apply q
    simp only [List.mem_cons, List.not_mem_nil, or_false] at hx
    omega
/-- where one stands -/
def atN (T : Tw) (N : Nt) (w : Nat) : Nat := if nE N w = 1 then (match tF T (nB N w) (nG N w) with | some k => othE T k (nB N w) | none => nB N w) else nB N w
def WM (σ : Mm) (T : Tw) (N : Nt) (w : Nat) : Prop := (((gI σ 0 57) >>> (nI w &&& 31)) &&& 1 = 0 ∧ tF T (nB N w) (nG N w) = none ∧ nE N w = 0) ∨ (¬ ((gI σ 0 57) >>> (nI w &&& 31)) &&& 1 = 0 ∧ gI σ 36 (11 + w) = nI (atN T N w) ∧ gI σ 36 (17 + w) = nI (nG N w) ∧ gI σ 36 (23 + w) = nS N w ∧ gI σ 36 (29 + w) = nI (nE N w) ∧ (0 < nE N w → ∀ k, tF T (nB N w) (nG N w) = some k → gI σ 36 (35 + w) = nI k))
def RM (σ : Mm) (T : Tw) (N : Nt) : Prop := gI σ 36 0 = nT N ∧ gI σ 36 1 = nP N ∧ gI σ 36 2 = nD N ∧ (∀ k, k < 8 → gI σ 36 (3 + k) = nI (nL N k)) ∧ ∀ w, w < tW T → WM σ T N w
theorem atN_0 {T : Tw} {N : Nt} {w : Nat} (h : nE N w = 0) : atN T N w = nB N w := by unfold atN; rw [if_neg (by omega)]
theorem m_isHome {σ : Mm} {T : Tw} {N : Nt} {w : Nat} (hm : TM σ T) (hT : TwOk T) (hN : NtOk T N) (hw : w < tW T) (r : WM σ T N w) : f_X12_isHome (nI w) σ = some ((if homeN T N w then 1 else 0), σ) := by
  have hW := hT.2.2.1
  have hP := hT.1
  obtain ⟨c1, c2, c3, c4⟩ := hN.2 w hw
  unfold f_X12_isHome
  simp only [jn_e, bn_e, a29, a11, a17, b6]
  rcases r with ⟨r1, r2, r3⟩ | ⟨r1, r2, r3, r4, r5, r6⟩
  · rw [if_pos r1]
    unfold homeN
    rw [r2]; rfl
  · rw [if_neg r1, ck_t (inb_nI (show 29 + w < 41 by omega) (by omega))]
    simp only [nI_tn (show 29 + w < 2147483648 by omega), nI_tn (show 11 + w < 2147483648 by omega), nI_tn (show 17 + w < 2147483648 by omega), r5, ck_t (inb_nI (show 11 + w < 41 by omega) (by omega)), ck_t (inb_nI (show 17 + w < 41 by omega) (by omega)), r2, r3]
    by_cases e : nE N w = 0
    · rw [atN_0 e, e]
      have w1 := (hm.2.2.2.2.2.2.1 _ _ c1 c2).1
      rw [if_pos (show nI 0 = 0 from rfl)]
      unfold homeN
      by_cases e2 : nB N w = nG N w
      · rw [if_pos (by rw [e2]), w1.mpr (Or.inl e2)]; rfl
      · rw [if_neg (fun z => e2 ((nI_eq (by omega) (by omega)).mp z)), b6, ck_t (inb_nI (show 6 * nB N w + nG N w < 36 by omega) (by omega)), nI_tn (show 6 * nB N w + nG N w < 2147483648 by omega)]
        by_cases e3 : gI σ 27 (6 * nB N w + nG N w) < 99
        · rw [if_pos e3]
          cases e4 : tF T (nB N w) (nG N w) with
          | none => rcases w1.mp e4 with z | z
                    · exact absurd z e2
                    · exact absurd e3 z
          | some k => rfl
        · rw [if_neg e3, w1.mpr (Or.inr e3)]; rfl
    · obtain ⟨-, k, hk⟩ := c4 (by omega)
      rw [if_neg (show ¬ nI (nE N w) = 0 from fun z => e ((nI_eq (a := nE N w) (b := 0) (by omega) (by omega)).mp z))]
      unfold homeN
      rw [hk]; rfl
theorem m_isOut {σ : Mm} {T : Tw} {N : Nt} {w : Nat} (hm : TM σ T) (hT : TwOk T) (hN : NtOk T N) (hw : w < tW T) (ht : gI σ 36 0 = nT N) (r : WM σ T N w) : f_X12_isOut (nI w) σ = some ((if outN T N w then 1 else 0), σ) := by
  have hW := hT.2.2.1
  unfold f_X12_isOut
  rw [cl_of _ (m_isHome hm hT hN hw r)]
  simp only [jn_e, bn_e, a23]
  unfold outN lnA homeN
  cases e : tF T (nB N w) (nG N w) with
  | none =>
    simp only [ite_self]
    rfl
  | some k =>
    rcases r with ⟨r1, r2, r3⟩ | ⟨r1, r2, r3, r4, r5, r6⟩
    · rw [e] at r2; exact absurd r2 (by simp)
    · have n0 : (0 : Int32).toNatClampNeg = 0 := rfl
      rw [if_pos (show (if (some k).isNone = true then (1 : Int32) else 0) = 0 from rfl), ck_t (show inb 0 41 = true from rfl), ck_t (inb_nI (show 23 + w < 41 by omega) (by omega)), nI_tn (show 23 + w < 2147483648 by omega), r4, n0, ht]
      by_cases e2 : nT N < nS N w
      · rw [if_pos e2, if_pos e2]; rfl
      · rw [if_neg e2, if_neg e2]; rfl
theorem m_lanesAhead {σ : Mm} {T : Tw} {N : Nt} {w k : Nat} (hm : TM σ T) (hT : TwOk T) (hN : NtOk T N) (hw : w < tW T) (r : WM σ T N w) (e : tF T (nB N w) (nG N w) = some k) : f_X12_lanesAhead (nI w) σ = some (nI k, σ) := by
  have hW := hT.2.2.1
  obtain ⟨c1, c2, c3, c4⟩ := hN.2 w hw
  unfold f_X12_lanesAhead
  simp only [jn_e, bn_e, a29, a11, a17, a35]
  rcases r with ⟨r1, r2, r3⟩ | ⟨r1, r2, r3, r4, r5, r6⟩
  · rw [e] at r2; exact absurd r2 (by simp)
  · simp only [ck_t (inb_nI (show 29 + w < 41 by omega) (by omega)), nI_tn (show 29 + w < 2147483648 by omega), nI_tn (show 11 + w < 2147483648 by omega), nI_tn (show 17 + w < 2147483648 by omega), nI_tn (show 35 + w < 2147483648 by omega), r5, ck_t (inb_nI (show 11 + w < 41 by omega) (by omega)), ck_t (inb_nI (show 17 + w < 41 by omega) (by omega)), ck_t (inb_nI (show 35 + w < 41 by omega) (by omega)), r2, r3]
    by_cases e1 : 0 < nE N w
    · rw [if_pos ((nI_gt0 (by omega)).mpr e1), r6 e1 k e]
    · rw [if_neg (fun z => e1 ((nI_gt0 (by omega)).mp z)), atN_0 (by omega)]
      obtain ⟨q, q1, q2⟩ := (hm.2.2.2.2.2.2.1 _ _ c1 c2).2 k e
      obtain ⟨q3, q4⟩ := q2 σ (fun _ _ _ => rfl)
      rw [cl_of _ q3, cl_of _ q4]
