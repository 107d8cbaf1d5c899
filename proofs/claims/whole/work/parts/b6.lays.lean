/-! the town that was told is laid -/
theorem m_shifts {σ : Mm} {a m : Nat} (ha : isIA a = true) (hl : lenM a = 2 * m) (hm : m ≤ 1000) : ∃ τ, f_X12_shifts a (nI m) σ = some (0, τ) ∧ (∀ b k, b ≠ a → gI τ b k = gI σ b k) ∧ (∀ k, gI τ a k = if k < m then gI σ a (m + k) else gI σ a k) ∧ (∀ b k, gL τ b k = gL σ b k) ∧ (∀ b k, gR τ b k = gR σ b k) := by
  unfold f_X12_shifts
  rw [jn_e2]
  have q := lq2_inv (F := F_X12_shifts_2 a (nI m) (fun σ_21 => some (0, σ_21))) (fun i => nI i) (fun i b => (∀ c k, c ≠ a → gI b c k = gI σ c k) ∧ (∀ k, gI b a k = if k < i then gI σ a (m + k) else gI σ a k) ∧ (∀ c k, gL b c k = gL σ c k) ∧ (∀ c k, gR b c k = gR σ c k)) m (fun σ_21 => some (0, σ_21)) ?_ ?_ (n := 1000000) (b0 := σ) ⟨fun _ _ _ => rfl, fun k => by rw [if_neg (by omega)], fun _ _ => rfl, fun _ _ => rfl⟩ (by omega)
  · obtain ⟨b, ⟨b1, b2, b3, b4⟩, e⟩ := q
    exact ⟨b, e, b1, b2, b3, b4⟩
  · intro rec i b hi hb
    obtain ⟨b1, b2, b3, b4⟩ := hb
    refine ⟨pI b a i (gI σ a (m + i)), ⟨fun c k hc => by rw [gI_pI_n (Or.inl hc)]; exact b1 c k hc, fun k => ?_, fun c k => by rw [gL_pI]; exact b3 c k, fun c k => b4 c k⟩, ?_⟩
    · rw [gI_pI]
      by_cases z : k = i
      · rw [if_pos ⟨rfl, z⟩, if_pos (by omega), z]
      · rw [if_neg (fun y => z y.2), b2]
        by_cases y : k < i
        · rw [if_pos y, if_pos (by omega)]
        · rw [if_neg y, if_neg (by omega)]
    · unfold F_X12_shifts_2
      rw [if_pos (nI_lt hi (by omega)), bn_e, nI_add, ck_t ha, hl, ck_t (inb_nI (show m + i < 2 * m by omega) (by omega)), ck_t (inb_nI (show i < 2 * m by omega) (by omega)), nI_tn (show i < 2147483648 by omega), nI_tn (show m + i < 2147483648 by omega), bn_e, b2, if_neg (by omega), nI_1]
  · intro rec b hb
    unfold F_X12_shifts_2
    rw [if_neg (fun z => Int32.lt_irrefl z)]
theorem m_shiftsN {σ : Mm} {a m : Nat} (ha : isLA a = true) (hl : lenM a = 2 * m) (hm : m ≤ 1000) : ∃ τ, f_X12_shiftsNames a (nI m) σ = some (0, τ) ∧ (∀ b k, gI τ b k = gI σ b k) ∧ (∀ b k, b ≠ a → gL τ b k = gL σ b k) ∧ (∀ k, gL τ a k = if k < m then gL σ a (m + k) else gL σ a k) ∧ (∀ b k, gR τ b k = gR σ b k) := by
  unfold f_X12_shiftsNames
  rw [jn_e2]
  have q := lq2_inv (F := F_X12_shiftsNames_2 a (nI m) (fun σ_21 => some (0, σ_21))) (fun i => nI i) (fun i b => (∀ c k, gI b c k = gI σ c k) ∧ (∀ c k, c ≠ a → gL b c k = gL σ c k) ∧ (∀ k, gL b a k = if k < i then gL σ a (m + k) else gL σ a k) ∧ (∀ c k, gR b c k = gR σ c k)) m (fun σ_21 => some (0, σ_21)) ?_ ?_ (n := 1000000) (b0 := σ) ⟨fun _ _ => rfl, fun _ _ _ => rfl, fun k => by rw [if_neg (by omega)], fun _ _ => rfl⟩ (by omega)
  · obtain ⟨b, ⟨b1, b2, b3, b4⟩, e⟩ := q
    exact ⟨b, e, b1, b2, b3, b4⟩
  · intro rec i b hi hb
    obtain ⟨b1, b2, b3, b4⟩ := hb
    refine ⟨pL b a i (gL σ a (m + i)), ⟨fun c k => by rw [gI_pL]; exact b1 c k, fun c k hc => by rw [gL_pL_n (Or.inl hc)]; exact b2 c k hc, fun k => ?_, fun c k => b4 c k⟩, ?_⟩
    · rw [gL_pL]
      by_cases z : k = i
      · rw [if_pos ⟨rfl, z⟩, if_pos (by omega), z]
      · rw [if_neg (fun y => z y.2), b3]
        by_cases y : k < i
        · rw [if_pos y, if_pos (by omega)]
        · rw [if_neg y, if_neg (by omega)]
    · unfold F_X12_shiftsNames_2
      rw [if_pos (nI_lt hi (by omega)), bn_e, nI_add, ck_t ha, hl, ck_t (inb_nI (show m + i < 2 * m by omega) (by omega)), ck_t (inb_nI (show i < 2 * m by omega) (by omega)), nI_tn (show i < 2147483648 by omega), nI_tn (show m + i < 2147483648 by omega), bn_e, b3, if_neg (by omega), nI_1]
  · intro rec b hb
    unfold F_X12_shiftsNames_2
    rw [if_neg (fun z => Int32.lt_irrefl z)]
/-- a relation of two memories: from the arrays in S on, row one stands in row zero too -/
def Shf (I L : List Nat) (σ τ : Mm) : Prop := (∀ a k, a ∉ I → gI τ a k = gI σ a k) ∧ (∀ a k, a ∈ I → gI τ a k = if k < r0M a then gI σ a (r0M a + k) else gI σ a k) ∧ (∀ a k, a ∉ L → gL τ a k = gL σ a k) ∧ (∀ a k, a ∈ L → gL τ a k = if k < 6 then gL σ a (6 + k) else gL σ a k) ∧ (∀ a k, gR τ a k = gR σ a k)
theorem Shf.i {I L : List Nat} {σ τ υ : Mm} {a : Nat} (h : Shf I L σ τ) (ha : a ∉ I) (e1 : ∀ b k, b ≠ a → gI υ b k = gI τ b k) (e2 : ∀ k, gI υ a k = if k < r0M a then gI τ a (r0M a + k) else gI τ a k) (e3 : ∀ b k, gL υ b k = gL τ b k) (e4 : ∀ b k, gR υ b k = gR τ b k) : Shf (a :: I) L σ υ := by
  obtain ⟨h1, h2, h3, h4, h5⟩ := h
  refine ⟨fun b k hb => ?_, fun b k hb => ?_, fun b k hb => by rw [e3]; exact h3 b k hb, fun b k hb => by rw [e3]; exact h4 b k hb, fun b k => by rw [e4]; exact h5 b k⟩
  · rw [e1 b k (fun z => hb (by rw [z]; exact List.mem_cons_self))]; exact h1 b k (fun z => hb (List.mem_cons_of_mem _ z))
  · by_cases z : b = a
    · rw [z, e2, h1 a _ ha, h1 a _ ha]
    · rw [e1 b k z]; exact h2 b k ((List.mem_cons.mp hb).resolve_left z)
theorem Shf.l {I L : List Nat} {σ τ υ : Mm} {a : Nat} (h : Shf I L σ τ) (ha : a ∉ L) (e1 : ∀ b k, gI υ b k = gI τ b k) (e2 : ∀ b k, b ≠ a → gL υ b k = gL τ b k) (e3 : ∀ k, gL υ a k = if k < 6 then gL τ a (6 + k) else gL τ a k) (e4 : ∀ b k, gR υ b k = gR τ b k) : Shf I (a :: L) σ υ := by
  obtain ⟨h1, h2, h3, h4, h5⟩ := h
  refine ⟨fun b k hb => by rw [e1]; exact h1 b k hb, fun b k hb => by rw [e1]; exact h2 b k hb, fun b k hb => ?_, fun b k hb => ?_, fun b k => by rw [e4]; exact h5 b k⟩
  · rw [e2 b k (fun z => hb (by rw [z]; exact List.mem_cons_self))]; exact h3 b k (fun z => hb (List.mem_cons_of_mem _ z))
  · by_cases z : b = a
    · rw [z, e3, h3 a _ ha, h3 a _ ha]
    · rw [e2 b k z]; exact h4 b k ((List.mem_cons.mp hb).resolve_left z)
theorem m_lays (σ : Mm) : ∃ τ υ, f_X12_lays σ = some (0, υ) ∧ Shf [14, 11, 10, 9, 8, 7, 6, 5, 2] [4, 3] σ τ ∧ υ = pI (pI τ 12 0 (gI σ 12 1 - 1000)) 13 0 (gI σ 13 1 - 1000) := by
  have s0 : Shf [] [] σ σ := ⟨fun _ _ _ => rfl, fun a k h => by simp at h, fun _ _ _ => rfl, fun a k h => by simp at h, fun _ _ => rfl⟩
  obtain ⟨τ1, a1, b1, c1, d1, e1⟩ := m_shifts (σ := σ) (a := 2) (m := 4) rfl rfl (by omega)
  have s1 := s0.i (a := 2) (by simp) b1 c1 d1 e1
  obtain ⟨τ2, a2, b2, c2, d2, e2⟩ := m_shiftsN (σ := τ1) (a := 3) (m := 6) rfl rfl (by omega)
  have s2 := s1.l (a := 3) (by simp) b2 c2 d2 e2
  obtain ⟨τ3, a3, b3, c3, d3, e3⟩ := m_shiftsN (σ := τ2) (a := 4) (m := 6) rfl rfl (by omega)
  have s3 := s2.l (a := 4) (by simp) b3 c3 d3 e3
  obtain ⟨τ4, a4, b4, c4, d4, e4⟩ := m_shifts (σ := τ3) (a := 5) (m := 8) rfl rfl (by omega)
  have s4 := s3.i (a := 5) (by simp) b4 c4 d4 e4
  obtain ⟨τ5, a5, b5, c5, d5, e5⟩ := m_shifts (σ := τ4) (a := 6) (m := 8) rfl rfl (by omega)
  have s5 := s4.i (a := 6) (by simp) b5 c5 d5 e5
  obtain ⟨τ6, a6, b6, c6, d6, e6⟩ := m_shifts (σ := τ5) (a := 7) (m := 8) rfl rfl (by omega)
  have s6 := s5.i (a := 7) (by simp) b6 c6 d6 e6
  obtain ⟨τ7, a7, b7, c7, d7, e7⟩ := m_shifts (σ := τ6) (a := 8) (m := 6) rfl rfl (by omega)
  have s7 := s6.i (a := 8) (by simp) b7 c7 d7 e7
  obtain ⟨τ8, a8, b8, c8, d8, e8⟩ := m_shifts (σ := τ7) (a := 9) (m := 6) rfl rfl (by omega)
  have s8 := s7.i (a := 9) (by simp) b8 c8 d8 e8
  obtain ⟨τ9, a9, b9, c9, d9, e9⟩ := m_shifts (σ := τ8) (a := 10) (m := 6) rfl rfl (by omega)
  have s9 := s8.i (a := 10) (by simp) b9 c9 d9 e9
  obtain ⟨τA, aA, bA, cA, dA, eA⟩ := m_shifts (σ := τ9) (a := 11) (m := 6) rfl rfl (by omega)
  have sA := s9.i (a := 11) (by simp) bA cA dA eA
  obtain ⟨τB, aB, bB, cB, dB, eB⟩ := m_shifts (σ := τA) (a := 14) (m := 1000) rfl rfl (by omega)
  have sB := sA.i (a := 14) (by simp) bB cB dB eB
  have a1 : f_X12_shifts 2 4 σ = _ := a1
  have a2 : f_X12_shiftsNames 3 6 τ1 = _ := a2
  have a3 : f_X12_shiftsNames 4 6 τ2 = _ := a3
  have a4 : f_X12_shifts 5 8 τ3 = _ := a4
  have a5 : f_X12_shifts 6 8 τ4 = _ := a5
  have a6 : f_X12_shifts 7 8 τ5 = _ := a6
  have a7 : f_X12_shifts 8 6 τ6 = _ := a7
  have a8 : f_X12_shifts 9 6 τ7 = _ := a8
  have a9 : f_X12_shifts 10 6 τ8 = _ := a9
  have aA : f_X12_shifts 11 6 τ9 = _ := aA
  have aB : f_X12_shifts 14 1000 τA = _ := aB
  refine ⟨τB, _, ?_, sB, rfl⟩
  unfold f_X12_lays
  have i1 : inb 1 2 = true := rfl
  have i0 : inb 0 2 = true := rfl
  rw [cl_of _ a1, cl_of _ a2, cl_of _ a3, cl_of _ a4, cl_of _ a5, cl_of _ a6, cl_of _ a7, cl_of _ a8, cl_of _ a9, cl_of _ aA, cl_of _ aB, ck_t i1, ck_t i0, bn_e, ck_t i1, ck_t i0, bn_e, show (0 : Int32).toNatClampNeg = 0 from rfl, show (1 : Int32).toNatClampNeg = 1 from rfl, gI_pI_n (Or.inl (by decide)), sB.1 12 1 (by simp), sB.1 13 1 (by simp)]
