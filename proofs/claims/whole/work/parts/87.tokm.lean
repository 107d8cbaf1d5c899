/-! the reference's tokens -/
def Fm (σ τ : Mm) : Prop := (∀ a, a ≠ 0 → ∀ k, gI τ a k = gI σ a k) ∧ (∀ j, j ≠ 4 → j ≠ 5 → j ≠ 6 → j ≠ 8 → gI τ 0 j = gI σ 0 j) ∧ (∀ a k, ¬ (a = 0 ∧ k = 7) → gL τ a k = gL σ a k) ∧ (∀ a k, gR τ a k = gR σ a k)
theorem Fm.rf {σ : Mm} : Fm σ σ := ⟨fun _ _ _ => rfl, fun _ _ _ _ _ => rfl, fun _ _ _ => rfl, fun _ _ => rfl⟩
theorem Fm.tr {σ τ υ : Mm} (h : Fm σ τ) (g : Fm τ υ) : Fm σ υ := ⟨fun b hb k => (g.1 b hb k).trans (h.1 b hb k), fun j a b c d => (g.2.1 j a b c d).trans (h.2.1 j a b c d), fun a k z => (g.2.2.1 a k z).trans (h.2.2.1 a k z), fun b k => (g.2.2.2 b k).trans (h.2.2.2 b k)⟩
theorem Fm.pI {σ : Mm} {k : Nat} {v : Int32} (h : k = 4 ∨ k = 5 ∨ k = 6 ∨ k = 8) : Fm σ (pI σ 0 k v) := ⟨fun b hb j => gI_pI_n (Or.inl hb), fun j a b c d => gI_pI_n (Or.inr (by omega)), fun _ _ _ => rfl, fun _ _ => rfl⟩
theorem Fm.pL {σ : Mm} {v : Int64} : Fm σ (pL σ 0 7 v) := ⟨fun _ _ _ => rfl, fun _ _ _ _ _ => rfl, fun a k z => by rw [gL_pL, if_neg z], fun _ _ => rfl⟩
theorem TPm.fm {σ τ : Mm} {s : Nat → Nat} {n : Nat} (h : TPm σ s n) (f : Fm σ τ) : TPm τ s n := ⟨h.1, by rw [f.2.1 3 (by decide) (by decide) (by decide) (by decide)]; exact h.2.1, fun k hk => by rw [f.1 1 (by decide)]; exact h.2.2 k hk⟩
def TkM (τ : Mm) (s : Nat → Nat) (n p : Nat) : Prop := gI τ 0 5 = nI (tkB s n p) ∧ gI τ 0 4 = nI (tkE s n p) ∧ gI τ 0 6 = nI ((tkK s n p + 4) % 5) ∧ (tkK s n p = 2 → gL τ 0 7 = lN (tk27 s n p)) ∧ (tkK s n p = 3 → gI τ 0 8 = nI (tkV s n p))
theorem m_signAt {μ : Mm} {s : Nat → Nat} {n : Nat} (tp : TPm μ s n) {k : Nat} (hk : k ≤ n) : f_X12_signAt (nI k) μ = some (nI (if k < n then s k else 0), μ) := by
  have hn := tp.1
  unfold f_X12_signAt
  rw [tp.2.1]
  by_cases z : k < n
  · rw [if_pos (nI_lt z (by omega)), if_pos z, ck_t (inb_nI (show k < 1000 by omega) (by omega)), nI_tn (by omega), (tp.2.2 k z).1]
  · rw [if_neg (nI_nlt (by omega) (by omega)), if_neg z]; rfl
theorem word27 {x c : Nat} (h : 96 ≤ c) (h2 : c < 2147483648) : lN x * 27 + (nI c).toInt64 - 96 = lN (x * 27 + (c - 96)) := by
  rw [show (27 : Int64) = lN 27 from rfl, lN_mul, nI_l h2, lN_add, show (96 : Int64) = lN 96 from rfl, lN_sub (by omega)]
  congr 1
  omega
theorem m_word {μ : Mm} {s : Nat → Nat} {n b e : Nat} (tp : TPm μ s n) (h5 : gI μ 0 5 = nI b) (h4 : gI μ 0 4 = nI b) (h7 : gL μ 0 7 = 0) (hb : b ≤ n) (he : e = runE (fun i => ltr (s i)) n b) (kx : Mm → Option (Int32 × Mm)) :
    ∃ τ, lq1 (F_X12_nextToken_109 kx) 1000000 μ = kx τ ∧ Fm μ τ ∧ gI τ 0 5 = nI b ∧ gI τ 0 4 = nI e ∧ (e - b ≤ 8 → gL τ 0 7 = lN (encF 27 (fun i => s (b + i) - 96) (e - b))) := by
  have hn := tp.1
  have hr := runE_le (p := fun i => ltr (s i)) hb
  rw [← he] at hr
  have lt : ∀ i, i < e - b → 97 ≤ s (b + i) ∧ s (b + i) ≤ 122 := fun i hi => by
    have := runE_in (p := fun i => ltr (s i)) (n := n) (b := b) (i := b + i) (by omega) (by rw [← he]; omega) hb
    simpa [ltr] using this
  have q := lq1_inv (F := F_X12_nextToken_109 kx) (fun i c => Fm μ c ∧ gI c 0 5 = nI b ∧ gI c 0 4 = nI (b + i) ∧ (i ≤ 8 → gL c 0 7 = lN (encF 27 (fun i => s (b + i) - 96) i))) (e - b) kx ?_ ?_ (n := 1000000) (b0 := μ) ⟨Fm.rf, h5, h4, fun _ => h7⟩ (by omega)
  · obtain ⟨c, ⟨c1, c2, c3, c4⟩, ec⟩ := q
    exact ⟨c, ec, c1, c2, by rw [c3]; congr 1; omega, c4⟩
  · intro rec i c hi hc
    obtain ⟨c1, c2, c3, c4⟩ := hc
    have tc := tp.fm c1
    have l := lt i hi
    have bi : b + i < n := by omega
    have sa := m_signAt tc (k := b + i) (by omega)
    rw [if_pos bi] at sa
    have k2 : ¬ nI (s (b + i)) < 97 := fun z => by have := (nI_ltI (b := 97) (by omega) (by omega)).mp z; omega
    have k3 : ¬ (122 : Int32) < nI (s (b + i)) := fun z => by have := (nI_ltI (a := 122) (by omega) (by omega)).mp z; omega
    have sub : nI (b + i) - nI b = nI i := by rw [pk_sub (by omega)]; congr 1; omega
    by_cases z : i < 8
    · have k8 : nI i < 8 := nI_lt (a := i) (b := 8) z (by omega)
      refine ⟨pI (pL c 0 7 (lN (encF 27 (fun i => s (b + i) - 96) (i + 1)))) 0 4 (nI (b + i + 1)), ⟨c1.tr (Fm.pL.tr (Fm.pI (Or.inl rfl))), by rw [gI_pI_n (Or.inr (by decide))]; exact c2, by rw [gI_pI_s]; rfl, fun _ => by rw [gL_pI, gL_pL_s]⟩, ?_⟩
      simp only [F_X12_nextToken_109, c3, cl_of _ sa, if_neg k2, if_neg k3, jn_e, c2, sub, if_pos k8, c4 (by omega), word27 (show 96 ≤ s (b + i) by omega) (show s (b + i) < 2147483648 by omega), bn_e, gI_pL, nI_1]
      rfl
    · have k8 : ¬ nI i < 8 := fun y => by have := (nI_ltI (b := 8) (by omega) (by omega)).mp y; omega
      refine ⟨pI c 0 4 (nI (b + i + 1)), ⟨c1.tr (Fm.pI (Or.inl rfl)), by rw [gI_pI_n (Or.inr (by decide))]; exact c2, by rw [gI_pI_s]; rfl, fun h8 => absurd h8 (by omega)⟩, ?_⟩
      simp only [F_X12_nextToken_109, c3, cl_of _ sa, if_neg k2, if_neg k3, jn_e, c2, sub, if_neg k8, bn_e, nI_1]
  · intro rec c hc
    obtain ⟨c1, c2, c3, c4⟩ := hc
    have tc := tp.fm c1
    rw [show b + (e - b) = e by omega] at c3
    have sa := m_signAt tc (k := e) (by omega)
    simp only [F_X12_nextToken_109, c3, cl_of _ sa]
    by_cases z : e < n
    · rw [if_pos z]
      obtain ⟨g1, g2⟩ := tc.2.2 e z
      have s126 := sOk_lt g2
      have at0 := runE_at (p := fun i => ltr (s i)) (n := n) (b := b) (by rw [← he]; exact z)
      rw [← he] at at0
      by_cases y : nI (s e) < 97
      · rw [if_pos y]
      · rw [if_neg y]
        by_cases w : (122 : Int32) < nI (s e)
        · rw [if_pos w]
        · have := (ltr_iff (c := s e) (by omega)).mpr ⟨y, w⟩
          rw [this] at at0; cases at0
    · rw [if_neg z, if_pos (by decide)]
theorem m_num {μ : Mm} {s : Nat → Nat} {n b e : Nat} (tp : TPm μ s n) (h5 : gI μ 0 5 = nI b) (h4 : gI μ 0 4 = nI b) (h8 : gI μ 0 8 = 0) (hb : b ≤ n) (he : e = runE (fun i => dgt (s i)) n b) (kx : Mm → Option (Int32 × Mm)) :
    ∃ τ, lq1 (F_X12_nextToken_224 kx) 1000000 μ = kx τ ∧ Fm μ τ ∧ gI τ 0 5 = nI b ∧ gI τ 0 4 = nI e ∧ (e - b ≤ 4 → gI τ 0 8 = nI (encF 10 (fun i => s (b + i) - 48) (e - b))) := by
  have hn := tp.1
  have hr := runE_le (p := fun i => dgt (s i)) hb
  rw [← he] at hr
  have lt : ∀ i, i < e - b → 48 ≤ s (b + i) ∧ s (b + i) ≤ 57 := fun i hi => by
    have := runE_in (p := fun i => dgt (s i)) (n := n) (b := b) (i := b + i) (by omega) (by rw [← he]; omega) hb
    simpa [dgt] using this
  have q := lq1_inv (F := F_X12_nextToken_224 kx) (fun i c => Fm μ c ∧ gI c 0 5 = nI b ∧ gI c 0 4 = nI (b + i) ∧ (i ≤ 4 → gI c 0 8 = nI (encF 10 (fun i => s (b + i) - 48) i))) (e - b) kx ?_ ?_ (n := 1000000) (b0 := μ) ⟨Fm.rf, h5, h4, fun _ => h8⟩ (by omega)
  · obtain ⟨c, ⟨c1, c2, c3, c4⟩, ec⟩ := q
    exact ⟨c, ec, c1, c2, by rw [c3]; congr 1; omega, c4⟩
  · intro rec i c hi hc
    obtain ⟨c1, c2, c3, c4⟩ := hc
    have tc := tp.fm c1
    have l := lt i hi
    have bi : b + i < n := by omega
    have sa := m_signAt tc (k := b + i) (by omega)
    rw [if_pos bi] at sa
    have k2 : ¬ nI (s (b + i)) < 48 := fun z => by have := (nI_ltI (b := 48) (by omega) (by omega)).mp z; omega
    have k3 : ¬ (57 : Int32) < nI (s (b + i)) := fun z => by have := (nI_ltI (a := 57) (by omega) (by omega)).mp z; omega
    have sub : nI (b + i) - nI b = nI i := by rw [pk_sub (by omega)]; congr 1; omega
    by_cases z : i < 4
    · have k8 : nI i < 4 := nI_lt (a := i) (b := 4) z (by omega)
      refine ⟨pI (pI c 0 8 (nI (encF 10 (fun i => s (b + i) - 48) (i + 1)))) 0 4 (nI (b + i + 1)), ⟨c1.tr ((Fm.pI (by omega)).tr (Fm.pI (Or.inl rfl))), by rw [gI_pI_n (Or.inr (by decide)), gI_pI_n (Or.inr (by decide))]; exact c2, by rw [gI_pI_s]; rfl, fun _ => by rw [gI_pI_n (Or.inr (by decide)), gI_pI_s]⟩, ?_⟩
      have ne : ∀ v, gI (pI c 0 8 v) 0 4 = nI (b + i) := fun v => by rw [gI_pI_n (Or.inr (by decide))]; exact c3
      simp only [F_X12_nextToken_224, c3, cl_of _ sa, if_neg k2, if_neg k3, jn_e, c2, sub, if_pos k8, c4 (by omega), num10 l.1, bn_e, ne, nI_1]
      rfl
    · have k8 : ¬ nI i < 4 := fun y => by have := (nI_ltI (b := 4) (by omega) (by omega)).mp y; omega
      refine ⟨pI c 0 4 (nI (b + i + 1)), ⟨c1.tr (Fm.pI (Or.inl rfl)), by rw [gI_pI_n (Or.inr (by decide))]; exact c2, by rw [gI_pI_s]; rfl, fun h8 => absurd h8 (by omega)⟩, ?_⟩
      simp only [F_X12_nextToken_224, c3, cl_of _ sa, if_neg k2, if_neg k3, jn_e, c2, sub, if_neg k8, bn_e, nI_1]
  · intro rec c hc
    obtain ⟨c1, c2, c3, c4⟩ := hc
    have tc := tp.fm c1
    rw [show b + (e - b) = e by omega] at c3
    have sa := m_signAt tc (k := e) (by omega)
    simp only [F_X12_nextToken_224, c3, cl_of _ sa]
    by_cases z : e < n
    · rw [if_pos z]
      obtain ⟨g1, g2⟩ := tc.2.2 e z
      have s126 := sOk_lt g2
      have at0 := runE_at (p := fun i => dgt (s i)) (n := n) (b := b) (by rw [← he]; exact z)
      rw [← he] at at0
      by_cases y : nI (s e) < 48
      · rw [if_pos y]
      · rw [if_neg y]
        by_cases w : (57 : Int32) < nI (s e)
        · rw [if_pos w]
        · have := (dgt_iff (c := s e) (by omega)).mpr ⟨y, w⟩
          rw [this] at at0; cases at0
    · rw [if_neg z, if_pos (by decide)]
theorem m_sgn {c : Nat} (h : c ≤ 126) (A B : Option (Int32 × Mm)) : (if nI c < 40 then (if nI c = 45 then A else if nI c < 59 then B else if 61 < nI c then B else A) else if 43 < nI c then (if nI c = 45 then A else if nI c < 59 then B else if 61 < nI c then B else A) else A) = if sgn c then A else B := by
  have z1 : nI c < 40 ↔ c < 40 := nI_ltI (b := 40) (by omega) (by omega)
  have z2 : (43 : Int32) < nI c ↔ 43 < c := nI_ltI (a := 43) (by omega) (by omega)
  have z3 : nI c = 45 ↔ c = 45 := nI_eq (b := 45) (by omega) (by omega)
  have z4 : nI c < 59 ↔ c < 59 := nI_ltI (b := 59) (by omega) (by omega)
  have z5 : (61 : Int32) < nI c ↔ 61 < c := nI_ltI (a := 61) (by omega) (by omega)
  have sg : sgn c = true ↔ (40 ≤ c ∧ c ≤ 43) ∨ c = 45 ∨ (59 ≤ c ∧ c ≤ 61) := by unfold sgn; rw [decide_eq_true_iff]; omega
  by_cases y : sgn c = true
  · rw [if_pos y]
    have := sg.mp y
    repeat' split
    all_goals first
      | rfl
      | (exfalso; simp only [z1, z2, z3, z4, z5] at *; omega)
  · rw [if_neg y]
    have := fun w => y (sg.mpr w)
    repeat' split
    all_goals first
      | rfl
      | (exfalso; apply this; simp only [z1, z2, z3, z4, z5] at *; omega)
