/-- the law of the town that stands: it means the same to both -/
def LwB (σ μ : Mm) (t : Nat) (E : Vx → Int32) : Prop := (gI σ (t + 1) 2 = nI 0 ∧ gI μ 12 0 = gI μ 13 0 ∧ E = fun x => x.1) ∨ ∃ len s0 c, 0 < len ∧ len ≤ 1000 ∧ gI σ (t + 1) 2 = nI len ∧ gI μ 12 0 = nI s0 ∧ gI μ 13 0 = nI c ∧ s0 < c ∧ c ≤ 2000 ∧ SemC (gI σ (t + 2)) 0 len 11 E ∧ LkS 0 (gI μ 14) s0 c 0 (fun _ => false) E
def tEof (E : Vx → Int32) (a b c d : Int32) : Nat := clN (E (a, b, c, d))
theorem lawC {σ μ : Mm} {t : Nat} {E : Vx → Int32} (ht : isTown t = true) (h : LwB σ μ t E) : ∀ τ, (∀ k, gI τ (t + 1) k = gI σ (t + 1) k) → (∀ k, gI τ (t + 2) k = gI σ (t + 2) k) → ∀ x1 x2 x3 x4, ¬ x1 < 0 → ∃ υ, f_X1_tells (t + 1) x1 x2 x3 x4 τ = some (nI (tEof E x1 x2 x3 x4), υ) ∧ Off [t + 3] τ υ := by
  intro τ e1 e2 x1 x2 x3 x4 h0
  rcases h with ⟨a, _, b⟩ | ⟨len, s0, c, a1, a2, a3, _, _, _, _, a4, _⟩
  · refine ⟨τ, ?_, Off.rf⟩
    unfold f_X1_tells
    rw [ck_t (law_a ht), e1, a, if_pos (show nI 0 = 0 from rfl), c_clamp0 h0, b]
    rfl
  · have hs : SemC (gI τ (t + 1 + 1)) 0 len 11 E := a4.congr (fun k _ _ => e2 k)
    obtain ⟨υ, q1, q2⟩ := s_tells (law_a ht) (by rw [e1]; exact a3) a1 a2 hs x1 x2 x3 x4
    refine ⟨υ, ?_, q2⟩
    rw [q1, c_clamp]
    rfl
theorem lawX {σ μ : Mm} {t : Nat} {E : Vx → Int32} {T : Tw} (h : LwB σ μ t E) (hE : tE T = tEof E) (hL : tL T ≤ 8) (h7 : ∀ k, k < tL T → gI μ 7 k = tT T k) : LawM μ T := by
  intro τ e k hk p2 p3
  have t0 : (0 : Int32).toNatClampNeg = 0 := rfl
  have n1 : (1 : Int32).toNatClampNeg = 1 := rfl
  have n2 : (2 : Int32).toNatClampNeg = 2 := rfl
  have n3 : (3 : Int32).toNatClampNeg = 3 := rfl
  have n4 : (4 : Int32).toNatClampNeg = 4 := rfl
  have i0 : inb 0 2 = true := rfl
  have i41 : inb 0 41 = true := rfl
  have j1 : inb 1 20 = true := rfl
  have j2 : inb 2 20 = true := rfl
  have j3 : inb 3 20 = true := rfl
  have j4 : inb 4 20 = true := rfl
  have ik : inb (nI k) 16 = true := inb_nI (show k < 16 by omega) (by omega)
  have tk : (nI k).toNatClampNeg = k := nI_tn (by omega)
  have g7 : gI τ 7 k = tT T k := (e 7 (by simp) k).trans (h7 k hk)
  have g12 : gI τ 12 0 = gI μ 12 0 := e 12 (by simp) 0
  have g13 : gI τ 13 0 = gI μ 13 0 := e 13 (by simp) 0
  rw [hE]
  unfold f_X12_burnsBy
  simp only [ck_t ik, tk, bn_e, t0, ck_t i0, jn_e2, g7, g12, g13]
  rcases h with ⟨_, a, b⟩ | ⟨len, s0, c, _, _, _, a1, a2, a3, a4, _, a5⟩
  · rw [a, if_neg (fun z => Int32.lt_irrefl z), cl_of _ (m_between _)]
    refine ⟨τ, ?_, Off.rf⟩
    rw [b]
    rfl
  · have lt : nI s0 < nI c := nI_lt a3 (by omega)
    rw [a1, a2, if_pos lt]
    simp only [ck_t j1, ck_t j2, ck_t j3, ck_t j4, ck_t i41, n1, n2, n3, n4]
    obtain ⟨τ3, e3⟩ : ∃ y, y = pI (pI (pI τ 26 1 (tT T k + gI τ 0 56)) 26 2 p2) 26 3 p3 := ⟨_, rfl⟩
    rw [← e3]
    have y36 : gI τ3 36 0 = gI τ 36 0 := by rw [e3, gI_pI_n (Or.inl (by decide)), gI_pI_n (Or.inl (by decide)), gI_pI_n (Or.inl (by decide))]
    rw [y36]
    obtain ⟨τ4, e4⟩ : ∃ y, y = pI τ3 26 4 (gI τ 36 0) := ⟨_, rfl⟩
    rw [← e4]
    have o4 : Off lawM τ τ4 := by
      rw [e4, e3]
      exact ((((Off.pI (by simp [lawM])).tr (Off.pI (by simp [lawM]))).tr (Off.pI (by simp [lawM]))).tr (Off.pI (by simp [lawM])))
    have y1 : gI τ4 26 1 = tT T k + gI τ 0 56 := by rw [e4, e3, gI_pI_n (Or.inr (by decide)), gI_pI_n (Or.inr (by decide)), gI_pI_n (Or.inr (by decide)), gI_pI_s]
    have y2 : gI τ4 26 2 = p2 := by rw [e4, e3, gI_pI_n (Or.inr (by decide)), gI_pI_n (Or.inr (by decide)), gI_pI_s]
    have y3 : gI τ4 26 3 = p3 := by rw [e4, e3, gI_pI_n (Or.inr (by decide)), gI_pI_s]
    have y4 : gI τ4 26 4 = gI τ 36 0 := by rw [e4, gI_pI_s]
    have l14 : LkS 0 (gI τ4 14) s0 c 0 (fun _ => false) E := a5.congr (fun j _ _ => (o4.1 14 (by simp [lawM]) j).trans (e 14 (by simp) j))
    obtain ⟨υ, q1, q2⟩ := w_worked (x := (tT T k + gI τ 0 56, p2, p3, gI τ 36 0)) (by rw [o4.1 12 (by simp [lawM]), g12]; exact a1) (by rw [o4.1 13 (by simp [lawM]), g13]; exact a2) (by omega) a4 l14 y1 y2 y3 y4
    rw [cl_of _ q1, cl_of _ (m_between _)]
    refine ⟨υ, rfl, o4.tr ⟨fun a ha j => q2.1 a ?_ j, q2.2.1, q2.2.2⟩⟩
    simp [lawM] at ha
    omega
