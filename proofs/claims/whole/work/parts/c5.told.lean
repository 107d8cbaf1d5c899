/-! the town that was told, as a plain value -/
def mkT (P L W : Nat) (σ : Mm) (t : Nat) (F : Nat → Nat → Option Nat) (Ef : Int32 → Int32 → Int32 → Int32 → Nat) : Tw := ((P, L, W), fun k => (gI σ (t + 5) k).toNatClampNeg, fun k => (gI σ (t + 6) k).toNatClampNeg, fun k => gI σ (t + 7) k, fun w => gI σ (t + 9) w, F, Ef, fun w => (gI σ (t + 10) w).toNatClampNeg, fun w => (gI σ (t + 11) w).toNatClampNeg, fun w => gI σ (t + 12) w, gI σ t 3)
theorem tb_lane {σ μ : Mm} {t P L W : Nat} (hb : TB σ μ t P L W) {k : Nat} (hk : k < L) : ∃ a b m, a < P ∧ b < P ∧ a ≠ b ∧ m ≤ 20 ∧ (gI σ (t + 5) k).toNatClampNeg = a ∧ (gI σ (t + 6) k).toNatClampNeg = b ∧ gI σ (t + 5) k = nI a ∧ gI σ (t + 6) k = nI b ∧ gI σ (t + 7) k = nI m ∧ gI μ 5 (8 + k) = nI a ∧ gI μ 6 (8 + k) = nI b ∧ gI μ 7 (8 + k) = nI m := by
  have p6 := hb.1.2.2.1
  obtain ⟨a, b, m, q1, q2, q3, q4, ⟨q5, q6, q7⟩, q8, q9, q10⟩ := hb.2.2.2.2.2.2.2.1 k hk
  exact ⟨a, b, m, q1, q2, q3, q4, by rw [q5, nI_tn (by omega)], by rw [q6, nI_tn (by omega)], q5, q6, q7, q8, q9, q10⟩
theorem tb_walker {σ μ : Mm} {t P L W : Nat} (hb : TB σ μ t P L W) {w : Nat} (hw : w < W) : ∃ c a b m, c ≤ 3 ∧ a < P ∧ b < P ∧ m ≤ 30 ∧ (gI σ (t + 10) w).toNatClampNeg = a ∧ (gI σ (t + 11) w).toNatClampNeg = b ∧ gI σ (t + 9) w = nI c ∧ gI σ (t + 10) w = nI a ∧ gI σ (t + 11) w = nI b ∧ gI σ (t + 12) w = nI m ∧ gI μ 8 (6 + w) = nI c ∧ gI μ 9 (6 + w) = nI a ∧ gI μ 10 (6 + w) = nI b ∧ gI μ 11 (6 + w) = nI m := by
  have p6 := hb.1.2.2.1
  obtain ⟨c, a, b, m, q1, q2, q3, q4, ⟨q5, q6, q7, q8⟩, q9, q10, q11, q12⟩ := hb.2.2.2.2.2.2.2.2 w hw
  exact ⟨c, a, b, m, q1, q2, q3, q4, by rw [q6, nI_tn (by omega)], by rw [q7, nI_tn (by omega)], q5, q6, q7, q8, q9, q10, q11, q12⟩
theorem tb_tw {σ μ : Mm} {t P L W : Nat} (hb : TB σ μ t P L W) {F : Nat → Nat → Option Nat} {Ef : Int32 → Int32 → Int32 → Int32 → Nat} (hF : ∀ a b k, a < P → b < P → F a b = some k → k < L ∧ ((gI σ (t + 5) k).toNatClampNeg = a ∨ (gI σ (t + 6) k).toNatClampNeg = a) ∧ a ≠ b) (hE : ∀ a b c d, Ef a b c d ≤ 30) : TwOk (mkT P L W σ t F Ef) := by
  refine ⟨hb.1.2.2.1, hb.2.2.1, hb.2.1.2.2.1, fun k hk => ?_, hF, hE, fun w hw => ?_, fun k hk => ?_⟩
  · obtain ⟨a, b, m, q1, q2, q3, q4, q5, q6, _⟩ := tb_lane hb (k := k) hk
    show (gI σ (t + 5) k).toNatClampNeg < P ∧ (gI σ (t + 6) k).toNatClampNeg < P ∧ (gI σ (t + 5) k).toNatClampNeg ≠ (gI σ (t + 6) k).toNatClampNeg
    rw [q5, q6]; exact ⟨q1, q2, q3⟩
  · obtain ⟨c, a, b, m, q1, q2, q3, q4, q5, q6, _⟩ := tb_walker hb (w := w) hw
    show (gI σ (t + 10) w).toNatClampNeg < P ∧ (gI σ (t + 11) w).toNatClampNeg < P
    rw [q5, q6]; exact ⟨q2, q3⟩
  · obtain ⟨a, b, m, q1, q2, q3, q4, q5, q6, q7, q8, q9, _⟩ := tb_lane hb (k := k) hk
    exact ⟨m, q4, q9⟩
/-- the lanes of the told town, for both -/
def lnT (P L W : Nat) (σ : Mm) (t : Nat) : Nat → Nat → Option Nat := lnO (mkT P L W σ t (fun _ _ => none) (fun _ _ _ _ => 0))
theorem tb_tw0 {σ μ : Mm} {t P L W : Nat} (hb : TB σ μ t P L W) : TwOk (mkT P L W σ t (fun _ _ => none) (fun _ _ _ _ => 0)) := tb_tw hb (fun a b k _ _ h => by cases h) (fun _ _ _ _ => Nat.zero_le _)
theorem lnT_c {σ μ τ : Mm} {t P L W : Nat} (hb : TB σ μ t P L W) (o : Off [t + 13, t + 14] σ τ) {a b : Nat} (ha : a < 6) (hbb : b < 6) : f_X9_laneBetween t (nI a) (nI b) τ = some (oI (lnT P L W σ t a b), τ) := by
  have hL : gI τ t 1 = nI L := by rw [o.1 t (by simp)]; exact hb.2.2.2.1
  have q := lnB_O (tb_tw0 hb) (F := gI τ (t + 5)) (G := gI τ (t + 6)) (fun k hk => by
    obtain ⟨x, y, m, q1, q2, q3, q4, q5, q6, q7, q8, _⟩ := tb_lane hb (k := k) hk
    rw [o.1 (t + 5) (by simp), o.1 (t + 6) (by simp)]
    show _ = nI (gI σ (t + 5) k).toNatClampNeg ∧ _ = nI (gI σ (t + 6) k).toNatClampNeg
    rw [q5, q6]; exact ⟨q7, q8⟩) (a := a) (b := b) (by omega) (by omega)
  rw [s_laneBetween hb.1.1 hL hb.2.2.1]
  exact congrArg (fun z => some (z, τ)) q
theorem lnT_m {σ μ τ : Mm} {t P L W : Nat} (hb : TB σ μ t P L W) (e1 : gI τ 2 1 = nI L) (e5 : ∀ k, k < L → gI τ 5 k = gI μ 5 (8 + k)) (e6 : ∀ k, k < L → gI τ 6 k = gI μ 6 (8 + k)) {a b : Nat} (ha : a < 6) (hbb : b < 6) : f_X12_laneOf 0 (nI a) (nI b) τ = some (oI (lnT P L W σ t a b), τ) := by
  have q := lnB_O (tb_tw0 hb) (F := fun k => gI τ 5 (8 * 0 + k)) (G := fun k => gI τ 6 (8 * 0 + k)) (fun k hk => by
    obtain ⟨x, y, m, q1, q2, q3, q4, q5, q6, q7, q8, q9, q10, q11, q12⟩ := tb_lane hb (k := k) hk
    show gI τ 5 (8 * 0 + k) = nI (gI σ (t + 5) k).toNatClampNeg ∧ gI τ 6 (8 * 0 + k) = nI (gI σ (t + 6) k).toNatClampNeg
    rw [Nat.mul_zero, Nat.zero_add, e5 k hk, e6 k hk, q5, q6]; exact ⟨q10, q11⟩) (a := a) (b := b) (by omega) (by omega)
  have r := m_laneOf (σ := τ) (r := 0) (L := L) (by omega) e1 hb.2.2.1 (nI a) (nI b)
  have r : f_X12_laneOf 0 (nI a) (nI b) τ = _ := r
  rw [r]
  exact congrArg (fun z => some (z, τ)) q
theorem lnT_p {σ μ : Mm} {t P L W : Nat} (hb : TB σ μ t P L W) {a b k : Nat} (h : lnT P L W σ t a b = some k) : k < L ∧ a < P ∧ b < P ∧ a ≠ b ∧ ((gI σ (t + 5) k).toNatClampNeg = a ∨ (gI σ (t + 6) k).toNatClampNeg = a) := by
  obtain ⟨_, p2, p3, _⟩ := fst1_some h
  have p2 : k < 0 + L := p2
  have p3 := of_decide_eq_true p3
  have p3 : ((gI σ (t + 5) k).toNatClampNeg = a ∧ (gI σ (t + 6) k).toNatClampNeg = b) ∨ ((gI σ (t + 5) k).toNatClampNeg = b ∧ (gI σ (t + 6) k).toNatClampNeg = a) := p3
  obtain ⟨x, y, m, q1, q2, q3, q4, q5, q6, _⟩ := tb_lane hb (k := k) (by omega)
  rw [q5, q6] at p3 ⊢
  omega
