theorem w_worked {τ : Mm} {s0 e : Nat} {o : Nat → Bool} {E : Vx → Int32} {x : Vx} (h12 : gI τ 12 0 = nI s0) (h13 : gI τ 13 0 = nI e) (hs : s0 ≤ e) (he : e ≤ 2000) (hL : LkS 0 (gI τ 14) s0 e 0 o E) (x1 : gI τ 26 1 = x.1) (x2 : gI τ 26 2 = x.2.1) (x3 : gI τ 26 3 = x.2.2.1) (x4 : gI τ 26 4 = x.2.2.2) : ∃ υ, f_X12_worked 0 τ = some (E x, υ) ∧ OffW τ υ := by
  have t0 : (0 : Int32).toNatClampNeg = 0 := rfl
  have i0 : inb 0 2 = true := rfl
  obtain ⟨τ1, a1, a2, a3⟩ := w_opens (τ := τ) (f := gI τ) (d := 0) (fun _ _ _ _ => rfl) (by omega)
  have a1 : f_X12_opens 0 τ = some (0, τ1) := a1
  obtain ⟨f1, e1⟩ : ∃ f, f = opensE (gI τ) 0 := ⟨_, rfl⟩
  rw [← e1] at a2
  have bn : BnOk f1 o 0 := fun j h1 h2 => absurd h1 (by omega)
  have g24 : f1 24 0 = 0 := by rw [e1]; unfold opensE; rw [upE_s]
  have g22 : f1 22 0 = 20 := by rw [e1]; unfold opensE; rw [upE_n (Or.inl (by decide)), upE_s]
  have g21 : f1 21 0 = 0 := by rw [e1]; unfold opensE; rw [upE_n (Or.inl (by decide)), upE_n (Or.inl (by decide)), upE_s]
  have g20 : f1 20 0 = 0 := by rw [e1]; unfold opensE; rw [upE_n (Or.inl (by decide)), upE_n (Or.inl (by decide)), upE_n (Or.inl (by decide)), upE_s]
  have g18 : f1 18 0 = 0 := by rw [e1]; unfold opensE; rw [upE_n (Or.inl (by decide)), upE_n (Or.inl (by decide)), upE_n (Or.inl (by decide)), upE_n (Or.inl (by decide)), upE_s]
  have l0 : L0Sem (gI τ 14) s0 e 0 o E := hL.1
  obtain ⟨f', q1, q2, q3⟩ := l0 x f1 bn g24 g21 g22 g20 g18
  obtain ⟨p1, p2, p3⟩ := hL.2 x f1 bn
  obtain ⟨kx, ek⟩ : ∃ k : Mm → Option (Int32 × Mm), k = (fun (σ_335 : Mm) => cl (f_X12_tests (0 : Int32) σ_335) (fun _ σ337 => ck (inb (0 : Int32) 7) (some ((gI σ337 17 0), σ337)))) := ⟨_, rfl⟩
  unfold f_X12_worked
  rw [cl_of _ a1, ck_t i0, t0, a3.1 12 (Or.inl (by omega)), h12, bn_e, jn_e2]
  have q := lq3_inv (F := F_X12_worked_14 0 kx) (fun i => nI (rnE x (gI τ 14) s0 i (0, f1)).1) (fun i => nI (s0 + i)) (fun i b => RwR b (rnE x (gI τ 14) s0 i (0, f1)).2 ∧ OffW τ1 b) (e - s0) kx ?_ ?_ (n := 1000000) (b0 := τ1) ⟨a2, OffW.rf⟩ (by omega)
  · obtain ⟨b, ⟨b1, b2⟩, eb⟩ := q
    rw [q1] at b1
    obtain ⟨υ, c1, c2, c3⟩ := w_tests b1 (show 0 < 7 by omega)
    have c1 : f_X12_tests 0 b = some (0, υ) := c1
    have v : gI υ 17 0 = E x := by rw [c2 17 0 (by omega) (by omega)]; exact tests_at.2.1.trans q3
    refine ⟨υ, ?_, a3.tr (b2.tr c3)⟩
    rw [← ek]
    refine Eq.trans eb ?_
    rw [ek]
    show cl (f_X12_tests 0 b) _ = _
    rw [cl_of _ c1, ck_t (show inb 0 7 = true from rfl), v]
  · intro rec i b hi hb
    obtain ⟨b1, b2⟩ := hb
    have g : ∀ a, (a < 17 ∨ 25 < a) → ∀ k, gI b a k = gI τ a k := fun a ha k => (b2.1 a ha k).trans (a3.1 a ha k)
    have cd : gI b 14 (s0 + i) = gI τ 14 (s0 + i) := g 14 (Or.inl (by omega)) _
    have st : rnE x (gI τ 14) s0 (i + 1) (0, f1) = stepE x (gI τ 14 (s0 + i)) (rnE x (gI τ 14) s0 i (0, f1)) := rfl
    obtain ⟨τ', d1, d2, d3⟩ := w_step (x := x) (kx := kx) (S := rnE x (gI τ 14) s0 i (0, f1)) (i := s0 + i) (e := e) b1 (p1 i (by omega)).1 (by rw [cd]; exact ((p1 i (by omega)).2 hi).1) (by rw [cd]; exact ((p1 i (by omega)).2 hi).2) (by rw [cd, ← st]; exact (p1 (i + 1) (by omega)).1) (by rw [g 13 (Or.inl (by omega))]; exact h13) (by omega) he (by rw [g 26 (Or.inr (by omega))]; exact x1) (by rw [g 26 (Or.inr (by omega))]; exact x2) (by rw [g 26 (Or.inr (by omega))]; exact x3) (by rw [g 26 (Or.inr (by omega))]; exact x4) rec
    rw [cd, ← st] at d1 d2
    exact ⟨τ', ⟨d2, b2.tr d3⟩, d1⟩
  · intro rec b hb
    have g13 : gI b 13 0 = nI e := by rw [hb.2.1 13 (Or.inl (by omega)), a3.1 13 (Or.inl (by omega))]; exact h13
    unfold F_X12_worked_14
    rw [ck_t i0, t0, g13, show s0 + (e - s0) = e by omega, if_neg (fun z => Int32.lt_irrefl z)]
theorem nI_back {v : Int32} (h : ¬ v < 0) : nI v.toNatClampNeg = v := by
  have h0 : (0 : Int32).toInt ≤ v.toInt := Int32.le_iff_toInt_le.mp (Int32.not_lt.mp h)
  have h1 : (0 : Int32).toInt = 0 := rfl
  have h2 := Int32.toInt_lt v
  apply Int32.toInt_inj.mp
  rw [nI_toInt (by rw [Int32.toNatClampNeg]; omega), Int32.toNatClampNeg]
  omega
/-- how long a light burns lies between nothing and thirty -/
def clN (v : Int32) : Nat := if v < 0 then 0 else if 30 < v then 30 else v.toNatClampNeg
theorem clN_i (v : Int32) : nI (clN v) = if v < 0 then 0 else if 30 < v then 30 else v := by
  unfold clN
  by_cases z : v < 0
  · rw [if_pos z, if_pos z]; rfl
  · rw [if_neg z, if_neg z]
    by_cases y : (30 : Int32) < v
    · rw [if_pos y, if_pos y]; rfl
    · rw [if_neg y, if_neg y, nI_back z]
theorem clN_le (v : Int32) : clN v ≤ 30 := by
  unfold clN
  split
  · omega
  · split
    · omega
    · rename_i z y
      have h1 : v.toInt ≤ 30 := Int32.le_iff_toInt_le.mp (Int32.not_lt.mp y)
      rw [Int32.toNatClampNeg]
      omega
theorem m_between {σ : Mm} (v : Int32) : f_X12_between v 0 30 σ = some (nI (clN v), σ) := by
  unfold f_X12_between
  rw [clN_i]
  by_cases z : v < 0
  · rw [if_pos z, if_pos z]
  · rw [if_neg z, if_neg z]
    by_cases y : (30 : Int32) < v
    · rw [if_pos y, if_pos y]
    · rw [if_neg y, if_neg y]
theorem c_clamp (v : Int32) : imx 0 (imn v 30) = nI (clN v) := by
  rw [clN_i]
  unfold imx imn
  by_cases y : (30 : Int32) < v
  · rw [if_pos y, if_pos (show (0 : Int32) < 30 by decide)]
    have z : ¬ v < 0 := fun z => absurd (Int32.lt_trans y z) (by decide)
    rw [if_neg z]
  · rw [if_neg y]
    by_cases z : v < 0
    · rw [if_pos z, if_neg (fun w => Int32.lt_irrefl (Int32.lt_trans w z))]
    · rw [if_neg z]
      by_cases w : (0 : Int32) < v
      · rw [if_pos w]
      · rw [if_neg w]; exact Int32.le_antisymm (Int32.not_lt.mp z) (Int32.not_lt.mp w)
theorem c_clamp0 {v : Int32} (h : ¬ v < 0) : imn v 30 = nI (clN v) := by
  rw [clN_i, if_neg h]; rfl
