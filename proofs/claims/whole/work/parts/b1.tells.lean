/-! the class works a law -/
def StkR (σ : Mm) (a : Nat) : List Int32 → Prop
  | [] => True
  | v :: r => gI σ a r.length = v ∧ StkR σ a r
theorem StkR.cg {σ τ : Mm} {a : Nat} : ∀ {st : List Int32}, StkR σ a st → (∀ j, j < st.length → gI τ a j = gI σ a j) → StkR τ a st
  | [], _, _ => trivial
  | v :: r, h, e => ⟨by rw [e r.length (Nat.lt_succ_self _)]; exact h.1, StkR.cg h.2 (fun j hj => e j (Nat.lt_succ_of_lt hj))⟩
theorem s_joined {σ : Mm} (c a b : Int32) : f_X1_joined c a b σ = some (jnS c a b, σ) := by
  unfold f_X1_joined jnS
  simp only [jn_e2]
  by_cases z1 : c = 1
  · rw [if_pos z1, if_pos z1]
    by_cases a0 : a = 0
    · rw [if_pos a0, if_neg (fun y => y.1 a0)]
    · rw [if_neg a0]
      by_cases b0 : b = 0
      · rw [if_pos b0, if_neg (fun y => y.2 b0)]
      · rw [if_neg b0, if_pos ⟨a0, b0⟩]
  · rw [if_neg z1, if_neg z1]
    by_cases z2 : c = 2
    · rw [if_pos z2, if_pos z2]
      by_cases a0 : a = 0
      · rw [if_pos a0]
        by_cases b0 : b = 0
        · rw [if_pos b0, if_neg (fun y => y.elim (fun q => q a0) (fun q => q b0))]
        · rw [if_neg b0, if_pos (Or.inr b0)]
      · rw [if_neg a0, if_pos (Or.inl a0)]
    · rw [if_neg z2, if_neg z2]
      by_cases z3 : c = 3
      · rw [if_pos z3, if_pos z3]; split <;> rfl
      · rw [if_neg z3, if_neg z3]
        by_cases z4 : c = 4
        · rw [if_pos z4, if_pos z4]; split <;> rfl
        · rw [if_neg z4, if_neg z4]
          by_cases z5 : c = 5
          · rw [if_pos z5, if_pos z5]
          · rw [if_neg z5, if_neg z5]
            by_cases z6 : c = 6
            · rw [if_pos z6, if_pos z6]
            · rw [if_neg z6, if_neg z6]
theorem s_tell1 {σ : Mm} {a i len : Nat} {st : List Int32} {p1 p2 p3 p4 : Int32} {k207 : Mm → Option (Int32 × Mm)} (h : StkR σ (a + 2) st) (hl : st.length ≤ 32) (h2 : gI σ a 2 = nI len) (hi : i < len) (h1 : len ≤ 1000) : ∃ σ', (∀ rec, F_X1_tells_20 a p1 p2 p3 p4 k207 rec (nI st.length) (nI i) σ = rec (nI (stepS (p1, p2, p3, p4) (gI σ (a + 1) i) st).length) (nI (i + 1)) σ') ∧ StkR σ' (a + 2) (stepS (p1, p2, p3, p4) (gI σ (a + 1) i) st) ∧ (stepS (p1, p2, p3, p4) (gI σ (a + 1) i) st).length ≤ 32 ∧ Off [a + 2] σ σ' := by
  have c1 : nI i < gI σ a 2 := by rw [h2]; exact nI_lt hi (by omega)
  have hin : inb (nI i) 1000 = true := inb_nI (show i < 1000 by omega) (by omega)
  have ti : (nI i).toNatClampNeg = i := nI_tn (by omega)
  obtain ⟨c, ec⟩ : ∃ c, c = gI σ (a + 1) i := ⟨_, rfl⟩
  rw [← ec]
  have hd : ∀ rec, F_X1_tells_20 a p1 p2 p3 p4 k207 rec (nI st.length) (nI i) σ = (if c < 8 then J_X1_tells_115 a (nI st.length) σ c (fun x5 τ => rec x5 (nI (i + 1)) τ) else if nI st.length < 32 then (ck (inb (nI st.length) 32) (bn (pI σ (a + 2) (nI st.length).toNatClampNeg (valS (p1, p2, p3, p4) c)) (fun σ108 => rec (nI st.length + 1) (nI (i + 1)) σ108))) else J_X1_tells_115 a (nI st.length) σ c (fun x5 τ => rec x5 (nI (i + 1)) τ)) := fun rec => by
    unfold F_X1_tells_20
    simp only [if_pos c1, ck_t hin, bn_e, jn_e2, ti, ← ec, nI_1]
    unfold valS
    by_cases z8 : c = 8
    · simp only [if_pos z8]
    · by_cases z9 : c = 9
      · simp only [if_neg z8, if_pos z9]
      · by_cases z10 : c = 10
        · simp only [if_neg z8, if_neg z9, if_pos z10]
        · by_cases z11 : c = 11
          · simp only [if_neg z8, if_neg z9, if_neg z10, if_pos z11]
          · simp only [if_neg z8, if_neg z9, if_neg z10, if_neg z11]
  have l32 : nI st.length < 32 ↔ st.length < 32 := nI_ltI (b := 32) (by omega) (by omega)
  by_cases z : c < 8
  · by_cases z0 : c = 0
    · cases st with
      | nil =>
        refine ⟨σ, fun rec => ?_, ?_, ?_, Off.rf⟩
        · rw [hd, if_pos z]
          unfold J_X1_tells_115 J_X1_tells_155
          rw [jn_e2, if_pos z0, if_pos (show nI ([] : List Int32).length < 1 by decide), if_pos z, if_pos (show nI ([] : List Int32).length < 2 by decide)]
          unfold stepS
          rw [if_pos z, if_pos z0]
        · unfold stepS; rw [if_pos z, if_pos z0]; trivial
        · unfold stepS; rw [if_pos z, if_pos z0]; exact Nat.zero_le _
      | cons v r =>
        have e : stepS (p1, p2, p3, p4) c (v :: r) = ntS v :: r := by unfold stepS; rw [if_pos z, if_pos z0]
        rw [e]
        have hl : r.length + 1 ≤ 32 := hl
        have n1 : ¬ nI (r.length + 1) < 1 := fun w => by have := (nI_ltI (b := 1) (by omega) (by omega)).mp w; omega
        have s1 : nI (r.length + 1) - 1 = nI r.length := by rw [show (1 : Int32) = nI 1 from rfl, pk_sub (by omega), Nat.add_sub_cancel]
        refine ⟨pI σ (a + 2) r.length (ntS v), fun rec => ?_, ⟨gI_pI_s _ _ _ _, h.2.cg (fun j hj => gI_pI_n (Or.inr (by omega)))⟩, hl, Off.pI (by simp)⟩
        rw [hd, if_pos z]
        unfold J_X1_tells_115
        rw [jn_e2, if_pos z0]
        show (if nI (r.length + 1) < 1 then _ else _) = _
        rw [if_neg n1]
        show bn (nI (r.length + 1) - 1) _ = _
        rw [bn_e, s1]
        simp only [jn_e2]
        rw [ck_t (inb_nI (show r.length < 32 by omega) (by omega)), nI_tn (show r.length < 2147483648 by omega), h.1]
        unfold ntS
        by_cases v0 : v = 0
        · rw [if_pos v0, if_pos v0]
          show ck (inb (nI (r.length + 1) - 1) 32) (bn (pI σ (a + 2) (nI (r.length + 1) - 1).toNatClampNeg 1) (fun σ151 => rec (nI (r.length + 1)) (nI (i + 1)) σ151)) = _
          rw [s1, ck_t (inb_nI (show r.length < 32 by omega) (by omega)), nI_tn (show r.length < 2147483648 by omega), bn_e]
          rfl
        · rw [if_neg v0, if_neg v0]
          show ck (inb (nI (r.length + 1) - 1) 32) (bn (pI σ (a + 2) (nI (r.length + 1) - 1).toNatClampNeg 0) (fun σ151 => rec (nI (r.length + 1)) (nI (i + 1)) σ151)) = _
          rw [s1, ck_t (inb_nI (show r.length < 32 by omega) (by omega)), nI_tn (show r.length < 2147483648 by omega), bn_e]
          rfl
    · have j115 : ∀ K, J_X1_tells_115 a (nI st.length) σ c K = J_X1_tells_155 a (nI st.length) σ c K := fun K => by
        unfold J_X1_tells_115
        rw [jn_e2, if_neg z0]
      have small : st.length < 2 → (∃ σ', (∀ rec, F_X1_tells_20 a p1 p2 p3 p4 k207 rec (nI st.length) (nI i) σ = rec (nI st.length) (nI (i + 1)) σ') ∧ StkR σ' (a + 2) st ∧ st.length ≤ 32 ∧ Off [a + 2] σ σ') := fun hs => by
        refine ⟨σ, fun rec => ?_, h, hl, Off.rf⟩
        rw [hd, if_pos z, j115]
        unfold J_X1_tells_155
        rw [if_pos z, if_pos (show nI st.length < 2 from nI_lt (a := st.length) (b := 2) hs (by omega))]
      match st, h, hl, hd, j115, small with
      | [], h, hl, hd, j115, small =>
        have e : stepS (p1, p2, p3, p4) c [] = [] := by unfold stepS; rw [if_pos z, if_neg z0]
        rw [e]; exact small (by decide)
      | [v], h, hl, hd, j115, small =>
        have e : stepS (p1, p2, p3, p4) c [v] = [v] := by unfold stepS; rw [if_pos z, if_neg z0]
        rw [e]; exact small (show 1 < 2 by decide)
      | w :: v :: r, h, hl, hd, j115, small =>
        have e : stepS (p1, p2, p3, p4) c (w :: v :: r) = jnS c v w :: r := by unfold stepS; rw [if_pos z, if_neg z0]
        rw [e]
        have hl : r.length + 2 ≤ 32 := hl
        have n2 : ¬ nI (r.length + 2) < 2 := fun w => by have := (nI_ltI (b := 2) (by omega) (by omega)).mp w; omega
        have s1 : nI (r.length + 2) + -1 = nI (r.length + 1) := by rw [show (-1 : Int32) = -nI 1 from rfl, ← Int32.sub_eq_add_neg, pk_sub (by omega)]; rfl
        have s2 : nI (r.length + 1) - 1 = nI r.length := by rw [show (1 : Int32) = nI 1 from rfl, pk_sub (by omega), Nat.add_sub_cancel]
        have hw : gI σ (a + 2) (r.length + 1) = w := h.1
        have hv : gI σ (a + 2) r.length = v := h.2.1
        refine ⟨pI σ (a + 2) r.length (jnS c v w), fun rec => ?_, ⟨gI_pI_s _ _ _ _, h.2.2.cg (fun j hj => gI_pI_n (Or.inr (by omega)))⟩, by show r.length + 1 ≤ 32; omega, Off.pI (by simp)⟩
        rw [hd, if_pos z, j115]
        unfold J_X1_tells_155
        rw [if_pos z]
        show (if nI (r.length + 2) < 2 then _ else bn (nI (r.length + 2) + -1 - 1) _) = _
        rw [if_neg n2, s1, s2, bn_e, ck_t (inb_nI (show r.length < 32 by omega) (by omega))]
        show bn (nI (r.length + 2) + -1) _ = _
        rw [s1, bn_e, ck_t (inb_nI (show r.length + 1 < 32 by omega) (by omega)), nI_tn (show r.length < 2147483648 by omega), nI_tn (show r.length + 1 < 2147483648 by omega), hw, hv, cl_of _ (s_joined c v w)]
        show ck (inb (nI (r.length + 2) + -1 - 1) 32) (bn (pI σ (a + 2) (nI (r.length + 2) + -1 - 1).toNatClampNeg (jnS c v w)) (fun σ200 => rec (nI (r.length + 2) + -1) (nI (i + 1)) σ200)) = _
        rw [s1, s2, ck_t (inb_nI (show r.length < 32 by omega) (by omega)), nI_tn (show r.length < 2147483648 by omega), bn_e]
        rfl
  · have z0 : ¬ c = 0 := fun w => z (by rw [w]; decide)
    by_cases y : st.length < 32
    · have e : stepS (p1, p2, p3, p4) c st = valS (p1, p2, p3, p4) c :: st := by unfold stepS; rw [if_neg z, if_pos y]
      rw [e]
      refine ⟨pI σ (a + 2) st.length (valS (p1, p2, p3, p4) c), fun rec => ?_, ⟨gI_pI_s _ _ _ _, h.cg (fun j hj => gI_pI_n (Or.inr (by omega)))⟩, by show st.length + 1 ≤ 32; omega, Off.pI (by simp)⟩
      rw [hd, if_neg z, if_pos (l32.mpr y), ck_t (inb_nI y (by omega)), nI_tn (show st.length < 2147483648 by omega), bn_e, nI_1]
      rfl
    · have e : stepS (p1, p2, p3, p4) c st = st := by unfold stepS; rw [if_neg z, if_neg y]
      rw [e]
      refine ⟨σ, fun rec => ?_, h, hl, Off.rf⟩
      rw [hd, if_neg z, if_neg (fun w => y (l32.mp w))]
      unfold J_X1_tells_115 J_X1_tells_155
      rw [jn_e2, if_neg z0, if_neg z]
theorem s_tells {σ : Mm} {a len : Nat} {E : Vx → Int32} (ha : isLaw a = true) (h2 : gI σ a 2 = nI len) (h0 : 0 < len) (h1 : len ≤ 1000) (hs : SemC (gI σ (a + 1)) 0 len 11 E) (p1 p2 p3 p4 : Int32) : ∃ υ, f_X1_tells a p1 p2 p3 p4 σ = some (imx 0 (imn (E (p1, p2, p3, p4)) 30), υ) ∧ Off [a + 2] σ υ := by
  have n0 : ¬ nI len = 0 := fun z => by have := (nI_eq (b := 0) (by omega) (by omega)).mp z; omega
  unfold f_X1_tells
  rw [ck_t ha, h2, if_neg n0, jn_e2]
  obtain ⟨kx, ek⟩ : ∃ k : Mm → Option (Int32 × Mm), k = (fun (σ_207 : Mm) => ck (inb (0 : Int32) 32) (some ((imx (0 : Int32) (imn (gI σ_207 (a + 2) (0 : Int32).toNatClampNeg) (30 : Int32))), σ_207))) := ⟨_, rfl⟩
  rw [← ek]
  have q := lq3_inv (F := F_X1_tells_20 a p1 p2 p3 p4 kx) (fun i => nI (runS (p1, p2, p3, p4) (gI σ (a + 1)) 0 i []).length) (fun i => nI i) (fun i b => StkR b (a + 2) (runS (p1, p2, p3, p4) (gI σ (a + 1)) 0 i []) ∧ (runS (p1, p2, p3, p4) (gI σ (a + 1)) 0 i []).length ≤ 32 ∧ Off [a + 2] σ b) len kx ?_ ?_ (n := 1000000) (b0 := σ) ⟨trivial, Nat.zero_le _, Off.rf⟩ (by omega)
  · obtain ⟨b, ⟨b1, b2, b3⟩, e⟩ := q
    refine ⟨b, Eq.trans e ?_, b3⟩
    have r : runS (p1, p2, p3, p4) (gI σ (a + 1)) 0 len [] = [E (p1, p2, p3, p4)] := hs _ [] (Nat.zero_le _)
    rw [r] at b1
    have v : gI b (a + 2) 0 = E (p1, p2, p3, p4) := b1.1
    rw [ek]
    show ck (inb 0 32) (some (imx 0 (imn (gI b (a + 2) (0 : Int32).toNatClampNeg) 30), b)) = _
    rw [ck_t (show inb 0 32 = true from rfl), show (0 : Int32).toNatClampNeg = 0 from rfl, v]
  · intro rec i b hi hb
    obtain ⟨b1, b2, b3⟩ := hb
    have ga : gI b a 2 = nI len := by rw [b3.1 a (by simp)]; exact h2
    have gs : gI b (a + 1) i = gI σ (a + 1) i := b3.1 (a + 1) (by simp) i
    obtain ⟨b', c1, c2, c3, c4⟩ := s_tell1 (p1 := p1) (p2 := p2) (p3 := p3) (p4 := p4) (k207 := kx) b1 b2 ga hi h1
    rw [gs] at c2 c3
    have rs : runS (p1, p2, p3, p4) (gI σ (a + 1)) 0 (i + 1) [] = stepS (p1, p2, p3, p4) (gI σ (a + 1) i) (runS (p1, p2, p3, p4) (gI σ (a + 1)) 0 i []) := by
      show stepS (p1, p2, p3, p4) (gI σ (a + 1) (0 + i)) _ = _
      rw [Nat.zero_add]
    refine ⟨b', ⟨by rw [rs]; exact c2, by rw [rs]; exact c3, b3.tr c4⟩, ?_⟩
    have := c1 rec
    rw [gs, ← rs] at this
    exact this
  · intro rec b hb
    have ga : gI b a 2 = nI len := by rw [hb.2.2.1 a (by simp)]; exact h2
    unfold F_X1_tells_20
    rw [ga, if_neg (fun z => Int32.lt_irrefl z)]
