theorem Dst.le {adj : Nat → Nat → Prop} {P Q : Nat} {D : Nat → Nat → Nat} (h : Dst adj Q D) (hP : P ≤ Q) : Dst adj P D := ⟨fun a ha => h.1 a (by omega), fun a b ha hb => h.2.1 a b (by omega) (by omega), fun a b L ha hb => h.2.2 a b L (by omega) (by omega)⟩
theorem WyH.sh {σ : Mm} {t P x b : Nat} {ln : Nat → Nat → Option Nat} {D : Nat → Nat → Nat} (h : WyH σ t P ln D) (hx : x < P) (hb : b < P) : (D x b < 99 → D x b < P) ∧ (D x b = 0 ↔ x = b) ∧ (D x b = 0 → nxL ln D P x b = none) ∧ (¬ D x b < 99 → nxL ln D P x b = none) := by
  obtain ⟨ht, h6, hP, hln, l8, lp, ds, h99⟩ := h
  have dP := ds.le h6
  have ad : ∀ a b, adjL ln a b → a < P ∧ b < P := fun a b q => ⟨(lp a b q.2.2.2).1, (lp a b q.2.2.2).2.1⟩
  have sh : ∀ y, y < P → D y b < 99 → D y b < P := fun y hy h9 => dP.short ad hy hb h9
  refine ⟨sh x hx, ⟨fun z => ?_, fun z => by rw [z]; exact ds.1 b (by omega)⟩, fun z => ?_, fun z => ?_⟩
  · have := ds.2.1 x b (by omega) (by omega) (by omega)
    rw [z] at this; exact this
  · unfold nxL
    have : nxY ln D P x b = none := by
      cases e : nxY ln D P x b with
      | none => rfl
      | some y =>
        obtain ⟨_, _, p3, _⟩ := fst1_some e
        have p3 : (decide (D y b + 1 = D x b) && (ln x y).isSome) = true := p3
        rw [Bool.and_eq_true] at p3
        have := of_decide_eq_true p3.1
        omega
    rw [this]
  · unfold nxL
    have d9 := h99 x b (by omega) (by omega)
    have : nxY ln D P x b = none := by
      cases e : nxY ln D P x b with
      | none => rfl
      | some y =>
        obtain ⟨_, p2, p3, _⟩ := fst1_some e
        have p3 : (decide (D y b + 1 = D x b) && (ln x y).isSome) = true := p3
        rw [Bool.and_eq_true] at p3
        have := of_decide_eq_true p3.1
        have := sh y (by omega) (by omega)
        omega
    rw [this]
theorem s_findWays {σ : Mm} {t P : Nat} {ln : Nat → Nat → Option Nat} {D : Nat → Nat → Nat} (h : WyH σ t P ln D) : ∃ τ, f_X9_findWays t σ = some (0, τ) ∧ Off [t + 13, t + 14] σ τ ∧ ∀ x b, x < P → b < P → gI τ (t + 13) (6 * x + b) = (if D x b < 99 then nI (D x b) else -1) ∧ gI τ (t + 14) (6 * x + b) = oI (nxL ln D P x b) := by
  have hh := h
  obtain ⟨ht, h6, hP, hln, l8, lp, ds, h99⟩ := h
  unfold f_X9_findWays
  rw [ck_t ht, jn_e2]
  have q := lq2_inv (F := F_X9_findWays_2 t (fun σ_87 => some (0, σ_87))) (fun i => nI i) (fun i c => Off [t + 13, t + 14] σ c ∧ ∀ b, b < i → WQ c t P b ln D (fun _ => P - 1)) P (fun σ_87 => some (0, σ_87)) ?_ ?_ (n := 1000000) (b0 := σ) ⟨Off.rf, fun b hb => absurd hb (by omega)⟩ (by omega)
  · obtain ⟨c, ⟨c1, c2⟩, e⟩ := q
    refine ⟨c, e, c1, fun x b hx hb => ?_⟩
    have w : WV c t P b ln D x (P - 1) := c2 b hb x hx
    unfold WV at w
    obtain ⟨s1, s2, s3, s4⟩ := hh.sh hx hb
    by_cases z : D x b < 99
    · have := s1 z
      rw [if_pos (show D x b ≤ P - 1 by omega), if_pos (show D x b ≤ P - 1 by omega)] at w
      rw [if_pos z]; exact w
    · rw [if_neg (show ¬ D x b ≤ P - 1 by omega), if_neg (show ¬ D x b ≤ P - 1 by omega)] at w
      rw [if_neg z, s4 z]; exact w
  · intro rec b c hb hc
    obtain ⟨c1, c2⟩ := hc
    have hPc : ∀ e : Mm, Off [t + 13, t + 14] σ e → gI e t 0 = nI P := fun e o => by rw [o.1 t (by simp)]; exact hP
    -- nothing found yet
    obtain ⟨k81, ek81⟩ : ∃ k : Mm → Option (Int32 × Mm), k = (fun σ_81 => rec (nI (b + 1)) σ_81) := ⟨_, rfl⟩
    obtain ⟨k59, ek59⟩ : ∃ k : Mm → Option (Int32 × Mm), k = (fun σ_59 => lq2 (F_X9_findWays_61 t (nI b) k81) 1000000 (1 : Int32) σ_59) := ⟨_, rfl⟩
    have q1 := lq2_inv (F := F_X9_findWays_12 t (nI b) k59) (fun i => nI i) (fun i e => Off [t + 13, t + 14] σ e ∧ (∀ x, x < i → WV e t P b ln D x 0) ∧ ∀ a x d, d < 6 → d ≠ b → gI e a (6 * x + d) = gI c a (6 * x + d)) P k59 ?_ ?_ (n := 1000000) (b0 := c) ⟨c1, fun x hx => absurd hx (by omega), fun _ _ _ _ _ => rfl⟩ (by omega)
    · obtain ⟨e1, ⟨o1, w1, r1⟩, eq1⟩ := q1
      have q2 := lq2_inv (F := F_X9_findWays_61 t (nI b) k81) (fun i => nI (1 + i)) (fun i e => Off [t + 13, t + 14] σ e ∧ WQ e t P b ln D (fun _ => i) ∧ ∀ a x d, d < 6 → d ≠ b → gI e a (6 * x + d) = gI c a (6 * x + d)) (P - 1) k81 ?_ ?_ (n := 1000000) (b0 := e1) ⟨o1, fun x hx => w1 x hx, r1⟩ (by omega)
      · obtain ⟨e2, ⟨o2, w2, r2⟩, eq2⟩ := q2
        refine ⟨e2, ⟨o2, fun d hd => ?_⟩, ?_⟩
        · by_cases z : d = b
          · rw [z]; exact w2
          · intro x hx
            rw [r2 _ _ _ (by omega) z, r2 _ _ _ (by omega) z]
            exact c2 d (by omega) x hx
        · unfold F_X9_findWays_2
          rw [hPc c c1, if_pos (nI_lt hb (by omega)), jn_e2]
          have : (fun (σ_59 : Mm) => jn (fun (σ_81 : Mm) => rec (nI b + (1 : Int32)) σ_81) (fun k81 => lq2 (F_X9_findWays_61 t (nI b) k81) 1000000 (1 : Int32) σ_59)) = k59 := by rw [ek59, ek81]; funext τ; rw [jn_e2, nI_1]
          rw [this]
          refine Eq.trans eq1 ?_
          rw [ek59]
          refine Eq.trans eq2 ?_
          rw [ek81]
      · intro rec2 i e hi he
        obtain ⟨o2, w2, r2⟩ := he
        obtain ⟨e', p1, p2, p3, p4⟩ := s_waysOf (L := i + 1) hh o2 hb (by omega) (by omega) w2
        refine ⟨e', ⟨p2, p3, fun a x d hd hne => (p4 a x d hd hne).trans (r2 a x d hd hne)⟩, ?_⟩
        have p1 : f_X9_findWaysOfLength t (nI (1 + i)) (nI b) e = some (0, e') := by rw [Nat.add_comm]; exact p1
        unfold F_X9_findWays_61
        rw [hPc e o2, if_pos (nI_lt (show 1 + i < P by omega) (by omega)), cl_of _ p1, nI_1]
        rfl
      · intro rec2 e he
        unfold F_X9_findWays_61
        rw [hPc e he.1, show 1 + (P - 1) = P by omega, if_neg (fun z => Int32.lt_irrefl z)]
    · intro rec2 i e hi he
      obtain ⟨o2, w2, r2⟩ := he
      obtain ⟨s1, s2, s3, s4⟩ := hh.sh hi hb
      obtain ⟨v, ev⟩ : ∃ v : Int32, v = if D i b ≤ 0 then nI (D i b) else -1 := ⟨_, rfl⟩
      refine ⟨pI (pI e (t + 13) (6 * i + b) v) (t + 14) (6 * i + b) (-1), ⟨o2.tr ((Off.pI (by simp)).tr (Off.pI (by simp))), fun x hx => ?_, fun a x d hd hne => ?_⟩, ?_⟩
      · unfold WV
        by_cases z : x = i
        · subst z
          rw [gI_pI_n (Or.inl (by omega)), gI_pI_s, gI_pI_s, ev]
          refine ⟨rfl, ?_⟩
          by_cases y : D x b ≤ 0
          · rw [if_pos y, s3 (by omega)]; rfl
          · rw [if_neg y]
        · rw [gI_pI_n (Or.inl (by omega)), gI_pI_n (Or.inr (by omega)), gI_pI_n (Or.inr (by omega)), gI_pI_n (Or.inl (by omega))]
          exact w2 x (by omega)
      · rw [gI_pI_n (Or.inr (by omega)), gI_pI_n (Or.inr (by omega))]; exact r2 a x d hd hne
      · unfold F_X9_findWays_12
        simp only [hPc e o2, if_pos (nI_lt hi (show P < 2147483648 by omega)), jn_e2, show nI i * 6 + nI b = nI (6 * i + b) by rw [show (6 : Int32) = nI 6 from rfl, pk_mul, nI_add, Nat.mul_comm], ck_t (inb_nI (show 6 * i + b < 36 by omega) (by omega)), nI_tn (show 6 * i + b < 2147483648 by omega), bn_e, nI_1]
        by_cases z : i = b
        · rw [if_pos (by rw [z]), ev, if_pos (by have := s2.mpr z; omega), s2.mpr z]; rfl
        · rw [if_neg (fun w => z ((nI_eq (by omega) (by omega)).mp w)), ev, if_neg (fun w => z (s2.mp (by omega)))]
    · intro rec2 e he
      unfold F_X9_findWays_12
      rw [hPc e he.1, if_neg (fun z => Int32.lt_irrefl z)]
  · intro rec c hc
    have hPc : gI c t 0 = nI P := by rw [hc.1.1 t (by simp)]; exact hP
    unfold F_X9_findWays_2
    rw [hPc, if_neg (fun z => Int32.lt_irrefl z)]
