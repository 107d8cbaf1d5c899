/-- the best row so far, in the class -/
def BC (σ : Mm) (T : Tw) (N : Nt) (n : Nat) : Prop := match bsD (dkD T N) (wtD T N) n with
  | none => gI σ 196 4 = 1000000 ∧ gI σ 196 5 = 0
  | some b => gI σ 196 4 = nI (dkD T N b) ∧ gI σ 196 5 = nI (wtD T N b) ∧ ∀ w, w < tW T → gI σ 206 w = nI (digN T N b w)
theorem BC.congr {σ τ : Mm} {T : Tw} {N : Nt} {n : Nat} (h : BC σ T N n) (e1 : gI τ 196 4 = gI σ 196 4) (e2 : gI τ 196 5 = gI σ 196 5) (e3 : ∀ w, gI τ 206 w = gI σ 206 w) : BC τ T N n := by
  unfold BC at h ⊢
  cases e : bsD (dkD T N) (wtD T N) n with
  | none => rw [e] at h; exact ⟨e1.trans h.1, e2.trans h.2⟩
  | some b => rw [e] at h; exact ⟨e1.trans h.1, e2.trans h.2.1, fun w hw => (e3 w).trans (h.2.2 w hw)⟩
def dlC (t : Nat) : List Nat := 196 :: 204 :: 206 :: tryC t
theorem tryRow_e (b1 b2 : Nat) (p3 p4 : Int32) (σ : Mm) : f_X0_tryRow b1 b2 p3 p4 σ = ck (isTown b1) (ck (isNight b2) (cl (f_X0_layRow b1 p3 p4 σ) (fun r5 σ5 => (if (gI σ5 196 4) = 0 then (if r5 < (gI σ5 196 5) then (cl (f_X4_copyFrom 197 b2 σ5) (fun _ σ32 => lq2 (F_X0_tryRow_38 b1 (J_X0_tryRow_83 b1 r5)) 1000000 (0 : Int32) σ32)) else some (0, σ5)) else (cl (f_X4_copyFrom 197 b2 σ5) (fun _ σ32 => lq2 (F_X0_tryRow_38 b1 (J_X0_tryRow_83 b1 r5)) 1000000 (0 : Int32) σ32)))))) := by
  unfold f_X0_tryRow
  simp only [jn_e2]
theorem J83_e (b1 : Nat) (r5 : Int32) (σ : Mm) : J_X0_tryRow_83 b1 r5 σ = cl (f_X0_darkTimesOfAll b1 (0 : Int32) (gI σ 196 4) σ) (fun r90 σ90 => (if r90 < (gI σ90 196 4) ∨ (r90 = (gI σ90 196 4) ∧ r5 < (gI σ90 196 5)) then lq2 (F_X0_tryRow_137 b1 (fun σ_166 => some (0, σ_166))) 1000000 (0 : Int32) (pI (pI σ90 196 4 r90) 196 5 r5) else some (0, σ90))) := by
  unfold J_X0_tryRow_83
  congr 1
  funext r90 σ90
  simp only [jn_e2, bn_e]
  by_cases a : r90 < gI σ90 196 4
  · rw [if_pos a, if_pos (Or.inl a)]
  · rw [if_neg a]
    by_cases b : r90 = gI σ90 196 4
    · rw [if_pos b]
      by_cases c : r5 < gI σ90 196 5
      · rw [if_pos c, if_pos (Or.inr ⟨b, c⟩)]
      · rw [if_neg c, if_neg (fun z => by rcases z with z | z; exact a z; exact c z.2)]
    · rw [if_neg b, if_neg (fun z => by rcases z with z | z; exact a z; exact b z.1)]
theorem s_try137 {σ : Mm} {t : Nat} {T : Tw} (hc : TC σ t T) (hT : TwOk T) : ∃ τ, lq2 (F_X0_tryRow_137 t (fun σ_166 => some (0, σ_166))) 1000000 (0 : Int32) σ = some (0, τ) ∧ Off [206] σ τ ∧ ∀ w, w < tW T → gI τ 206 w = gI σ 204 w := by
  have hW := hT.2.2.1
  have tn := town_night hc.1 n197
  have q := lq2_inv (F := F_X0_tryRow_137 t (fun σ_166 => some (0, σ_166))) (fun i => nI i) (fun i b => Off [206] σ b ∧ ∀ w, w < i → gI b 206 w = gI σ 204 w) (tW T) (fun σ_166 => some (0, σ_166)) ?_ ?_ (n := 1000000) (b0 := σ) ⟨Off.rf, fun w hw => absurd hw (Nat.not_lt_zero w)⟩ (by omega)
  · obtain ⟨b, hb, e⟩ := q
    exact ⟨b, e, hb.1, hb.2⟩
  · intro rec i b hi hb
    have c1 : nI i < gI b t 2 := by rw [hb.1.1 t (by simp; omega), hc.2.2.2.1]; exact nI_lt hi (by omega)
    have g : gI b 204 i = gI σ 204 i := hb.1.1 204 (by simp) i
    refine ⟨pI b 206 i (gI σ 204 i), ⟨hb.1.tr (Off.pI (by simp)), fun w hw => ?_⟩, ?_⟩
    · by_cases z : w = i
      · subst z; rw [gI_pI_s]
      · rw [gI_pI_n (Or.inr z)]; exact hb.2 w (by omega)
    · simp only [F_X0_tryRow_137, if_pos c1, ck_t (inb_nI (show i < 6 by omega) (by omega)), nI_tn (show i < 2147483648 by omega), bn_e, nI_1, g]
  · intro rec b hb
    have c1 : ¬ nI (tW T) < gI b t 2 := by rw [hb.1.1 t (by simp; omega), hc.2.2.2.1]; exact nI_nlt (Nat.le_refl _) (by omega)
    simp only [F_X0_tryRow_137, if_neg c1]
theorem dlC_TC {σ τ : Mm} {t : Nat} {T : Tw} (hc : TC σ t T) (o : Off (dlC t) σ τ) : TC τ t T := by
  have tn := town_night hc.1 n197
  exact hc.off o (fun a ha => by simp only [dlC, tryC, List.mem_cons, List.not_mem_nil, or_false] at ha; omega)
theorem dlC_RC {σ τ : Mm} {t W : Nat} {N : Nt} (ht : isTown t = true) (r : RC σ 6 W N) (o : Off (dlC t) σ τ) : RC τ 6 W N := by
  have tn := town_night ht n197
  exact r.off o (fun a ha => by simp only [dlC, tryC, List.mem_cons, List.not_mem_nil, or_false] at ha; omega)
theorem s_tryRow {σ : Mm} {t : Nat} {T : Tw} {N : Nt} (hc : TC σ t T) (hT : TwOk T) (r : RC σ 6 (tW T) N) (hN : NtOk T N) {n : Nat} (hn : n < 2147483648) (hb : BC σ T N n) :
    ∃ τ, f_X0_tryRow t 6 (nI (bts (homeN T N) (tW T))) (nI n) σ = some (0, τ) ∧ Off (dlC t) σ τ ∧ BC τ T N (n + 1) := by
  have tn := town_night hc.1 n197
  obtain ⟨σ5, l5, o5, f5⟩ := s_layRow (N := N) hc hT hn
  have o5' : Off (dlC t) σ σ5 := o5.mono (by simp [dlC])
  have hb5 : BC σ5 T N n := hb.congr (o5.1 196 (by simp) _) (o5.1 196 (by simp) _) (fun w => o5.1 206 (by simp) w)
  have c5 := dlC_TC hc o5'
  have r5 := dlC_RC hc.1 r o5'
  obtain ⟨σ6, l6, a6⟩ := At.first (N := N) 0 c5 hT ne6 r5
  obtain ⟨o6, c6, r6⟩ := a6
  have w12 := wtD_le hT N n
  have d594 := dkD_le hT N n
  -- the row is tried
  have tr : ∃ τ, (cl (f_X4_copyFrom 197 6 σ5) (fun _ σ32 => lq2 (F_X0_tryRow_38 t (J_X0_tryRow_83 t (nI (wtD T N n)))) 1000000 (0 : Int32) σ32)) = some (0, τ) ∧ Off (dlC t) σ τ ∧ BC τ T N (n + 1) := by
    obtain ⟨σ7, l7, r7, o7⟩ := s_try38 (ks := digN T N n) c6 hT (fun w => digN_lt T N n w) r6 (fun w hw => by rw [o6.1 204 (by simp [tryC]; omega)]; exact f5 w hw) (J_X0_tryRow_83 t (nI (wtD T N n)))
    rw [cl_of _ l6, l7, J83_e]
    have o57 : Off (tryC t) σ5 σ7 := o6.tr (o7.mono (by simp [tryC]))
    have c7 : TC σ7 t T := c5.trd o57
    have v4 : gI σ7 196 4 = gI σ5 196 4 := o57.1 196 (by simp [tryC]; omega) 4
    have v5 : gI σ7 196 5 = gI σ5 196 5 := o57.1 196 (by simp [tryC]; omega) 5
    -- how dark it was allowed to be
    obtain ⟨e, he, ee⟩ : ∃ e, e < 2147483648 ∧ gI σ5 196 4 = nI e ∧ (match bsD (dkD T N) (wtD T N) n with | none => e = 1000000 | some b => e = dkD T N b) := by
      unfold BC at hb5
      cases q : bsD (dkD T N) (wtD T N) n with
      | none => rw [q] at hb5; exact ⟨1000000, by decide, hb5.1, rfl⟩
      | some b => rw [q] at hb5; have := dkD_le hT N b; exact ⟨dkD T N b, by omega, hb5.1, rfl⟩
    obtain ⟨x, τ, t1, t2, t3, t4⟩ := s_darkTimesOfAll (lg := 0) c7 hT r7 (wtN_ok hN _) LgOk.z he
    have t3 : x ≤ dkD T N n := t3
    have t4 : x = dkD T N n ∨ e < x := t4
    rw [v4, ee.1, cl_of _ t1]
    have oτ : Off (tryC t) σ5 τ := o57.tr t2
    have u4 : gI τ 196 4 = nI e := by rw [oτ.1 196 (by simp [tryC]; omega)]; exact ee.1
    have u5 : gI τ 196 5 = gI σ5 196 5 := oτ.1 196 (by simp [tryC]; omega) 5
    have oτ' : Off (dlC t) σ τ := o5'.tr (oτ.mono (fun a ha => by simp only [dlC, List.mem_cons]; exact Or.inr (Or.inr (Or.inr ha))))
    have bτ : BC τ T N n := hb5.congr (u4.trans ee.1.symm) u5 (fun w => oτ.1 206 (by simp [tryC]; omega) w)
    rw [u4, u5]
    have k1 : nI x < nI e ↔ x < e := nI_ltI (by omega) he
    have k2 : nI x = nI e ↔ x = e := nI_eq (by omega) he
    -- writing the row
    have wr : x = dkD T N n → ∃ τ', lq2 (F_X0_tryRow_137 t (fun σ_166 => some (0, σ_166))) 1000000 (0 : Int32) (pI (pI τ 196 4 (nI x)) 196 5 (nI (wtD T N n))) = some (0, τ') ∧ Off (dlC t) σ τ' ∧ gI τ' 196 4 = nI (dkD T N n) ∧ gI τ' 196 5 = nI (wtD T N n) ∧ ∀ w, w < tW T → gI τ' 206 w = nI (digN T N n w) := by
      intro hx
      have o8 : Off (dlC t) σ (pI (pI τ 196 4 (nI x)) 196 5 (nI (wtD T N n))) := oτ'.tr ((Off.pI (by simp [dlC])).tr (Off.pI (by simp [dlC])))
      obtain ⟨υ, y1, y2, y3⟩ := s_try137 (dlC_TC hc o8) hT
      refine ⟨υ, y1, o8.tr (y2.mono (by simp [dlC])), ?_, ?_, fun w hw => ?_⟩
      · rw [y2.1 196 (by simp), gI_pI_n (Or.inr (by decide)), gI_pI_s, hx]
      · rw [y2.1 196 (by simp), gI_pI_s]
      · rw [y3 w hw, gI_pI_n (Or.inl (by decide)), gI_pI_n (Or.inl (by decide)), oτ.1 204 (by simp [tryC]; omega)]; exact f5 w hw
    cases q : bsD (dkD T N) (wtD T N) n with
    | none =>
      have e2 := ee.2
      rw [q] at e2
      have e2 : e = 1000000 := e2
      have hx : x = dkD T N n := by rcases t4 with z | z; exact z; omega
      rw [if_pos (Or.inl (k1.mpr (by omega)))]
      obtain ⟨τ', y1, y2, y3, y4, y5⟩ := wr hx
      refine ⟨τ', y1, y2, ?_⟩
      unfold BC
      have : bsD (dkD T N) (wtD T N) (n + 1) = some n := by unfold bsD; rw [q]
      rw [this]
      exact ⟨y3, y4, y5⟩
    | some b =>
      have e2 := ee.2
      rw [q] at e2
      have e2 : e = dkD T N b := e2
      have hb5' := hb5
      unfold BC at hb5'
      rw [q] at hb5'
      have wb := wtD_le hT N b
      rw [hb5'.2.1]
      have k3 : nI (wtD T N n) < nI (wtD T N b) ↔ wtD T N n < wtD T N b := nI_ltI (by omega) (by omega)
      have nx : bsD (dkD T N) (wtD T N) (n + 1) = if dkD T N n < dkD T N b ∨ (dkD T N n = dkD T N b ∧ wtD T N n < wtD T N b) then some n else some b := by
        have : bsD (dkD T N) (wtD T N) (n + 1) = match bsD (dkD T N) (wtD T N) n with | none => some n | some b => if dkD T N n < dkD T N b ∨ (dkD T N n = dkD T N b ∧ wtD T N n < wtD T N b) then some n else some b := rfl
        rw [this, q]
      have kk : (nI x < nI e ∨ nI x = nI e ∧ nI (wtD T N n) < nI (wtD T N b)) ↔ (x < e ∨ x = e ∧ wtD T N n < wtD T N b) := by rw [k1, k2, k3]
      by_cases z : dkD T N n < dkD T N b ∨ (dkD T N n = dkD T N b ∧ wtD T N n < wtD T N b)
      · have hx : x = dkD T N n := by rcases t4 with y | y; exact y; omega
        rw [if_pos (kk.mpr (by omega))]
        obtain ⟨τ', y1, y2, y3, y4, y5⟩ := wr hx
        refine ⟨τ', y1, y2, ?_⟩
        unfold BC
        rw [nx, if_pos z]
        exact ⟨y3, y4, y5⟩
      · rw [if_neg (fun y => absurd (kk.mp y) (by omega))]
        refine ⟨τ, rfl, oτ', ?_⟩
        unfold BC at bτ ⊢
        rw [nx, if_neg z]
        rw [q] at bτ
        exact bτ
  rw [tryRow_e, ck_t hc.1, ck_t n6, cl_of _ l5]
  by_cases z : gI σ5 196 4 = 0
  · rw [if_pos z]
    by_cases y : nI (wtD T N n) < gI σ5 196 5
    · rw [if_pos y]; exact tr
    · rw [if_neg y]
      refine ⟨σ5, rfl, o5', ?_⟩
      unfold BC at hb5 ⊢
      cases q : bsD (dkD T N) (wtD T N) n with
      | none => rw [q] at hb5; rw [hb5.1] at z; exact absurd z (by decide)
      | some b =>
        rw [q] at hb5
        obtain ⟨p1, p2, p3⟩ := hb5
        have db := dkD_le hT N b
        have wb := wtD_le hT N b
        rw [p1] at z
        have z0 : dkD T N b = 0 := (nI_eq (b := 0) (by omega) (by omega)).mp z
        rw [p2] at y
        have y0 : ¬ wtD T N n < wtD T N b := fun k => y (nI_lt k (by omega))
        have nx : bsD (dkD T N) (wtD T N) (n + 1) = some b := by
          have : bsD (dkD T N) (wtD T N) (n + 1) = match bsD (dkD T N) (wtD T N) n with | none => some n | some b => if dkD T N n < dkD T N b ∨ (dkD T N n = dkD T N b ∧ wtD T N n < wtD T N b) then some n else some b := rfl
          rw [this, q]
          show (if _ then _ else _) = _
          rw [if_neg (by omega)]
        rw [nx]
        exact ⟨p1, p2, p3⟩
  · rw [if_neg z]; exact tr
def PF (T : Tw) (N : Nt) : Nat → Nat
  | 0 => 1
  | w + 1 => PF T N w * bsW T N w
theorem PF_RW (T : Tw) (N : Nt) : ∀ i, i ≤ tW T → PF T N i * RW T N (tW T - i) = RW T N (tW T)
  | 0, _ => by show 1 * _ = _; rw [Nat.one_mul, Nat.sub_zero]
  | i + 1, h => by
    have ih := PF_RW T N i (by omega)
    obtain ⟨d, ed⟩ : ∃ d, tW T - i = d + 1 := ⟨tW T - i - 1, by omega⟩
    have e1 : tW T - (i + 1) = d := by omega
    rw [ed] at ih
    have e2 : RW T N (d + 1) = bsW T N i * RW T N d := by
      show bsW T N (tW T - (d + 1)) * RW T N d = _
      rw [show tW T - (d + 1) = i by omega]
    rw [e1]
    show PF T N i * bsW T N i * RW T N d = _
    rw [Nat.mul_assoc, ← e2, ih]
theorem PF_le (T : Tw) (N : Nt) : ∀ i, PF T N i ≤ 3 ^ i
  | 0 => Nat.le_refl _
  | i + 1 => by
    rw [Nat.pow_succ]
    exact Nat.mul_le_mul (PF_le T N i) (bsW_pos T N _).2
theorem findDelays_e (b1 b2 : Nat) (σ : Mm) : f_X0_findDelays b1 b2 σ = ck (isTown b1) (ck (isNight b2) (if (gI σ 196 3) = 0 then cl (f_X4_homeBits b2 b1 σ) (fun r10 _ => lq2 (F_X0_findDelays_20 b1 σ r10 (fun x4_55 => lq2 (F_X0_findDelays_69 b1 b2 r10 x4_55 (fun σ_99 => some (0, pI σ_99 196 3 (1 : Int32)))) 1000000 (0 : Int32) (pI (pI σ 196 4 (1000000 : Int32)) 196 5 (0 : Int32)))) 1000000 (1 : Int32) (0 : Int32)) else some (0, σ))) := by
  unfold f_X0_findDelays
  simp only [jn_e2, bn_e]
/-- DELAY is found -/
theorem s_findDelays {σ : Mm} {t : Nat} {T : Tw} {N : Nt} (hc : TC σ t T) (hT : TwOk T) (r : RC σ 6 (tW T) N) (hN : NtOk T N) (h3 : ¬ gI σ 196 3 = 0 → BC σ T N (RW T N (tW T))) :
    ∃ τ, f_X0_findDelays t 6 σ = some (0, τ) ∧ Off (dlC t) σ τ ∧ BC τ T N (RW T N (tW T)) := by
  have hW := hT.2.2.1
  rw [findDelays_e, ck_t hc.1, ck_t n6]
  by_cases z : gI σ 196 3 = 0
  · rw [if_pos z, cl_of _ (s_homeBits hc hT r hN)]
    have R729 := RW_729 hT N
    have lt : bts (homeN T N) (tW T) < 2147483648 := Nat.lt_of_lt_of_le (bts_lt _ _) (Nat.le_trans (Nat.pow_le_pow_right (by decide) hW) (by decide))
    obtain ⟨ky, ey⟩ : ∃ k : Int32 → Option (Int32 × Mm), k = (fun x4_55 => lq2 (F_X0_findDelays_69 t 6 (nI (bts (homeN T N) (tW T))) x4_55 (fun σ_99 => some (0, pI σ_99 196 3 (1 : Int32)))) 1000000 (0 : Int32) (pI (pI σ 196 4 (1000000 : Int32)) 196 5 (0 : Int32))) := ⟨_, rfl⟩
    rw [← ey]
    have q1 : lq2 (F_X0_findDelays_20 t σ (nI (bts (homeN T N) (tW T))) ky) 1000000 (1 : Int32) (0 : Int32) = ky (nI (PF T N (tW T))) := by
      refine lq2_run (F := F_X0_findDelays_20 t σ (nI (bts (homeN T N) (tW T))) ky) (fun i => nI (PF T N i)) (fun i => nI i) (tW T) _ ?_ ?_ (n := 1000000) (by omega)
      · intro rec i hi
        have c1 : nI i < gI σ t 2 := by rw [hc.2.2.2.1]; exact nI_lt hi (by omega)
        have sb := shr_bit1 lt (show i < 31 by omega)
        rw [bts_bit _ hi] at sb
        simp only [F_X0_findDelays_20, if_pos c1, jn_e, bn_e, nI_1]
        have pf : PF T N (i + 1) = PF T N i * bsW T N i := rfl
        rw [pf]
        unfold bsW
        cases e : homeN T N i
        · rw [e] at sb
          rw [if_neg (fun y => by have := sb.mp y; cases this), show (3 : Int32) = nI 3 from rfl, pk_mul]; rfl
        · rw [e] at sb
          rw [if_pos (sb.mpr rfl), show (1 : Int32) = nI 1 from rfl, pk_mul]; rfl
      · intro rec
        have c1 : ¬ nI (tW T) < gI σ t 2 := by rw [hc.2.2.2.1]; exact nI_nlt (Nat.le_refl _) (by omega)
        simp only [F_X0_findDelays_20, if_neg c1]
    have pr := PF_RW T N (tW T) (Nat.le_refl _)
    rw [Nat.sub_self] at pr
    have pr : PF T N (tW T) = RW T N (tW T) := by rw [← pr]; show _ = _ * 1; rw [Nat.mul_one]
    rw [q1, pr, ey]
    obtain ⟨R, eR⟩ : ∃ R, R = RW T N (tW T) := ⟨_, rfl⟩
    rw [← eR] at R729 ⊢
    obtain ⟨σ1, e1⟩ : ∃ y, y = pI (pI σ 196 4 (1000000 : Int32)) 196 5 (0 : Int32) := ⟨_, rfl⟩
    have o1 : Off (dlC t) σ σ1 := by rw [e1]; exact (Off.pI (by simp [dlC])).tr (Off.pI (by simp [dlC]))
    have b0 : BC σ1 T N 0 := by
      show gI σ1 196 4 = _ ∧ gI σ1 196 5 = _
      rw [e1]
      exact ⟨by rw [gI_pI_n (Or.inr (by decide)), gI_pI_s], by rw [gI_pI_s]⟩
    show ∃ τ, lq2 (F_X0_findDelays_69 t 6 (nI (bts (homeN T N) (tW T))) (nI R) (fun σ_99 => some (0, pI σ_99 196 3 (1 : Int32)))) 1000000 (0 : Int32) (pI (pI σ 196 4 (1000000 : Int32)) 196 5 (0 : Int32)) = _ ∧ _
    rw [← e1]
    have q := lq2_inv (F := F_X0_findDelays_69 t 6 (nI (bts (homeN T N) (tW T))) (nI R) (fun σ_99 => some (0, pI σ_99 196 3 (1 : Int32)))) (fun i => nI i) (fun i b => Off (dlC t) σ b ∧ BC b T N i) R (fun σ_99 => some (0, pI σ_99 196 3 (1 : Int32))) ?_ ?_ (n := 1000000) (b0 := σ1) ⟨o1, b0⟩ (by omega)
    · obtain ⟨b, ⟨b1, b2⟩, e⟩ := q
      exact ⟨_, e, b1.tr (Off.pI (by simp [dlC])), b2.congr (by rw [gI_pI_n (Or.inr (by decide))]) (by rw [gI_pI_n (Or.inr (by decide))]) (fun w => by rw [gI_pI_n (Or.inl (by decide))])⟩
    · intro rec i b hi hb
      have c1 : nI i < nI R := nI_lt hi (by omega)
      have c2 : nI i < 729 := nI_lt (a := i) (b := 729) (by omega) (by omega)
      obtain ⟨τ, t1, t2, t3⟩ := s_tryRow (dlC_TC hc hb.1) hT (dlC_RC hc.1 r hb.1) hN (n := i) (by omega) hb.2
      refine ⟨τ, ⟨hb.1.tr t2, t3⟩, ?_⟩
      simp only [F_X0_findDelays_69, if_pos c1, if_pos c2, cl_of _ t1, nI_1]
    · intro rec b hb
      have c1 : ¬ nI R < nI R := nI_nlt (Nat.le_refl _) (by omega)
      simp only [F_X0_findDelays_69, if_neg c1]
  · rw [if_neg z]
    exact ⟨σ, rfl, Off.rf, h3 z⟩
