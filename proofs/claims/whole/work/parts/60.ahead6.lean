theorem pc8_le (m : Nat) : pc8 m ≤ 8 := by
  have h : m % 256 < 256 := Nat.mod_lt _ (by decide)
  unfold pc8
  exact cnt_le _ _
theorem TC.trd {σ b : Mm} {t : Nat} {T : Tw} (h : TC σ t T) (o : Off (tryC t) σ b) : TC b t T := by
  have tn := town_night h.1 n197
  exact h.off o (fun a ha => by simp only [tryC, List.mem_cons, List.not_mem_nil, or_false] at ha; omega)
theorem oI_none : oI none = -1 := rfl
theorem oI_some (k : Nat) : oI (some k) = nI k := rfl
theorem nI_ne (k : Nat) (h : k < 2147483648) : ¬ nI k = -1 := fun z => by
  have := nI_pos (n := k) h
  rw [z] at this
  exact this (by decide)
theorem s_fewestBoys {σ : Mm} {t m : Nat} {T : Tw} {N : Nt} (hc : TC σ t T) (hT : TwOk T) (hm : (197 : Nat) ≠ m) (r : RC σ m (tW T) N) (hN : NtOk T N) :
    ∃ τ, f_X0_fewestBoys t m σ = some (oI (fewB (lightN T N) (2 ^ tL T)), τ) ∧ Off (tryC t) σ τ := by
  have hL := hT.2.1
  have pw : 2 ^ tL T ≤ 2 ^ 8 := Nat.pow_le_pow_right (by decide) hL
  have sh : (1 : Int32) <<< (nI (tL T) &&& 31) = nI (2 ^ tL T) := one_shl (by omega)
  unfold f_X0_fewestBoys
  rw [ck_t hc.1, ck_t r.1, jn_e2]
  have q := lq3_inv (F := F_X0_fewestBoys_5 t m (fun x τ => some (x, τ))) (fun i => oI (fewB (lightN T N) i)) (fun i => nI i) (fun i b => Off (tryC t) σ b) (2 ^ tL T) (fun b => some (oI (fewB (lightN T N) (2 ^ tL T)), b)) ?_ ?_ (n := 1000000) (b0 := σ) Off.rf (by omega)
  · obtain ⟨b, hb, e⟩ := q
    exact ⟨b, e, hb⟩
  · intro rec i b hi hb
    have hcb := hc.trd hb
    have rb := r.off hb (tryC_night hc.1 r.1 hm)
    have c1 : nI i < (1 : Int32) <<< ((gI b t 1) &&& 31) := by rw [hcb.2.2.1, sh]; exact nI_lt hi (by omega)
    obtain ⟨τ, t1, t2⟩ := s_isLightEnough hcb hT hm rb hN (s := i) (by omega)
    have one : ¬ (1 : Int32) = 0 := by decide
    cases e : fewB (lightN T N) i with
    | none =>
      refine ⟨τ, hb.tr t2, ?_⟩
      have e2 : fewB (lightN T N) (i + 1) = if lightN T N i then some i else none := by unfold fewB; rw [e]
      rw [e2]
      simp only [F_X0_fewestBoys_5, if_pos c1, jn_e, oI_none, if_true, if_neg one, cl_of _ t1]
      cases lightN T N i
      · simp [nI_1, oI_none]
      · simp [nI_1, oI_some]
    | some c =>
      have hcl := fewB_lt _ e
      have e2 : fewB (lightN T N) (i + 1) = if pc8 i < pc8 c ∧ lightN T N i = true then some i else some c := by unfold fewB; rw [e]
      have p1 := pc8_le i
      have p2 := pc8_le c
      by_cases z : pc8 i < pc8 c
      · refine ⟨τ, hb.tr t2, ?_⟩
        rw [e2]
        simp only [F_X0_fewestBoys_5, if_pos c1, jn_e, oI_some, if_neg (nI_ne c (by omega)), cl_of _ (s_bitCount (show i < 256 by omega) b), cl_of _ (s_bitCount (show c < 256 by omega) b), if_pos (nI_lt z (by omega)), if_neg one, cl_of _ t1]
        cases h : lightN T N i
        · simp [nI_1, oI_some]
        · simp [nI_1, z, oI_some]
      · refine ⟨b, hb, ?_⟩
        rw [e2, if_neg (fun y => z y.1)]
        simp only [F_X0_fewestBoys_5, if_pos c1, jn_e, oI_some, if_neg (nI_ne c (by omega)), cl_of _ (s_bitCount (show i < 256 by omega) b), cl_of _ (s_bitCount (show c < 256 by omega) b), if_neg (fun y => z ((nI_ltI (by omega) (by omega)).mp y)), if_true, nI_1]
  · intro rec b hb
    have hcb := hc.trd hb
    have c1 : ¬ nI (2 ^ tL T) < (1 : Int32) <<< ((gI b t 1) &&& 31) := by rw [hcb.2.2.1, sh]; exact nI_nlt (Nat.le_refl _) (by omega)
    simp only [F_X0_fewestBoys_5, if_neg c1]
