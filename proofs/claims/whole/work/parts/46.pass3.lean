theorem nI_gt0 {l : Nat} (h : l < 2147483648) : (0 < nI l) ↔ 0 < l := by rw [show (0 : Int32) = nI 0 from rfl]; exact nI_ltI (by omega) (by omega)
theorem nI_dec {l : Nat} (h : 0 < l) : nI l - 1 = nI (l - 1) := by
  obtain ⟨m, rfl⟩ : ∃ m, l = m + 1 := ⟨l - 1, by omega⟩
  exact nI_pred m
theorem ftN_le (T : Tw) (N : Nt) (k : Nat) : ftN T N k ≤ tW T := cnt_le _ _
/-- the lanes burn down, and are lit -/
theorem s_pass76 {σ : Mm} {t n : Nat} {T : Tw} {N : Nt} {lg : Int32} (hlg : LgOk lg) (h : TC σ t T) (hT : TwOk T) (hn : isNight n = true) (hN : NtOk T N) (h0 : gI σ n 0 = nT N) (h1 : ∀ k, k < 8 → gI σ (n + 1) k = nI (nL N k)) (h6 : ∀ j, j < tL T → gI σ (n + 6) j = nI (ftN T N j)) (kx : Mm → Option (Int32 × Mm)) :
    ∃ τ, lq2 (F_X4_pass_76 n t lg kx) 1000000 (0 : Int32) σ = kx τ ∧ Off [n + 1, t + 3] σ τ ∧ ∀ k, k < 8 → gI τ (n + 1) k = nI (litN T N lg k) := by
  have hW := hT.2.2.1
  have hL := hT.2.1
  have tn := town_night h.1 hn
  have q := lq2_inv (F := F_X4_pass_76 n t lg kx) (fun i => nI i) (fun i b => Off [n + 1, t + 3] σ b ∧ ∀ k, k < 8 → gI b (n + 1) k = nI (if k < i then litN T N lg k else nL N k)) (tL T) kx ?_ ?_ (n := 1000000) (b0 := σ) ?_ (by omega)
  · obtain ⟨b, hb, e⟩ := q
    refine ⟨b, e, hb.1, fun k hk => ?_⟩
    rw [hb.2 k hk]
    by_cases c : k < tL T
    · rw [if_pos c]
    · rw [if_neg c]; unfold litN; rw [if_neg c]
  · intro rec i b hi hb
    obtain ⟨o, b1⟩ := hb
    have hTb := h.off o (fun a ha => by simp only [List.mem_cons, List.not_mem_nil, or_false] at ha; omega)
    have c1 : nI i < gI b t 1 := by rw [hTb.2.2.1]; exact nI_lt hi (by omega)
    have ib : inb (nI i) 8 = true := inb_nI (by omega) (by omega)
    have ci : (nI i).toNatClampNeg = i := nI_tn (by omega)
    have hl : gI b (n + 1) i = nI (nL N i) := by have := b1 i (by omega); rw [if_neg (Nat.lt_irrefl i)] at this; exact this
    have l30 := hN.1 i
    -- a minute less
    obtain ⟨b', e', o', l'⟩ : ∃ b', (if 0 < nI (nL N i) then pI b (n + 1) i (nI (nL N i) - 1) else b) = b' ∧ Off [n + 1] b b' ∧ ∀ k, k < 8 → gI b' (n + 1) k = nI (if k < i then litN T N lg k else if k = i then nL N k - 1 else nL N k) := by
      refine ⟨_, rfl, ?_, fun k hk => ?_⟩
      · split
        · exact Off.pI (by simp)
        · exact Off.rf
      · by_cases c : 0 < nL N i
        · rw [if_pos ((nI_gt0 (by omega)).mpr c), nI_dec c]
          by_cases z : k = i
          · subst z; rw [gI_pI_s, if_neg (Nat.lt_irrefl k), if_pos rfl]
          · rw [gI_pI_n (Or.inr z), b1 k hk, if_neg z]
        · rw [if_neg (fun z => c ((nI_gt0 (by omega)).mp z)), b1 k hk]
          by_cases z : k = i
          · subst z; rw [if_neg (Nat.lt_irrefl k), if_neg (Nat.lt_irrefl k), if_pos rfl]
            congr 1
            omega
          · rw [if_neg z]
    have hTb' := hTb.off o' (fun a ha => by simp only [List.mem_cons, List.not_mem_nil, or_false] at ha; omega)
    have f6 : gI b' (n + 6) i = nI (ftN T N i) := by rw [o'.1 _ (by simp), o.1 _ (by simp; omega)]; exact h6 i hi
    have f0 : gI b' n 0 = nT N := by rw [o'.1 _ (by simp), o.1 _ (by simp; omega)]; exact h0
    have fl := ftN_le T N i
    have hl' : gI b' (n + 1) i = nI (nL N i - 1) := by have := l' i (by omega); rw [if_neg (Nat.lt_irrefl i), if_pos rfl] at this; exact this
    have unf : ∀ (E : Mm → Option (Int32 × Mm)), (if 0 < nI (nL N i) then E (pI b (n + 1) i (nI (nL N i) - 1)) else E b) = E b' := fun E => by rw [← e']; split <;> rfl
    by_cases cf : 0 < ftN T N i
    · obtain ⟨τ, t1, t2, t3⟩ := s_lightUp hTb' hT hn hi hl' (by omega) (nI (ftN T N i)) hlg
      refine ⟨τ, ⟨o.tr ((o'.mono (by simp)).tr t2), fun k hk => ?_⟩, ?_⟩
      · rw [t3 k]
        by_cases z : k = i
        · subst z
          rw [if_pos rfl, if_pos (Nat.lt_succ_self k), f0]
          unfold litN
          rw [if_pos hi, if_pos cf]
        · rw [if_neg z, l' k hk, if_neg z]
          have e2 : k < i + 1 ↔ k < i := by omega
          simp only [e2]
      · simp only [F_X4_pass_76, if_pos c1, ck_t ib, ci, hl, jn_e, bn_e]
        rw [unf (fun σ_103 => if 0 < gI σ_103 (n + 6) i then cl (f_X4_lightUp n t (nI i) (gI σ_103 (n + 6) i) lg σ_103) fun _ σ122 => rec (nI i + 1) σ122 else rec (nI i + 1) σ_103)]
        rw [f6, if_pos ((nI_gt0 (by omega)).mpr cf), cl_of _ t1, nI_1]
    · refine ⟨b', ⟨o.tr (o'.mono (by simp)), fun k hk => ?_⟩, ?_⟩
      · rw [l' k hk]
        by_cases z : k = i
        · subst z
          rw [if_neg (Nat.lt_irrefl k), if_pos rfl, if_pos (Nat.lt_succ_self k)]
          unfold litN
          rw [if_pos hi, if_neg cf]
        · have e2 : k < i + 1 ↔ k < i := by omega
          simp only [e2, if_neg z]
      · simp only [F_X4_pass_76, if_pos c1, ck_t ib, ci, hl, jn_e, bn_e]
        rw [unf (fun σ_103 => if 0 < gI σ_103 (n + 6) i then cl (f_X4_lightUp n t (nI i) (gI σ_103 (n + 6) i) lg σ_103) fun _ σ122 => rec (nI i + 1) σ122 else rec (nI i + 1) σ_103)]
        rw [f6, if_neg (fun z => cf ((nI_gt0 (by omega)).mp z)), nI_1]
  · intro rec b hb
    have hTb := h.off hb.1 (fun a ha => by simp only [List.mem_cons, List.not_mem_nil, or_false] at ha; omega)
    have c1 : ¬ nI (tL T) < gI b t 1 := by rw [hTb.2.2.1]; exact nI_nlt (Nat.le_refl _) (by omega)
    simp only [F_X4_pass_76, if_neg c1]
  · exact ⟨Off.rf, fun k hk => by rw [if_neg (Nat.not_lt_zero k)]; exact h1 k hk⟩
theorem s_pass12 {σ : Mm} {t n : Nat} {T : Tw} (h : TC σ t T) (hT : TwOk T) (hn : isNight n = true) (kx : Mm → Option (Int32 × Mm)) :
    ∃ τ, lq2 (F_X4_pass_12 n t kx) 1000000 (0 : Int32) σ = kx τ ∧ Off [n + 6] σ τ ∧ ∀ j, j < tL T → gI τ (n + 6) j = 0 := by
  have hL := hT.2.1
  have tn := town_night h.1 hn
  have q := lq2_inv (F := F_X4_pass_12 n t kx) (fun i => nI i) (fun i b => Off [n + 6] σ b ∧ ∀ j, j < i → gI b (n + 6) j = 0) (tL T) kx ?_ ?_ (n := 1000000) (b0 := σ) ?_ (by omega)
  · obtain ⟨b, hb, e⟩ := q
    exact ⟨b, e, hb.1, hb.2⟩
  · intro rec i b hi hb
    have hTb := h.off hb.1 (fun a ha => by simp only [List.mem_cons, List.not_mem_nil, or_false] at ha; omega)
    have c1 : nI i < gI b t 1 := by rw [hTb.2.2.1]; exact nI_lt hi (by omega)
    refine ⟨pI b (n + 6) i 0, ⟨hb.1.tr (Off.pI (by simp)), fun j hj => ?_⟩, ?_⟩
    · by_cases z : j = i
      · subst z; rw [gI_pI_s]
      · rw [gI_pI_n (Or.inr z)]; exact hb.2 j (by omega)
    · simp only [F_X4_pass_12, if_pos c1, ck_t (inb_nI (show i < 8 by omega) (by omega)), bn_e, nI_tn (show i < 2147483648 by omega), nI_1]
  · intro rec b hb
    have hTb := h.off hb.1 (fun a ha => by simp only [List.mem_cons, List.not_mem_nil, or_false] at ha; omega)
    have c1 : ¬ nI (tL T) < gI b t 1 := by rw [hTb.2.2.1]; exact nI_nlt (Nat.le_refl _) (by omega)
    simp only [F_X4_pass_12, if_neg c1]
  · exact ⟨Off.rf, fun j hj => absurd hj (Nat.not_lt_zero j)⟩
theorem jn_e' {α β : Type} (K : α → β) (E : (α → β) → β) : jn K E = E K := by
  have h : ∀ x, x = jn K E → x = E K := fun x hx => by rw [hx]; exact jn_e ..
  exact h _ (Eq.refl _)
theorem J33_e (n t : Nat) (lg : Int32) (σ_33 : Mm) : J_X4_pass_33 n t lg σ_33 = lq2 (F_X4_pass_35 n t (fun σ_74 => lq2 (F_X4_pass_76 n t lg (fun σ_131 => bn (pI σ_131 n 0 (gI σ_131 n 0 + 1)) fun σ138 => cl (f_J6_bitCount_0f7a4 (gI σ138 n 9) σ138) fun r150 _ => bn (pI σ138 n 2 (gI σ138 n 2 + r150)) fun σ154 => some (0, σ154))) 1000000 0 σ_74)) 1000000 0 σ_33 := by
  unfold J_X4_pass_33
  rw [jn_e']
  simp only [jn_e']
/-- A MINUTE, in the class -/
theorem s_pass {σ : Mm} {t n : Nat} {T : Tw} {N : Nt} {lg : Int32} (hlg : LgOk lg) (h : TC σ t T) (hT : TwOk T) (r : RC σ n (tW T) N) (hN : NtOk T N) :
    ∃ τ, f_X4_pass n t lg σ = some (0, τ) ∧ RC τ n (tW T) (passN T N lg) ∧ Off [n, n + 1, n + 2, n + 5, n + 6, t + 3] σ τ ∧ gI τ n 9 = nI (bts (dkN T N) (tW T)) ∧ gI τ n 10 = nI (bts (wkN T N) (tL T)) := by
  have hW := hT.2.2.1
  have hL := hT.2.1
  have hn := r.1
  have tn := town_night h.1 hn
  obtain ⟨r1, r2, r3, r4, r5, r6⟩ := id r
  unfold f_X4_pass
  rw [ck_t hn, ck_t h.1, bn_e, bn_e]
  simp only [jn_e]
  -- the flags
  obtain ⟨σ1, e1⟩ : ∃ z, z = pI (pI σ n 9 0) n 10 0 := ⟨_, rfl⟩
  rw [← e1]
  have o1 : Off [n] σ σ1 := by rw [e1]; exact (Off.pI (by simp)).tr (Off.pI (by simp))
  have a9 : gI σ1 n 9 = 0 := by rw [e1, gI_pI_n (Or.inr (by decide)), gI_pI_s]
  have a10 : gI σ1 n 10 = 0 := by rw [e1, gI_pI_s]
  have ax : ∀ j, j ≠ 9 → j ≠ 10 → gI σ1 n j = gI σ n j := fun j z1 z2 => by rw [e1, gI_pI_n (Or.inr z2), gI_pI_n (Or.inr z1)]
  have h1 := h.off o1 (fun a ha => by simp only [List.mem_cons, List.not_mem_nil, or_false] at ha; omega)
  -- no feet
  obtain ⟨σ2, l2, o2, f2⟩ := s_pass12 h1 hT hn (J_X4_pass_33 n t lg)
  simp only [l2]
  rw [J33_e]
  have h2 := h1.off o2 (fun a ha => by simp only [List.mem_cons, List.not_mem_nil, or_false] at ha; omega)
  have g2 : ∀ a, a ≠ n + 6 → ∀ j, gI σ2 a j = gI σ1 a j := fun a ha j => o2.1 a (by simpa using ha) j
  have g1 : ∀ a, a ≠ n → ∀ j, gI σ1 a j = gI σ a j := fun a ha j => o1.1 a (by simpa using ha) j
  have R2 : RC σ2 n (tW T) N := ⟨hn, by rw [g2 n (by omega), ax 0 (by decide) (by decide)]; exact r2, by rw [g2 n (by omega), ax 1 (by decide) (by decide)]; exact r3, by rw [g2 n (by omega), ax 2 (by decide) (by decide)]; exact r4, fun k hk => by rw [g2 _ (by omega), g1 _ (by omega)]; exact r5 k hk, fun w hw => by
    rw [g2 (n + 2) (by omega), g2 (n + 3) (by omega), g2 (n + 4) (by omega), g2 (n + 5) (by omega), g1 (n + 2) (by omega), g1 (n + 3) (by omega), g1 (n + 4) (by omega), g1 (n + 5) (by omega)]
    exact r6 w hw⟩
  -- the walkers
  obtain ⟨σ3, l3, o3, x3, n9, n10, f3, b3⟩ := s_pass35 lg h2 hT R2 hN (by rw [g2 n (by omega)]; exact a9) (by rw [g2 n (by omega)]; exact a10) f2 (fun σ_74 => lq2 (F_X4_pass_76 n t lg (fun σ_131 => bn (pI σ_131 n 0 (gI σ_131 n 0 + 1)) fun σ138 => cl (f_J6_bitCount_0f7a4 (gI σ138 n 9) σ138) fun r150 _ => bn (pI σ138 n 2 (gI σ138 n 2 + r150)) fun σ154 => some (0, σ154))) 1000000 0 σ_74)
  simp only [l3]
  have h3 := h2.off o3 (fun a ha => by simp only [List.mem_cons, List.not_mem_nil, or_false] at ha; omega)
  have g3 : ∀ a, a ≠ n → a ≠ n + 2 → a ≠ n + 5 → a ≠ n + 6 → ∀ j, gI σ3 a j = gI σ2 a j := fun a z1 z2 z3 z4 j => o3.1 a (by simp; omega) j
  -- the lanes
  obtain ⟨σ4, l4, o4, f4⟩ := s_pass76 hlg h3 hT hn hN (by rw [x3 0 (by decide) (by decide)]; exact R2.2.1) (fun k hk => by rw [g3 _ (by omega) (by omega) (by omega) (by omega)]; exact R2.2.2.2.2.1 k hk) f3 (fun σ_131 => bn (pI σ_131 n 0 (gI σ_131 n 0 + 1)) fun σ138 => cl (f_J6_bitCount_0f7a4 (gI σ138 n 9) σ138) fun r150 _ => bn (pI σ138 n 2 (gI σ138 n 2 + r150)) fun σ154 => some (0, σ154))
  simp only [l4]
  have g4 : ∀ a, a ≠ n + 1 → a ≠ t + 3 → ∀ j, gI σ4 a j = gI σ3 a j := fun a z1 z2 j => o4.1 a (by simp; omega) j
  have v0 : gI σ4 n 0 = nT N := by rw [g4 n (by omega) (by omega), x3 0 (by decide) (by decide)]; exact R2.2.1
  have v1 : gI σ4 n 1 = nP N := by rw [g4 n (by omega) (by omega), x3 1 (by decide) (by decide)]; exact R2.2.2.1
  have v2 : gI σ4 n 2 = nD N := by rw [g4 n (by omega) (by omega), x3 2 (by decide) (by decide)]; exact R2.2.2.2.1
  have v9 : gI σ4 n 9 = nI (bts (dkN T N) (tW T)) := by rw [g4 n (by omega) (by omega)]; exact n9
  have v10 : gI σ4 n 10 = nI (bts (wkN T N) (tL T)) := by rw [g4 n (by omega) (by omega)]; exact n10
  have lt : bts (dkN T N) (tW T) < 256 := Nat.lt_of_lt_of_le (bts_lt _ _) (show 2 ^ tW T ≤ 2 ^ 8 from Nat.pow_le_pow_right (by decide) (by omega))
  have w9 : gI (pI σ4 n 0 (gI σ4 n 0 + 1)) n 9 = nI (bts (dkN T N) (tW T)) := by rw [gI_pI_n (Or.inr (by decide))]; exact v9
  simp only [bn_e, w9]
  simp only [cl_of _ (s_bitCount lt _), pc8_bts _ (show tW T ≤ 8 by omega), bn_e]
  have u : ∀ j, j ≠ 0 → j ≠ 2 → ∀ x y, gI (pI (pI σ4 n 0 x) n 2 y) n j = gI σ4 n j := fun j z1 z2 x y => by rw [gI_pI_n (Or.inr z2), gI_pI_n (Or.inr z1)]
  have ux : ∀ a, a ≠ n → ∀ j x y, gI (pI (pI σ4 n 0 x) n 2 y) a j = gI σ4 a j := fun a z j x y => by rw [gI_pI_n (Or.inl z), gI_pI_n (Or.inl z)]
  refine ⟨_, rfl, ⟨hn, ?_, ?_, ?_, fun k hk => ?_, fun w hw => ?_⟩, ?_, ?_, ?_⟩
  · rw [gI_pI_n (Or.inr (by decide)), gI_pI_s, v0]; rfl
  · rw [u 1 (by decide) (by decide)]; exact v1
  · rw [gI_pI_s, gI_pI_n (Or.inr (by decide)), v2]; rfl
  · rw [ux _ (by omega)]; exact f4 k hk
  · rw [ux _ (by omega), ux _ (by omega), ux _ (by omega), ux _ (by omega), g4 (n + 2) (by omega) (by omega), g4 (n + 3) (by omega) (by omega), g4 (n + 4) (by omega) (by omega), g4 (n + 5) (by omega) (by omega), g3 (n + 3) (by omega) (by omega) (by omega) (by omega), g3 (n + 4) (by omega) (by omega) (by omega) (by omega)]
    have q := R2.2.2.2.2.2 w hw
    exact ⟨(b3 w hw).1, q.2.1, q.2.2.1, (b3 w hw).2⟩
  · exact (o1.mono (by simp)).tr ((o2.mono (by simp)).tr ((o3.mono (by simp)).tr ((o4.mono (by simp)).tr ((Off.pI (by simp)).tr (Off.pI (by simp))))))
  · rw [u 9 (by decide) (by decide)]; exact v9
  · rw [u 10 (by decide) (by decide)]; exact v10
