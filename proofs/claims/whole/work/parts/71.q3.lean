theorem RC.congr {σ : Mm} {n W : Nat} {N N' : Nt} (r : RC σ n W N) (e1 : nT N' = nT N) (e2 : nP N' = nP N) (e3 : nD N' = nD N) (e4 : nL N' = nL N) (e5 : ∀ w, w < W → nB N' w = nB N w ∧ nG N' w = nG N w ∧ nS N' w = nS N w ∧ nE N' w = nE N w) : RC σ n W N' := by
  obtain ⟨r1, r2, r3, r4, r5, r6⟩ := r
  refine ⟨r1, by rw [e1]; exact r2, by rw [e2]; exact r3, by rw [e3]; exact r4, by rw [e4]; exact r5, fun w hw => ?_⟩
  obtain ⟨f1, f2, f3, f4⟩ := e5 w hw
  rw [f1, f2, f3, f4]; exact r6 w hw
theorem s_oilRest {σ : Mm} {t m : Nat} {T : Tw} {N : Nt} (hc : TC σ t T) (hT : TwOk T) (hm : (197 : Nat) ≠ m) (r : RC σ m (tW T) N) (hN : NtOk T N) {w s : Nat} (hw : w < tW T) (hs : ∀ v, v < tW T → s.testBit v = decide (v ≠ w)) :
    ∃ τ, f_X0_oilWithout t m (nI w) σ = some (nI (oilN T 0 (restN N s) (tkN T 0 (restN N s))), τ) ∧ Off (tryC t) σ τ := by
  have hW := hT.2.2.1
  have tn := town_night hc.1 n197
  obtain ⟨σ1, l1, a1⟩ := At.first (N := N) 0 hc hT hm r
  obtain ⟨σ2, l2, r2, o2⟩ := s_bringHome a1.2.2 hW hw
  have c2 := a1.2.1.off o2 (fun a ha => by simp only [List.mem_cons, List.not_mem_nil, or_false] at ha; omega)
  have r3 : RC σ2 197 (tW T) (restN N s) := r2.congr rfl rfl rfl rfl (fun v hv => by
    refine ⟨rfl, ?_, rfl, ?_⟩
    · rw [restN_G, hs v hv]
      show _ = updF (nG N) w (nB N w) v
      by_cases z : v = w
      · subst z; rw [updF_s]; simp
      · rw [updF_n z]; simp [z]
    · rw [restN_E, hs v hv]
      show _ = updF (nE N) w 0 v
      by_cases z : v = w
      · subst z; rw [updF_s]; simp
      · rw [updF_n z]; simp [z])
  obtain ⟨τ, t1, t2⟩ := s_oilToTheEnd c2 hT r3 (restN_ok hN s)
  unfold f_X0_oilWithout
  rw [ck_t hc.1, ck_t r.1, cl_of _ l1, jn_e2, if_neg (nI_ne w (by omega)), cl_of _ l2]
  exact ⟨τ, cl_of _ t1, a1.1.tr ((o2.mono (by simp [tryC])).tr t2.1)⟩
theorem maskW : ∀ w, w < 6 → (63 : Int32) &&& (((1 : Int32) <<< (nI w &&& 31)) ^^^ (-1)) = nI (63 - 2 ^ w) := by decide
theorem maskB : ∀ w, w < 6 → ∀ v, v < 6 → (63 - 2 ^ w).testBit v = decide (v ≠ w) := by decide
theorem q_share {σ μ : Mm} {t : Nat} {T : Tw} {N : Nt} (h : Bo σ μ t T N) (x : Int32) :
    (¬ (¬ x < 0 ∧ x < nI (tW T)) → f_X9_hasWalker t x σ = some (0, σ) ∧ ∃ μ', f_X12_share x μ = some (0, μ') ∧ gI μ' 0 0 = 1 ∧ QM μ μ') ∧ (¬ x < 0 ∧ x < nI (tW T) → f_X9_hasWalker t x σ = some (1, σ) ∧ ∃ r σ' μ', f_X11_share x σ = some (r, σ') ∧ f_X12_share x μ = some (r, μ') ∧ gI μ' 0 0 = 0 ∧ Off qC σ σ' ∧ QM μ μ') := by
  obtain ⟨hT, hN, ⟨ht, hc, rc⟩, hM⟩ := h
  have hW := hT.2.2.1
  have hw1 := (s_has hc.1 x (σ := σ)).2.2
  rw [hc.2.2.2.1] at hw1
  refine ⟨fun v => ?_, fun v => ?_⟩
  · rw [if_neg v] at hw1
    refine ⟨hw1, pI μ 0 0 1, ?_, by rw [gI_pI_s], QM.z μ 1⟩
    have hz := m_isWalker hM.1 x
    rw [if_neg v] at hz
    unfold f_X12_share
    rw [cl_of _ hz, jn_e2, if_pos rfl]
    unfold J_X12_share_14
    rw [bn_e, gI_pI_s, if_pos rfl]
  · rw [if_pos v] at hw1
    refine ⟨hw1, ?_⟩
    obtain ⟨w, hw, rfl⟩ := in_nat (by omega) v.1 v.2
    have hM0 := hM.q hT (QM.z μ 0)
    obtain ⟨τ, t1, t2⟩ := s_oilWithout0 hc hT ne6 rc hN
    have ci : CI τ t T N := CI.q ⟨ht, hc, rc⟩ (tryQ hc.1 t2)
    obtain ⟨τ2, u1, u2⟩ := s_oilRest ci.2.1 hT ne6 ci.2.2 hN hw (fun v hv => maskB w (by omega) v (by omega))
    obtain ⟨ν, n1, n2, n3, n4, n5⟩ := m_tries hM0.1 hT (hM0.rm hT) hN hM0.2.2.1
    have q1 := trM_Q n3 n4 n5
    have hM1 := hM0.q hT q1
    obtain ⟨μ2, e2⟩ : ∃ z, z = pI ν 0 57 (nI (63 - 2 ^ w)) := ⟨_, rfl⟩
    have oo : Off [0] ν μ2 := by rw [e2]; exact Off.pI (by simp)
    have h2 : TM μ2 T := hM1.1.off oo (fun a ha => by simp only [List.mem_cons, List.not_mem_nil, or_false] at ha; omega)
    have p2 : RP μ2 36 0 T N := hM1.2.1.copy hW (fun j _ => oo.1 36 (by simp) _)
    have lt : 63 - 2 ^ w < 2147483648 := Nat.lt_of_le_of_lt (Nat.sub_le _ _) (by decide)
    have r2 : RM μ2 T (restN N (63 - 2 ^ w)) := RM.rest p2 hT hN lt (by rw [e2, gI_pI_s])
    obtain ⟨ν2, m1, m2, m3, m4, m5⟩ := m_tries h2 hT r2 (restN_ok hN _) (show gI μ2 0 56 = 0 by rw [e2, gI_pI_n (Or.inr (by decide))]; exact hM1.2.2.1)
    have q2 := trM_Q m3 m4 m5
    refine ⟨nI (oilN T 0 N (tkN T 0 N)) - nI (oilN T 0 (restN N (63 - 2 ^ w)) (tkN T 0 (restN N (63 - 2 ^ w)))), τ2, pI ν2 0 57 63, ?_, ?_, ?_, (tryQ hc.1 t2).tr (tryQ hc.1 u2), ?_⟩
    · unfold f_X11_share
      rw [bn_e, ht, ck_t hc.1, cl_of _ hw1, if_neg one0, bn_e, cl_of _ t1, bn_e, ci.1, cl_of _ u1]
      rfl
    · have hz := m_isWalker hM.1 (nI w)
      rw [if_pos v] at hz
      unfold f_X12_share
      rw [cl_of _ hz, jn_e2, if_neg one0]
      unfold J_X12_share_14
      rw [bn_e, gI_pI_s, if_neg (show ¬ (0 : Int32) = 1 by decide), cl_of _ n1, bn_e, bn_e, maskW w (by omega), ← e2, cl_of _ m1, bn_e, gI_pI_n (Or.inr (by decide)), m2.2.2.1, n2.2.2.1]
    · rw [gI_pI_n (Or.inr (by decide)), m4 0 (by omega), e2, gI_pI_n (Or.inr (by decide)), n4 0 (by omega), gI_pI_s]
    · refine (QM.z μ 0).tr (q1.tr ⟨fun a ha k => ?_, fun j j1 j2 => ?_, fun j hj => ?_, fun a k ha => ?_, fun a k => ?_⟩)
      · have a0 : a ≠ 0 := fun z => ha (by rw [z]; simp [qM])
        rw [gI_pI_n (Or.inl a0), q2.1 a ha k, e2, gI_pI_n (Or.inl a0)]
      · by_cases z : j = 57
        · subst z; rw [gI_pI_s]; exact hM1.2.2.2.symm
        · rw [gI_pI_n (Or.inr z), q2.2.1 j j1 j2, e2, gI_pI_n (Or.inr z)]
      · rw [gI_pI_n (Or.inl (by decide)), q2.2.2.1 j hj, e2, gI_pI_n (Or.inl (by decide))]
      · rw [gL_pI, q2.2.2.2.1 a k ha, e2, gL_pI]
      · rw [gR_pI, q2.2.2.2.2 a k, e2, gR_pI]
/-- the reference sends boys, and looks whether it is light -/
theorem m_isLightBy {σ : Mm} {T : Tw} {N : Nt} (h : MI σ T N) (hT : TwOk T) (hN : NtOk T N) {s : Nat} (hs : s < 2147483648) :
    ∃ τ, f_X12_isLightBy (nI s) σ = some ((if lightN T N s then 1 else 0), τ) ∧ QM σ τ := by
  have hL := hT.2.1
  have hW := hT.2.2.1
  have n1 : (1 : Int32).toNatClampNeg = 1 := rfl
  obtain ⟨σ1, l1, o1, c1⟩ := cp37 σ
  obtain ⟨a1, a2, a3', a4⟩ := Mi.first (Or.inl rfl) h hT o1
  have so : ∀ {b}, Off (36 :: lawM) σ1 b → TM b T := fun {b} o => a1.off o (fun a ha => by simp only [lawM, List.mem_cons, List.not_mem_nil, or_false] at ha; omega)
  unfold f_X12_isLightBy
  rw [cl_of _ l1, jn_e2]
  obtain ⟨kx, ek⟩ : ∃ k : Mm → Option (Int32 × Mm), k = (fun (σ_45 : Mm) => cl (f_X12_tries σ_45) (fun _ σ46 => cl (f_X12_copies 37 (0 : Int32) 36 (0 : Int32) σ46) (fun _ σ59 => (if (gI σ59 0 61) = 0 then some ((1 : Int32), σ59) else some ((0 : Int32), σ59))))) := ⟨_, rfl⟩
  rw [← ek]
  have q := lq2_inv (F := F_X12_isLightBy_15 (nI s) kx) (fun i => nI i) (fun i b => Off (36 :: lawM) σ1 b ∧ RM b T (sendsN T N s i)) (tL T) kx ?_ ?_ (n := 1000000) (b0 := σ1) ⟨Off.rf, a2.2⟩ (by omega)
  · obtain ⟨b, ⟨b1, b2⟩, e⟩ := q
    have b56 : gI b 0 56 = 0 := by rw [b1.1 0 (by simp [lawM])]; exact a3'
    obtain ⟨ν, m1, m2, m3, m4, m5⟩ := m_tries (so b1) hT b2 (sendsN_ok hT hN s _) b56
    obtain ⟨σ3, l3, o3, c3⟩ := bk37 ν
    have dl := dsN_le T 0 (sendsN T N s (tL T)) hW (tkN T 0 (sendsN T N s (tL T)))
    have hle := tkN_le T 0 (sendsN T N s (tL T))
    have o12 : Off trM σ1 ν := (b1.mono (by simp [trM, ghM, lawM])).tr m3
    refine ⟨σ3, e.trans ?_, laidBack (Or.inl rfl) o1 c1 o12 (fun a ha => by simp only [trM, ghM, lawM, List.mem_cons, List.not_mem_nil, or_false] at ha; simp only [qM, lawM, List.mem_cons, List.not_mem_nil, or_false]; omega) (fun j _ h2 => by rw [m4 j (Or.inl h2), b1.1 0 (by simp [lawM])]) o3 c3⟩
    rw [ek]
    show cl (f_X12_tries b) _ = _
    rw [cl_of _ m1, cl_of _ l3, o3.1 0 (by simp), m2.2.1]
    unfold lightN
    have hx : nI (dsN T 0 (sendsN T N s (tL T)) (tkN T 0 (sendsN T N s (tL T)))) = 0 ↔ dsN T 0 (sendsN T N s (tL T)) (tkN T 0 (sendsN T N s (tL T))) = 0 := nI_eq (b := 0) (by omega) (by omega)
    by_cases c : dsN T 0 (sendsN T N s (tL T)) (tkN T 0 (sendsN T N s (tL T))) = 0
    · rw [if_pos (hx.mpr c), if_pos (decide_eq_true c)]
    · rw [if_neg (fun z => c (hx.mp z)), if_neg (fun z => c (of_decide_eq_true z))]
  · intro rec i b hi hb
    obtain ⟨b1, b2⟩ := hb
    have hTb := so b1
    have c1 : nI i < gI b 2 1 := by rw [hTb.2.1]; exact nI_lt hi (by omega)
    by_cases z : s.testBit i = true
    · obtain ⟨τ, t1, t2, t3⟩ := m_sends hTb hT b2 (sendsN_ok hT hN s i) (by rw [b1.1 0 (by simp [lawM])]; exact a3') hi
      refine ⟨τ, ⟨b1.tr t3, ?_⟩, ?_⟩
      · show RM τ T (if s.testBit i then sendN T (sendsN T N s i) i else sendsN T N s i)
        rw [if_pos z]; exact t2
      · simp only [F_X12_isLightBy_15, ck_t (show inb 1 8 = true from rfl), n1, if_pos c1, jn_e, if_pos ((shr_bit1 hs (show i < 31 by omega)).mpr z), cl_of _ t1, nI_1]
    · refine ⟨b, ⟨b1, ?_⟩, ?_⟩
      · show RM b T (if s.testBit i then sendN T (sendsN T N s i) i else sendsN T N s i)
        rw [if_neg z]; exact b2
      · simp only [F_X12_isLightBy_15, ck_t (show inb 1 8 = true from rfl), n1, if_pos c1, jn_e, if_neg (fun y => z ((shr_bit1 hs (show i < 31 by omega)).mp y)), nI_1]
  · intro rec b hb
    have c1 : ¬ nI (tL T) < gI b 2 1 := by rw [(so hb.1).2.1]; exact nI_nlt (Nat.le_refl _) (by omega)
    simp only [F_X12_isLightBy_15, ck_t (show inb 1 8 = true from rfl), n1, if_neg c1]
theorem q_boys {σ μ : Mm} {t : Nat} {T : Tw} {N : Nt} (h : Bo σ μ t T N) : An f_X11_boys f_X12_boys σ μ := by
  obtain ⟨hT, hN, ⟨ht, hc, rc⟩, hM⟩ := h
  have hM := hM.q hT (QM.z μ 0)
  have hL := hT.2.1
  have n1 : (1 : Int32).toNatClampNeg = 1 := rfl
  have pw : 2 ^ tL T ≤ 2 ^ 8 := Nat.pow_le_pow_right (by decide) hL
  have sh : (1 : Int32) <<< (nI (tL T) &&& 31) = nI (2 ^ tL T) := one_shl (by omega)
  obtain ⟨τ, t1, t2⟩ := s_fewestBoys hc hT ne6 rc hN
  have q := lq3_inv (F := F_X12_boys_9 (fun x τ => some (x, τ))) (fun i => oI (fewB (lightN T N) i)) (fun i => nI i) (fun i b => QM (pI μ 0 0 0) b) (2 ^ tL T) (fun b => some (oI (fewB (lightN T N) (2 ^ tL T)), b)) ?_ ?_ (n := 1000000) (b0 := pI μ 0 0 0) QM.rf (by omega)
  · obtain ⟨b, hb, e⟩ := q
    unfold An f_X11_boys f_X12_boys
    simp only [bn_e, ht, cl_of _ t1, jn_e2]
    exact ⟨_, _, b, rfl, e, tryQ hc.1 t2, (QM.z μ 0).tr hb⟩
  · intro rec i b hi hb
    have hMb := hM.q hT hb
    have c1 : nI i < (1 : Int32) <<< ((gI b 2 1) &&& 31) := by rw [hMb.1.2.1, sh]; exact nI_lt hi (by omega)
    obtain ⟨υ, u1, u2⟩ := m_isLightBy hMb hT hN (s := i) (by omega)
    have m1 : (-1 : Int32) < 0 := by decide
    cases e : fewB (lightN T N) i with
    | none =>
      refine ⟨υ, hb.tr u2, ?_⟩
      have e2 : fewB (lightN T N) (i + 1) = if lightN T N i then some i else none := by unfold fewB; rw [e]
      rw [e2]
      simp only [F_X12_boys_9, ck_t (show inb 1 8 = true from rfl), n1, if_pos c1, jn_e, oI_none, if_pos m1, cl_of _ u1]
      cases lightN T N i
      · simp [nI_1, oI_none]
      · simp [nI_1, oI_some]
    | some c =>
      have hcl := fewB_lt _ e
      have e2 : fewB (lightN T N) (i + 1) = if pc8 i < pc8 c ∧ lightN T N i = true then some i else some c := by unfold fewB; rw [e]
      have p1 := pc8_le i
      have p2 := pc8_le c
      by_cases z : pc8 i < pc8 c
      · refine ⟨υ, hb.tr u2, ?_⟩
        rw [e2]
        simp only [F_X12_boys_9, ck_t (show inb 1 8 = true from rfl), n1, if_pos c1, jn_e, oI_some, if_neg (nI_pos (n := c) (by omega)), cl_of _ (m_bits (show i < 2147483648 by omega) b), cl_of _ (m_bits (show c < 2147483648 by omega) b), if_pos (nI_lt z (by omega)), cl_of _ u1]
        cases h : lightN T N i
        · simp [nI_1, oI_some]
        · simp [nI_1, z, oI_some]
      · refine ⟨b, hb, ?_⟩
        rw [e2, if_neg (fun y => z y.1)]
        simp only [F_X12_boys_9, ck_t (show inb 1 8 = true from rfl), n1, if_pos c1, jn_e, oI_some, if_neg (nI_pos (n := c) (by omega)), cl_of _ (m_bits (show i < 2147483648 by omega) b), cl_of _ (m_bits (show c < 2147483648 by omega) b), if_neg (fun y => z ((nI_ltI (by omega) (by omega)).mp y)), nI_1]
  · intro rec b hb
    have hMb := hM.q hT hb
    have c1 : ¬ nI (2 ^ tL T) < (1 : Int32) <<< ((gI b 2 1) &&& 31) := by rw [hMb.1.2.1, sh]; exact nI_nlt (Nat.le_refl _) (by omega)
    simp only [F_X12_boys_9, ck_t (show inb 1 8 = true from rfl), n1, if_neg c1]
