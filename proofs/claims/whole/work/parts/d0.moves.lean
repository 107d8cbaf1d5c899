/-! minute, send, waits, back, undo -/
theorem iv_z {σ μ : Mm} (h : Iv σ μ) : Iv σ (pI μ 0 0 0) := by
  obtain ⟨t, T, D, N, a, l, w, s, n, hT, hN, hL, hA, hD, hW, hR, hM⟩ := h
  exact iv_q hT hN hL hA hD hW hR hM (fun _ _ _ _ _ => rfl) (fun _ _ => rfl) (fun _ _ => rfl) (QM.z μ 0)
def keepM : List Nat := 0 :: 40 :: passM
theorem iv_n {σ μ σ' μ' : Mm} {t a : Nat} {T : Tw} {D : Nat → Nat → Nat} {l : Ln} {w : Wt} {s : Nat → Nat} {n : Nat} (hT : IT σ μ t T D) (hL : IL σ μ T a l) (hA : IA σ μ T w) (hW : IW σ μ s n) (hM : ∀ i, i < 4 → MkI σ μ T i) (o : ∀ b, b < 6 ∨ 126 < b → b ≠ 196 → b ≠ t + 3 → ∀ k, gI σ' b k = gI σ b k) (oL : ∀ b k, gL σ' b k = gL σ b k) (oR : ∀ b k, gR σ' b k = gR σ b k) (p : ∀ b, b ∉ keepM → ∀ k, gI μ' b k = gI μ b k) (p1 : gI μ' 0 1 = gI μ 0 1) (pL : ∀ b k, gL μ' b k = gL μ b k) : IT σ' μ' t T D ∧ IL σ' μ' T a l ∧ IA σ' μ' T w ∧ IW σ' μ' s n ∧ ∀ i, i < 4 → MkI σ' μ' T i := by
  have ta := town_a hT.2.2.2.1.1
  have la := hL.1
  refine ⟨hT.fr (fun b h1 h2 h3 k => o b (by omega) (by omega) (by omega) k) (fun b _ _ k => oL b k) (oR _ _) (oR _ _) ⟨fun x h1 h2 k _ => p x (by simp [keepM, passM, lawM]; omega) k, fun k _ => p 27 (by simp [keepM, passM, lawM]) k⟩ (fun x hx k _ => pL x k), hL.fr (fun b h1 h2 k => o b (by omega) (by omega) (by omega) k) (oR _ _) (oR _ _) (p 28 (by simp [keepM, passM, lawM]) _) (fun b h1 h2 k _ => p b (by simp [keepM, passM, lawM]; omega) k), hA.fr (fun b h1 h2 k => o b (by omega) (by omega) (by omega) k) (p 32 (by simp [keepM, passM, lawM]) _) (fun b h1 h2 k _ => p b (by simp [keepM, passM, lawM]; omega) k), hW.fr (oL 5) (o 1 (by omega) (by omega) (by omega) 1) (o 2 (by omega) (by omega) (by omega)) p1 (p 1 (by simp [keepM, passM, lawM])) (fun b h1 k => o b (by omega) (by omega) (by omega) k), fun i hi => (hM i hi).fr hT.1 hi (fun b h1 h2 k => o b (by unfold markAt at h1; omega) (by unfold markAt at h2; omega) (by unfold markAt at h2; omega) k) (p 41 (by simp [keepM, passM, lawM]) _) (fun k _ _ => p 39 (by simp [keepM, passM, lawM]) k) (p 28 (by simp [keepM, passM, lawM]) _) (fun b h1 h2 k _ _ => p b (by simp [keepM, passM, lawM]; omega) k) (p 32 (by simp [keepM, passM, lawM]) _) (fun b h1 h2 k _ _ => p b (by simp [keepM, passM, lawM]; omega) k)⟩
/-- the past is kept, all else stands; the night may go on -/
theorem v_kept {σ μ : Mm} {t a : Nat} {T : Tw} {D : Nat → Nat → Nat} {N : Nt} {l : Ln} {w : Wt} {s : Nat → Nat} {n : Nat} (hT : IT σ μ t T D) (hN : IN σ μ T N) (hL : IL σ μ T a l) (hA : IA σ μ T w) (hW : IW σ μ s n) (hR : RgI σ μ T) (hM : ∀ i, i < 4 → MkI σ μ T i) : ∃ σ' μ', f_X11_keepPast σ = some (0, σ') ∧ f_X12_keeps μ = some (0, μ') ∧ IT σ' μ' t T D ∧ IN σ' μ' T N ∧ ∀ σ'' μ'' N', IN σ'' μ'' T N' → (∀ b, b < 6 ∨ 12 < b → b ≠ t + 3 → ∀ k, gI σ'' b k = gI σ' b k) → (∀ b k, gL σ'' b k = gL σ' b k) → (∀ b k, gR σ'' b k = gR σ' b k) → Off passM μ' μ'' → Iv σ'' μ'' := by
  obtain ⟨σ1, μ2, k1, k2, k3, k4, k5, k6, k7, k8, k9, k10, k11⟩ := v_keep hT.1 hR hN
  have ta := town_a hT.2.2.2.1.1
  have p9 : ∀ b, b ∉ keepM → ∀ k, gI μ2 b k = gI μ b k := fun b hb k => k8 b (fun z => hb (by rw [z]; simp [keepM])) (fun z => hb (by rw [z]; simp [keepM])) k
  obtain ⟨a1, a2, a3, a4, a5⟩ := iv_n (σ' := σ1) (μ' := μ2) hT hL hA hW hM (fun b h1 h2 _ k => k5 b (by omega) h2 k) k6 k7 p9 (k9 1 (by omega)) k10
  refine ⟨σ1, μ2, k1, k2, a1, hN.fr hT.1 (fun b h1 h2 k => k5 b (by omega) (by omega) k) (fun j _ => k8 36 (by decide) (by decide) j) (k9 56 (by omega)) (k9 57 (by omega)), fun σ3 μ3 N' hN' o oL oR p => ?_⟩
  have p0 : ∀ k, gI μ3 0 k = gI μ2 0 k := p.1 0 (by simp [passM, lawM])
  obtain ⟨b1, b2, b3, b4, b5⟩ := iv_n (σ' := σ3) (μ' := μ3) a1 a2 a3 a4 a5 (fun b h1 h2 h3 k => o b (by omega) h3 k) oL oR (fun b hb k => p.1 b (fun z => hb (by simp only [keepM, List.mem_cons]; exact Or.inr (Or.inr z))) k) (p0 1) p.2.1
  exact ⟨t, T, D, N', a, l, w, s, n, b1, hN', b2, b3, fun z => absurd (by rw [o 196 (by omega) (by omega)]; exact k4) z, b4, k3.fr hT.1 (fun b h1 h2 k => o b (by omega) (by omega) k) (p0 55) (p.1 40 (by simp [passM, lawM])), b5⟩
theorem cnt_dkI {T : Tw} {N : Nt} (hT : TwOk T) (σ : Mm) : f_J6_bitCount_0f7a4 (nI (bts (dkN T N) (tW T))) σ = some (nI (cnt (dkN T N) (tW T)), σ) := by
  have hL := hT.2.2.1
  have lt : bts (dkN T N) (tW T) < 256 := Nat.lt_of_lt_of_le (bts_lt _ _) (show 2 ^ tW T ≤ 2 ^ 8 from Nat.pow_le_pow_right (by decide) (by omega))
  rw [s_bitCount lt, pc8_bts _ (by omega)]
theorem v_minute {σ μ : Mm} (h : Iv σ μ) : AnI f_X11_minute f_X12_minute σ μ := by
  have hz := iv_z h
  obtain ⟨μ1, e1⟩ : ∃ y, y = pI μ 0 0 0 := ⟨_, rfl⟩
  unfold AnI f_X11_minute f_X12_minute
  rw [← e1] at hz
  simp only [bn_e, ← e1]
  obtain ⟨t, T, D, N, a, l, w, s, n, hT, hN, hL, hA, hD, hW, hR, hM⟩ := hz
  obtain ⟨σ1, μ2, k1, k2, hT1, hN1, kk⟩ := v_kept hT hN hL hA hW hR hM
  have ta := town_a hT.2.2.2.1.1
  obtain ⟨σ2, p1, p2, p3, p4, p5⟩ := s_pass LgOk.z hT1.2.2.2.1 hT1.1 hN1.2.1 hN1.1
  obtain ⟨μ3, m1, m2, m3, m4, m5⟩ := m_passes hT1.2.2.2.2.1.tm hT1.1 (RM.of_RP hN1.2.2.1 hT1.1.2.2.1 hN1.2.2.2.2) hN1.1
  rw [hN1.2.2.2.1] at m2
  have q0 : ∀ k, gI μ3 0 k = gI μ2 0 k := m3.1 0 (by simp [passM, lawM])
  have q57 : gI μ3 0 57 = 63 := (q0 57).trans hN1.2.2.2.2
  simp only [cl_of _ k1, cl_of _ k2, hT1.2.1, cl_of _ p1, cl_of _ m1, p4, cl_of _ (cnt_dkI hT1.1 _)]
  exact ⟨_, _, _, rfl, rfl, kk σ2 μ3 (passN T N 0) ⟨passN_ok hT.1 hN1.1 0, p2, RM.to_RP m2 hT.1.2.2.1 q57, (q0 56).trans hN1.2.2.2.1, q57⟩ (fun b h1 h2 k => p3.1 b (by simp; omega) k) p3.2.1 p3.2.2 m3⟩
theorem v_waits {σ μ : Mm} (h : Iv σ μ) (x : Int32) : AnI (f_X11_waits x) (f_X12_waits x) σ μ := by
  have hz := iv_z h
  obtain ⟨μ1, e1⟩ : ∃ y, y = pI μ 0 0 0 := ⟨_, rfl⟩
  rw [← e1] at hz
  have hi := hz
  unfold AnI f_X11_waits f_X12_waits
  obtain ⟨t, T, D, N, a, l, w, s, n, hT, hN, hL, hA, hD, hW, hR, hM⟩ := hz
  have hc := hT.2.2.2.1
  have hm := hT.2.2.2.2.1.tm
  have w6 := hT.1.2.2.1
  simp only [bn_e, ← e1, hT.2.1, ck_t hc.1, cl_of _ (s_has hc.1 x).2.2, hc.2.2.2.1, cl_of _ (m_isWalker hm x), jn_e2]
  by_cases v : ¬ x < 0 ∧ x < nI (tW T)
  · obtain ⟨u, hu, rfl⟩ := in_nat (by omega) v.1 v.2
    have rm := RM.of_RP hN.2.2.1 w6 hN.2.2.2.2
    simp only [if_pos v, if_neg one0, cl_of _ (s_isHome hc hT.1 hN.2.1 hN.1 hu), cl_of _ (m_isHome hm hT.1 hN.1 hu (rm.2.2.2.2 u hu))]
    by_cases z : homeN T N u = true
    · simp only [if_pos z, if_neg one0]
      exact ⟨_, _, _, rfl, rfl, hi⟩
    · simp only [if_neg z, if_true]
      obtain ⟨σ1, μ2, k1, k2, hT1, hN1, kk⟩ := v_kept hT hN hL hA hW hR hM
      obtain ⟨σ2, p1, p2, p3⟩ := s_putOff hN1.2.1 w6 hu
      have rm1 := RM.of_RP hN1.2.2.1 w6 hN1.2.2.2.2
      obtain ⟨μ3, m1, m2, m3⟩ := m_waitsMore hT.1 rm1 hu (by rw [hN1.2.2.2.2]; exact mask63 u (by omega))
      have q0 : ∀ k, gI μ3 0 k = gI μ2 0 k := m3.1 0 (by simp)
      have q57 : gI μ3 0 57 = 63 := (q0 57).trans hN1.2.2.2.2
      have rp := RM.to_RP m2 w6 q57
      have c10 : gI σ2 10 u = nS (waitN N u) u := (p2.2.2.2.2.2 u hu).2.2.1
      have m23 : gI μ3 36 (23 + u) = nS (waitN N u) u := by
        have := (rp.2.2.2.2 u hu).2.2.1
        rw [Nat.zero_add] at this
        exact this
      have e23 : (23 : Int32) + nI u = nI (23 + u) := nI_add 23 u
      simp only [cl_of _ k1, cl_of _ k2, cl_of _ p1, cl_of _ m1, ck_t (inb_nI (show u < 6 by omega) (by omega)), nI_tn (show u < 2147483648 by omega), e23, ck_t (inb_nI (show 23 + u < 41 by omega) (by omega)), nI_tn (show 23 + u < 2147483648 by omega), c10, m23]
      exact ⟨_, _, _, rfl, rfl, kk σ2 μ3 (waitN N u) ⟨waitN_ok hN1.1 u, p2, rp, (q0 56).trans hN1.2.2.2.1, q57⟩ (fun b h1 h2 k => p3.1 b (by simp; omega) k) p3.2.1 p3.2.2 (m3.mono (fun b hb => by simp only [List.mem_cons, List.not_mem_nil, or_false] at hb; rw [hb]; simp [passM]))⟩
  · simp only [if_neg v, if_true]
    exact ⟨_, _, _, rfl, rfl, hi⟩
theorem v_back {σ μ : Mm} (h : Iv σ μ) (x : Int32) : AnI (f_X11_back x) (f_X12_back x) σ μ := by
  have hz := iv_z h
  obtain ⟨μ1, e1⟩ : ∃ y, y = pI μ 0 0 0 := ⟨_, rfl⟩
  rw [← e1] at hz
  have hi := hz
  unfold AnI f_X11_back f_X12_back
  obtain ⟨t, T, D, N, a, l, w, s, n, hT, hN, hL, hA, hD, hW, hR, hM⟩ := hz
  have hc := hT.2.2.2.1
  have hm := hT.2.2.2.2.1.tm
  have w6 := hT.1.2.2.1
  simp only [bn_e, ← e1, hT.2.1, ck_t hc.1, cl_of _ (s_has hc.1 x).2.2, hc.2.2.2.1, cl_of _ (m_isWalker hm x), jn_e2]
  by_cases v : ¬ x < 0 ∧ x < nI (tW T)
  · obtain ⟨u, hu, rfl⟩ := in_nat (by omega) v.1 v.2
    have rm := RM.of_RP hN.2.2.1 w6 hN.2.2.2.2
    simp only [if_pos v, if_neg one0, cl_of _ (s_canTurn hc hT.1 hN.2.1 hN.1 hu), cl_of _ (m_canTurn hm hT.1 rm hN.1 hu)]
    by_cases z : tuN T N u = true
    · simp only [if_pos z, if_neg one0]
      obtain ⟨σ1, μ2, k1, k2, hT1, hN1, kk⟩ := v_kept hT hN hL hA hW hR hM
      have e0 := tuN_E hN.1 hu z
      obtain ⟨σ2, p1, p2, p3⟩ := s_turn hT1.2.2.2.1 hT.1 hN1.2.1 hu
      have rm1 := RM.of_RP hN1.2.2.1 w6 hN1.2.2.2.2
      have m2 := RM.turn hT.1 rm1 hu (by rw [hN1.2.2.2.2]; exact mask63 u (by omega)) e0
      have g9 : gI μ2 9 u = nI (tS T u) := (hT1.2.2.2.2.1.tm.2.2.2.2.2.1 u hu).2.1
      obtain ⟨μ3, e3⟩ : ∃ y, y = pI μ2 36 (17 + u) (nI (tS T u)) := ⟨_, rfl⟩
      rw [← e3] at m2
      have q0 : ∀ k, gI μ3 0 k = gI μ2 0 k := fun k => by rw [e3, gI_pI_n (Or.inl (by decide))]
      have q57 : gI μ3 0 57 = 63 := (q0 57).trans hN1.2.2.2.2
      have e17 : (17 : Int32) + nI u = nI (17 + u) := nI_add 17 u
      simp only [cl_of _ k1, cl_of _ k2, hT1.2.1, cl_of _ p1, ck_t (inb_nI (show u < 12 by omega) (by omega)), nI_tn (show u < 2147483648 by omega), e17, ck_t (inb_nI (show 17 + u < 41 by omega) (by omega)), nI_tn (show 17 + u < 2147483648 by omega), g9, ← e3]
      exact ⟨_, _, _, rfl, rfl, kk σ2 μ3 (turnN T N u) ⟨turnN_ok hT.1 hN1.1 hu e0, p2, RM.to_RP m2 w6 q57, (q0 56).trans hN1.2.2.2.1, q57⟩ (fun b h1 h2 k => p3.1 b (by simp; omega) k) p3.2.1 p3.2.2 (by rw [e3]; exact Off.pI (by simp [passM]))⟩
    · simp only [if_neg z, if_true]
      exact ⟨_, _, _, rfl, rfl, hi⟩
  · simp only [if_neg v, if_true]
    exact ⟨_, _, _, rfl, rfl, hi⟩
theorem lnB_out {T : Tw} {F G : Nat → Int32} (hT : TwOk T) (hF : ∀ k, k < tL T → F k = nI (tA T k) ∧ G k = nI (tB T k)) {x y : Int32} (h : ¬ ((¬ x < 0 ∧ x < nI (tP T)) ∧ (¬ y < 0 ∧ y < nI (tP T)))) : lnB F G (tL T) x y = -1 := by
  unfold lnB
  cases e : fst1 (lanP F G x y) 0 (tL T) with
  | none => rfl
  | some k =>
    exfalso
    obtain ⟨-, h2, h3, -⟩ := fst1_some e
    have hk : k < tL T := by omega
    obtain ⟨f1, f2⟩ := hF k hk
    obtain ⟨l1, l2, -⟩ := hT.2.2.2.1 k hk
    have p6 := hT.1
    have pl : ∀ j, j < tP T → ¬ nI j < 0 ∧ nI j < nI (tP T) := fun j hj => ⟨nI_pos (by omega), nI_lt hj (by omega)⟩
    unfold lanP at h3
    rcases of_decide_eq_true h3 with ⟨a, b⟩ | ⟨a, b⟩
    · rw [f1] at a; rw [f2] at b; subst a; subst b; exact h ⟨pl _ l1, pl _ l2⟩
    · rw [f1] at a; rw [f2] at b; subst a; subst b; exact h ⟨pl _ l2, pl _ l1⟩
theorem v_send {σ μ : Mm} (h : Iv σ μ) (x y : Int32) : AnI (f_X11_send x y) (f_X12_send x y) σ μ := by
  have hz := iv_z h
  obtain ⟨μ1, e1⟩ : ∃ y, y = pI μ 0 0 0 := ⟨_, rfl⟩
  rw [← e1] at hz
  have hi := hz
  unfold AnI f_X11_send f_X12_send
  obtain ⟨t, T, D, N, a, l, w, s, n, hT, hN, hL, hA, hD, hW, hR, hM⟩ := hz
  have hc := hT.2.2.2.1
  have hm := hT.2.2.2.2.1.tm
  have w6 := hT.1.2.2.1
  have l8 := hT.1.2.1
  have p6 := hT.1.1
  simp only [bn_e, ← e1, hT.2.1, ck_t hc.1, cl_of _ (m_isPlace hm x), jn_e2]
  by_cases v : (¬ x < 0 ∧ x < nI (tP T)) ∧ (¬ y < 0 ∧ y < nI (tP T))
  · obtain ⟨v1, v2⟩ := id v
    obtain ⟨p, hp, rfl⟩ := in_nat (by omega) v1.1 v1.2
    obtain ⟨q, hq, rfl⟩ := in_nat (by omega) v2.1 v2.2
    simp only [if_pos v1, if_neg one0, cl_of _ (m_isPlace hm (nI q)), if_pos v2, cl_of _ (s_laneB hc hT.1 (show p < 2147483648 by omega) (show q < 2147483648 by omega)), cl_of _ (m_laneB hm hT.1 (show p < 2147483648 by omega) (show q < 2147483648 by omega))]
    cases e : lnO T p q with
    | none =>
      simp only [oI_none, cl_of _ (s_hasLane0 hc), if_true, show ((-1 : Int32) < 0) = True from eq_true (by decide)]
      exact ⟨_, _, _, rfl, rfl, hi⟩
    | some k =>
      have hk := lnO_lt e
      obtain ⟨σ1, μ2, k1, k2, hT1, hN1, kk⟩ := v_kept hT hN hL hA hW hR hM
      obtain ⟨σ2, p1, p2, p3⟩ := s_sendBoy hT1.2.2.2.1 hT.1 hN1.2.1 hN1.1 hk
      have rm1 := RM.of_RP hN1.2.2.1 w6 hN1.2.2.2.2
      obtain ⟨μ3, m1, m2, m3⟩ := m_sends hT1.2.2.2.2.1.tm hT.1 rm1 hN1.1 hN1.2.2.2.1 hk
      have q0 : ∀ k, gI μ3 0 k = gI μ2 0 k := m3.1 0 (by simp [lawM])
      have q57 : gI μ3 0 57 = 63 := (q0 57).trans hN1.2.2.2.2
      have tm3 : TM μ3 T := hT1.2.2.2.2.1.tm.off m3 (fun b hb => by simp only [lawM, List.mem_cons, List.not_mem_nil, or_false] at hb; omega)
      have rp := RM.to_RP m2 w6 q57
      have c7 : gI σ2 7 k = nI (nL (sendN T N k) k) := p2.2.2.2.2.1 k (by omega)
      have m36 : gI μ3 36 (3 + k) = nI (nL (sendN T N k) k) := by
        have := rp.2.2.2.1 k (by omega)
        rw [Nat.zero_add] at this
        exact this
      have e3 : (3 : Int32) + nI k = nI (3 + k) := nI_add 3 k
      have lb2 := m_laneB hT1.2.2.2.2.1.tm hT.1 (a := p) (b := q) (by omega) (by omega)
      have lb3 := m_laneB tm3 hT.1 (a := p) (b := q) (by omega) (by omega)
      rw [e] at lb2 lb3
      simp only [oI_some] at lb2 lb3 ⊢
      simp only [cl_of _ (s_hasLane1 hc hT.1 hk), if_neg one0, if_neg (nI_pos (show k < 2147483648 by omega)), cl_of _ k1, cl_of _ k2, hT1.2.1, cl_of _ p1, cl_of _ lb2, cl_of _ m1, cl_of _ lb3, ck_t (inb_nI (show k < 8 by omega) (by omega)), nI_tn (show k < 2147483648 by omega), e3, ck_t (inb_nI (show 3 + k < 41 by omega) (by omega)), nI_tn (show 3 + k < 2147483648 by omega), c7, m36]
      have ta := town_a hc.1
      exact ⟨_, _, _, rfl, rfl, kk σ2 μ3 (sendN T N k) ⟨sendN_ok hT.1 hN1.1 k, p2, rp, (q0 56).trans hN1.2.2.2.1, q57⟩ (fun b h1 h2 k => p3.1 b (by simp; omega) k) p3.2.1 p3.2.2 (m3.mono (fun b hb => by simp only [List.mem_cons] at hb; simp only [passM, List.mem_cons]; rcases hb with hb | hb; exact Or.inl hb; exact Or.inr (Or.inr (Or.inr hb))))⟩
  · have lb : f_X9_laneBetween t x y σ = some (-1, σ) := by
      rw [s_laneBetween hc.1 hc.2.2.1 l8, lnB_out hT.1 (fun k hk => ⟨(hc.2.2.2.2.2.1 k hk).1, (hc.2.2.2.2.2.1 k hk).2.1⟩) v]
    simp only [cl_of _ lb, cl_of _ (s_hasLane0 hc), if_true]
    by_cases v1 : ¬ x < 0 ∧ x < nI (tP T)
    · have v2 : ¬ (¬ y < 0 ∧ y < nI (tP T)) := fun z => v ⟨v1, z⟩
      simp only [if_pos v1, if_neg one0, cl_of _ (m_isPlace hm y), if_neg v2, if_true]
      exact ⟨_, _, _, rfl, rfl, hi⟩
    · simp only [if_neg v1, if_true]
      exact ⟨_, _, _, rfl, rfl, hi⟩
theorem v_undo {σ μ : Mm} (h : Iv σ μ) : AnI f_X11_undo f_X12_undo σ μ := by
  have hz := iv_z h
  obtain ⟨μ1, e1⟩ : ∃ y, y = pI μ 0 0 0 := ⟨_, rfl⟩
  rw [← e1] at hz
  have hi := hz
  unfold AnI f_X11_undo f_X12_undo
  obtain ⟨t, T, D, N, a, l, w, s, n, hT, hN, hL, hA, hD, hW, hR, hM⟩ := hz
  have ta := town_a hT.2.2.2.1.1
  obtain ⟨m, tp, H, h1, h2, h3, h4, h5, h6⟩ := id hR
  unfold f_X5_bringBack
  have l16 : (tp + 15) % 16 < 16 := Nat.mod_lt _ (by omega)
  simp only [bn_e, ← e1, ck_t n6, h4, rg_dec tp h2, ck_t (inb_nI l16 (by omega)), nI_tn (show (tp + 15) % 16 < 2147483648 by omega), jn_e2, h3, h5]
  by_cases z : m = 0
  · subst z
    simp only [show (nI 0 = 0) = True from eq_true rfl, if_true]
    exact ⟨_, _, _, rfl, rfl, hi⟩
  · have z0 : ¬ nI m = 0 := fun y => z ((rg_z m (by omega)).mp y)
    obtain ⟨a1, a2, a3⟩ := h6 0 (by omega)
    rw [Nat.sub_zero] at a2
    rw [Nat.sub_zero] at a3
    obtain ⟨τ, c1, c2, c3, _⟩ := s_copyFrom n6 (show 6 ≠ nightAt ((tp + 15) % 16) by unfold nightAt; omega) hT.1.2.2.1 a2
    have of : ∀ b, (b < 6 ∨ 11 < b) → ∀ k, gI τ b k = gI σ b k := fun b hb k => c3.1 b (by simp; omega) k
    have g13 : ∀ k, gI τ 13 k = gI σ 13 k := of 13 (by omega)
    obtain ⟨τ1, q1⟩ : ∃ y, y = pI τ 13 2 (nI ((tp + 15) % 16)) := ⟨_, rfl⟩
    obtain ⟨τ2, q2⟩ : ∃ y, y = pI τ1 13 1 (nI (m - 1)) := ⟨_, rfl⟩
    obtain ⟨τ3, q3⟩ : ∃ y, y = pI τ2 196 3 0 := ⟨_, rfl⟩
    have w1 : gI τ 13 2 = nI tp := (g13 2).trans h4
    have w2 : gI τ1 13 1 = nI m := by rw [q1, gI_pI_n (Or.inr (by omega)), g13, h3]
    obtain ⟨μ2, q4⟩ : ∃ y, y = pI μ1 0 55 (nI (m - 1)) := ⟨_, rfl⟩
    have w4 : gI μ2 0 55 = nI (m - 1) := by rw [q4, gI_pI_s]
    obtain ⟨μ3, d1, d2, d3, d4⟩ := m_copies (a := 40) (b := 36) (o := 41 * (m - 1)) (p := 0) μ2 rfl rfl (by decide) (by show 41 * (m - 1) + 41 ≤ 656; omega) (by decide) (by decide) (by decide)
    have d1 : f_X12_copies 40 (nI (41 * (m - 1))) 36 0 μ2 = some (0, μ3) := d1
    have cls : ∀ (r : Int32) (u : Mm) (k : Int32 → Mm → Option (Int32 × Mm)), cl (some (r, u)) k = k r u := fun _ _ _ => rfl
    simp only [if_neg z0, cl_of _ c1, w1, rg_dec tp h2, ← q1, w2, rg_sub m (by omega) (by omega), ← q2, ← q4, w4, rg_41 (m - 1) (by omega), cl_of _ d1, cls, f_X0_forget, bn_e, ← q3, if_neg one0]
    have gb : ∀ b, b < 6 ∨ 11 < b → b ≠ 13 → b ≠ 196 → ∀ k, gI τ3 b k = gI σ b k := fun b hb1 hb2 hb3 k => by
      rw [q3, gI_pI_n (Or.inl hb3), q2, gI_pI_n (Or.inl hb2), q1, gI_pI_n (Or.inl hb2)]; exact of b hb1 k
    have gn : ∀ b, b ≠ 13 → b ≠ 196 → ∀ k, gI τ3 b k = gI τ b k := fun b hb2 hb3 k => by
      rw [q3, gI_pI_n (Or.inl hb3), q2, gI_pI_n (Or.inl hb2), q1, gI_pI_n (Or.inl hb2)]
    have m0 : ∀ j, j ≠ 55 → gI μ3 0 j = gI μ1 0 j := fun j hj => by rw [d2.1 0 (by simp), q4, gI_pI_n (Or.inr hj)]
    have m40 : ∀ k, gI μ3 40 k = gI μ1 40 k := fun k => by rw [d2.1 40 (by simp), q4, gI_pI_n (Or.inl (by decide))]
    obtain ⟨b1, b2, b3, b4, b5⟩ := iv_n (σ' := τ3) (μ' := μ3) hT hL hA hW hM (fun b y1 y2 y3 k => gb b (by omega) (by omega) y2 k) (fun b k => by rw [q3, gL_pI, q2, gL_pI, q1, gL_pI]; exact c3.2.1 b k) (fun b k => by rw [q3, gR_pI, q2, gR_pI, q1, gR_pI]; exact c3.2.2 b k) (fun b hb k => by rw [d2.1 b (by simp; intro y; exact hb (by rw [y]; simp [keepM, passM])), q4, gI_pI_n (Or.inl (fun y => hb (by rw [y]; simp [keepM])))]) (m0 1 (by omega)) (fun b k => by rw [d2.2.1, q4, gL_pI])
    refine ⟨_, _, _, rfl, rfl, t, T, D, H 0, a, l, w, s, n, b1, ⟨a1, c2.fr (fun b y1 y2 k => gn b (by omega) (by omega) k), a3.copy hT.1.2.2.1 (fun j hj => ?_), (m0 56 (by omega)).trans hN.2.2.2.1, (m0 57 (by omega)).trans hN.2.2.2.2⟩, b2, b3, fun y => absurd (by rw [q3, gI_pI_s]) y, b4, ⟨m - 1, (tp + 15) % 16, fun i => H (i + 1), by omega, l16, by rw [q3, gI_pI_n (Or.inl (by decide)), q2, gI_pI_s], by rw [q3, gI_pI_n (Or.inl (by decide)), q2, gI_pI_n (Or.inr (by decide)), q1, gI_pI_s], (d2.1 0 (by simp) 55).trans w4, fun i hi2 => ?_⟩, b5⟩
    · rw [d3 j hj, q4, gI_pI_n (Or.inl (by decide))]
    · obtain ⟨z1, z2, z3⟩ := h6 (i + 1) (by omega)
      have sl : ((tp + 15) % 16 + 15 - i) % 16 = (tp + 15 - (i + 1)) % 16 := by omega
      have l2 : (tp + 15 - (i + 1)) % 16 < 16 := Nat.mod_lt _ (by omega)
      rw [sl, show m - 1 - 1 - i = m - 1 - (i + 1) by omega]
      exact ⟨z1, z2.fr (fun b y1 y2 k => gb b (by unfold nightAt at y1; omega) (by unfold nightAt at y1; omega) (by unfold nightAt at y2; omega) k), z3.copy hT.1.2.2.1 (fun j _ => m40 _)⟩
