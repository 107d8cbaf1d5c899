theorem wtF_lt {ks : Nat → Nat} {w k v : Nat} (h : v < w) : wtF ks w k v = ks v := by unfold wtF; rw [if_pos h]
theorem wtF_at {ks : Nat → Nat} {w k : Nat} : wtF ks w k w = k := by unfold wtF; rw [if_neg (Nat.lt_irrefl w), if_pos rfl]
theorem wtF_gt {ks : Nat → Nat} {w k v : Nat} (h : w < v) : wtF ks w k v = 0 := by unfold wtF; rw [if_neg (by omega), if_neg (by omega)]
theorem m_delRec {μ : Mm} {T : Tw} {N : Nt} (h : MI μ T N) (hT : TwOk T) (hN : NtOk T N) : ∀ d w F q, w + d = tW T → d < F → ∀ σ, DG μ σ T N w (wtF (digN T N (q * RW T N d)) w 0) (q * RW T N d) (q * RW T N d) →
    ∃ τ, fDL F (nI w) (nI (sm (digN T N (q * RW T N d)) w)) σ = some (0, τ) ∧ DG μ τ T N w (wtF (digN T N (q * RW T N d)) w 0) (q * RW T N d) (q * RW T N d + RW T N d) := by
  have hW := hT.2.2.1
  intro d
  induction d with
  | zero =>
    intro w F q hw hF σ g
    obtain ⟨F, rfl⟩ : ∃ k, F = k + 1 := ⟨F - 1, by omega⟩
    have : w = tW T := by omega
    subst this
    have e0 : RW T N 0 = 1 := rfl
    rw [e0] at g ⊢
    rw [Nat.mul_one] at g ⊢
    have cg : ∀ j, cel μ T N (wtF (digN T N q) (tW T) 0) j = cel μ T N (digN T N q) j := fun j => cel_congr (fun v hv => wtF_lt hv) j
    have g' : DG μ σ T N (tW T) (digN T N q) q q := ⟨g.1, fun j hj => by rw [g.2.1 j hj, cg], g.2.2.1, g.2.2.2⟩
    obtain ⟨τ, t1, t2⟩ := m_leaf (fDL F) h hT hN g'
    exact ⟨τ, t1, t2.1, fun j hj => by rw [t2.2.1 j hj, cg], t2.2.2.1, t2.2.2.2⟩
  | succ d ih =>
    intro w F q hw hF σ g
    obtain ⟨F, rfl⟩ : ∃ k, F = k + 1 := ⟨F - 1, by omega⟩
    have wl : w < tW T := by omega
    have ed : tW T - (w + 1) = d := by omega
    have ed1 : tW T - w = d + 1 := by omega
    have rs := RW_s (N := N) wl
    rw [ed, ed1] at rs
    obtain ⟨B, eB⟩ : ∃ B, B = bsW T N w := ⟨_, rfl⟩
    have hB := bsW_pos T N w
    rw [← eB] at rs hB
    obtain ⟨r0, e0⟩ : ∃ r, r = q * RW T N (d + 1) := ⟨_, rfl⟩
    rw [← e0] at g ⊢
    have re : ∀ k, (q * B + k) * RW T N d = r0 + k * RW T N d := fun k => by rw [e0, rs, Nat.add_mul, Nat.mul_assoc]
    have dg : ∀ k, k < B → (∀ v, v < w → digN T N (r0 + k * RW T N d) v = digN T N r0 v) ∧ digN T N (r0 + k * RW T N d) w = k := by
      intro k hk
      refine ⟨fun v hv => ?_, ?_⟩
      · refine digN_eq hv (by omega) ?_
        rw [ed1, e0, Nat.mul_div_cancel _ (RW_pos T N _)]
        have p1 : k * RW T N d < RW T N (d + 1) := by rw [rs]; exact Nat.mul_lt_mul_of_pos_right hk (RW_pos T N d)
        rw [Nat.mul_comm, Nat.mul_add_div (RW_pos T N _), Nat.div_eq_of_lt p1, Nat.add_zero]
      · have := digN_at (T := T) (N := N) (q := q) (k := k) wl (by rw [← eB]; exact hk)
        rw [← eB, ed, re] at this
        exact this
    have n2 : ¬ nI w = gI σ 2 2 := by
      rw [(g.1.tm h.1).2.2.1]
      intro z
      have := (nI_eq (by omega) (by omega)).mp z
      omega
    obtain ⟨kc, ekc⟩ : ∃ kc : Nat → Nat, kc = fun k => if homeN T N w then 0 else k := ⟨_, rfl⟩
    have hh : ∀ {b : Mm} {ks : Nat → Nat} {v r n : Nat}, DG μ b T N v ks r n → f_X12_isHome (nI w) b = some ((if homeN T N w then 1 else 0), b) := fun {b ks v r n} gb => by
      have mi := gb.mi h hT
      have := m_isHome (N := wtN N ks) mi.1 hT (wtN_ok hN ks) wl ((mi.rm hT).2.2.2.2 w wl)
      exact this
    show ∃ τ, fb_X12_delays (fDL F) (nI w) (nI (sm (digN T N r0) w)) σ = some (0, τ) ∧ _
    rw [fb_e1 (fDL F) (show w < 6 by omega) _ σ n2]
    obtain ⟨kx, ek⟩ : ∃ k : Mm → Option (Int32 × Mm), k = (fun σ_162 => some (0, pI σ_162 36 (23 + w) (gI σ 36 (23 + w)))) := ⟨_, rfl⟩
    rw [← ek]
    have q0 : DG μ σ T N w (wtF (digN T N r0) w (kc 0)) r0 (r0 + 0 * RW T N d) := by
      have : kc 0 = 0 := by rw [ekc]; show (if _ then _ else _) = _; split <;> rfl
      rw [this, Nat.zero_mul, Nat.add_zero]; exact g
    have lq := lq2_inv (F := F_X12_delays_105 (fDL F) (nI w) (nI (sm (digN T N r0) w)) kx) (fun k => nI k) (fun k b => DG μ b T N w (wtF (digN T N r0) w (kc k)) r0 (r0 + k * RW T N d)) B kx ?_ ?_ (n := 1000000) (b0 := σ) q0 (by omega)
    · obtain ⟨b, hb, e⟩ := lq
      refine ⟨pI b 36 (23 + w) (gI σ 36 (23 + w)), e.trans (by rw [ek]), hb.1.tr (QF.of (S := [36]) (Off.pI (by simp)) (by simp [qM]) (fun j _ _ => gI_pI_n (Or.inl (by decide)))), fun j hj => ?_, fun v hv => ?_, ?_⟩
      · by_cases z : j = 23 + w
        · subst z; rw [gI_pI_s]; exact g.2.1 _ hj
        · rw [gI_pI_n (Or.inr z), hb.2.1 j hj]
          unfold cel
          by_cases y : 23 ≤ j ∧ j < 23 + tW T
          · rw [if_pos y, if_pos y]
            congr 1
            unfold wtF
            rw [if_neg (show ¬ j - 23 = w by omega), if_neg (show ¬ j - 23 = w by omega)]
          · rw [if_neg y, if_neg y]
      · rw [gI_pI_n (Or.inl (by decide))]; exact hb.2.2.1 v hv
      · rw [rs]
        exact hb.2.2.2.congr (by rw [gI_pI_n (Or.inl (by decide))]) (by rw [gI_pI_n (Or.inl (by decide))]) (fun v => by rw [gI_pI_n (Or.inl (by decide))])
    · intro rec k b hk hb
      obtain ⟨dg1, dg2⟩ := dg k hk
      have k3 : k < 3 := by omega
      have c1 : nI k < 3 := nI_lt (a := k) (b := 3) k3 (by omega)
      -- the row goes on
      obtain ⟨b', eb⟩ : ∃ y, y = pI b 47 w (nI k) := ⟨_, rfl⟩
      have ob : Off [47] b b' := by rw [eb]; exact Off.pI (by simp)
      have kck : kc k = k := by
        rw [ekc]
        show (if _ then _ else _) = _
        cases e : homeN T N w
        · rfl
        · have : bsW T N w = 1 := by unfold bsW; rw [e]; rfl
          show 0 = k
          omega
      have gb : DG μ b' T N (w + 1) (wtF (digN T N ((q * B + k) * RW T N d)) (w + 1) 0) ((q * B + k) * RW T N d) ((q * B + k) * RW T N d) := by
        rw [re]
        refine ⟨hb.1.tr (QF.of ob (by simp [qM]) (fun j _ _ => ob.1 0 (by simp) j)), fun j hj => ?_, fun v hv => ?_, ?_⟩
        · rw [ob.1 36 (by simp), hb.2.1 j hj]
          refine cel_congr (fun v hv => ?_) j
          rcases Nat.lt_trichotomy v w with z | z | z
          · rw [wtF_lt z, wtF_lt (by omega), dg1 v z]
          · subst z; rw [wtF_at, wtF_lt (Nat.lt_succ_self v), dg2, kck]
          · rw [wtF_gt z]
            by_cases y : v = w + 1
            · subst y; rw [wtF_at]
            · rw [wtF_gt (by omega)]
        · by_cases z : v = w
          · subst z; rw [eb, gI_pI_s, dg2]
          · rw [eb, gI_pI_n (Or.inr z), dg1 v (by omega)]; exact hb.2.2.1 v (by omega)
        · exact hb.2.2.2.congr (ob.1 0 (by simp) _) (ob.1 0 (by simp) _) (fun v => ob.1 48 (by simp) v)
      obtain ⟨τ, t1, t2⟩ := ih (w + 1) F (q * B + k) (by omega) (by omega) b' gb
      rw [re] at t1 t2
      have sw : sm (digN T N (r0 + k * RW T N d)) (w + 1) = sm (digN T N r0) w + k := by
        show sm (digN T N (r0 + k * RW T N d)) w + digN T N (r0 + k * RW T N d) w = _
        rw [dg2, sm_congr dg1]
      rw [sw] at t1
      have ht := hh t2
      have rk : r0 + k * RW T N d + RW T N d = r0 + (k + 1) * RW T N d := by rw [Nat.succ_mul]; omega
      rw [rk] at t2
      -- the cells as they are behind it
      have tc : ∀ j, j < 41 → gI τ 36 j = cel μ T N (wtF (digN T N r0) w (kc k)) j := fun j hj => by
        rw [t2.2.1 j hj]
        refine cel_congr (fun v hv => ?_) j
        rcases Nat.lt_trichotomy v w with z | z | z
        · rw [wtF_lt z, wtF_lt (by omega), dg1 v z]
        · subst z; rw [wtF_at, wtF_lt (Nat.lt_succ_self v), dg2, kck]
        · rw [wtF_gt z]
          by_cases y : v = w + 1
          · subst y; rw [wtF_at]
          · rw [wtF_gt (by omega)]
      have t47 : ∀ v, v < w → gI τ 47 v = nI (digN T N r0 v) := fun v hv => by rw [t2.2.2.1 v (by omega), dg1 v hv]
      -- whether one goes on to the next k
      have go : F_X12_delays_105 (fDL F) (nI w) (nI (sm (digN T N r0) w)) kx rec (nI k) b = (if (if homeN T N w then (1 : Int32) else 0) = 0 then rec (nI (k + 1)) (pI τ 36 (23 + w) (imx (gI τ 36 (23 + w)) (gI τ 36 0) + 1)) else rec (nI (k + 1)) τ) := by
        simp only [F_X12_delays_105, if_pos c1, jn_e2, ck_t (inb_nI (show w < 6 by omega) (by omega)), nI_tn (show w < 2147483648 by omega), bn_e, ← eb, nI_1, nI_add, cl_of _ t1, cl_of _ ht, cl_of _ (m_wm (σ := τ) (show w < 6 by omega)), cl_of _ (hh hb)]
        by_cases z : k = 0
        · subst z; rw [if_pos (show nI 0 = 0 from rfl)]
        · have zz : ¬ nI k = (0 : Int32) := fun y => z ((nI_eq (b := 0) (by omega) (by omega)).mp y)
          rw [if_neg zz]
          have : homeN T N w = false := by
            cases e : homeN T N w
            · rfl
            · have : bsW T N w = 1 := by unfold bsW; rw [e]; rfl
              omega
          rw [this]
          rfl
      rw [go]
      cases e : homeN T N w
      · have kc1 : kc (k + 1) = k + 1 := by rw [ekc]; show (if _ then _ else _) = _; rw [e]; rfl
        refine ⟨pI τ 36 (23 + w) (imx (gI τ 36 (23 + w)) (gI τ 36 0) + 1), ⟨t2.1.tr (QF.of (S := [36]) (Off.pI (by simp)) (by simp [qM]) (fun j _ _ => gI_pI_n (Or.inl (by decide)))), fun j hj => ?_, fun v hv => ?_, ?_⟩, ?_⟩
        · by_cases z : j = 23 + w
          · subst z
            have m0 : cel μ T N (wtF (digN T N r0) w (kc k)) 0 = nT N := by
              unfold cel
              rw [if_neg (by omega)]
              exact h.2.1.1
            rw [gI_pI_s, tc _ hj, tc 0 (by omega), m0]
            unfold cel
            rw [if_pos (by omega), if_pos (by omega), Nat.add_sub_cancel_left, wtF_at, wtF_at, kck, kc1]
            rfl
          · rw [gI_pI_n (Or.inr z), tc j hj]
            unfold cel
            by_cases y : 23 ≤ j ∧ j < 23 + tW T
            · rw [if_pos y, if_pos y]
              congr 1
              unfold wtF
              rw [if_neg (show ¬ j - 23 = w by omega), if_neg (show ¬ j - 23 = w by omega)]
            · rw [if_neg y, if_neg y]
        · rw [gI_pI_n (Or.inl (by decide))]; exact t47 v hv
        · exact t2.2.2.2.congr (by rw [gI_pI_n (Or.inl (by decide))]) (by rw [gI_pI_n (Or.inl (by decide))]) (fun v => by rw [gI_pI_n (Or.inl (by decide))])
        · rfl
      · have kc1 : kc (k + 1) = kc k := by rw [ekc]; show (if _ then _ else _) = (if _ then _ else _); rw [e]; rfl
        refine ⟨τ, ⟨t2.1, fun j hj => by rw [kc1]; exact tc j hj, t47, t2.2.2.2⟩, ?_⟩
        rfl
    · intro rec b hb
      cases e : homeN T N w
      · have : bsW T N w = 3 := by unfold bsW; rw [e]; rfl
        have b3 : B = 3 := by omega
        rw [b3]
        simp only [F_X12_delays_105, if_neg (show ¬ nI 3 < 3 by decide)]
      · have : bsW T N w = 1 := by unfold bsW; rw [e]; rfl
        have b3 : B = 1 := by omega
        have hb2 := hh hb
        rw [e] at hb2
        rw [b3]
        simp only [F_X12_delays_105, if_pos (show nI 1 < 3 by decide), jn_e2, if_neg (show ¬ nI 1 = 0 by decide), cl_of _ hb2]
        rfl
/-- DELAY, in the reference -/
theorem m_delays {μ : Mm} {T : Tw} {N : Nt} (h : MI μ T N) (hT : TwOk T) (hN : NtOk T N) (e69 : gI μ 0 69 = -1) (e70 : gI μ 0 70 = 0) : ∃ τ, f_X12_delays 0 0 μ = some (0, τ) ∧ QM μ τ ∧ BR τ T N (RW T N (tW T)) := by
  have hW := hT.2.2.1
  have g : DG μ μ T N 0 (wtF (digN T N (0 * RW T N (tW T))) 0 0) (0 * RW T N (tW T)) (0 * RW T N (tW T)) := by
    rw [Nat.zero_mul]
    refine ⟨QF.rf, fun j hj => ?_, fun v hv => absurd hv (Nat.not_lt_zero v), ⟨e69, e70⟩⟩
    unfold cel
    by_cases y : 23 ≤ j ∧ j < 23 + tW T
    · rw [if_pos y]
      have z : wtF (digN T N 0) 0 0 (j - 23) = 0 := by unfold wtF; rw [if_neg (Nat.not_lt_zero _)]; split <;> rfl
      rw [z]
      have := (h.2.1.2.2.2.2 (j - 23) (by omega)).2.2.1
      rw [Nat.zero_add, show 23 + (j - 23) = j by omega] at this
      exact this
    · rw [if_neg y]
  obtain ⟨τ, t1, t2⟩ := m_delRec h hT hN (tW T) 0 10 0 (by omega) (by omega) μ g
  rw [Nat.zero_mul, Nat.zero_add] at t2
  refine ⟨τ, t1, ⟨t2.1.1, t2.1.2.1, fun j hj => ?_, t2.1.2.2.1, t2.1.2.2.2⟩, t2.2.2.2⟩
  rw [Nat.zero_mul] at g
  rw [t2.2.1 j hj, g.2.1 j hj]
/-- and what is asked of it -/
theorem q_delay {σ μ : Mm} {t : Nat} {T : Tw} {N : Nt} (h : Bo σ μ t T N) (h3 : ¬ gI σ 196 3 = 0 → BC σ T N (RW T N (tW T))) (x : Int32) :
    ∃ r σ' μ', f_X11_delay x σ = some (r, σ') ∧ f_X12_delay x μ = some (r, μ') ∧ Off (dlC t) σ σ' ∧ QM μ μ' ∧ (¬ gI σ' 196 3 = 0 → BC σ' T N (RW T N (tW T))) := by
  obtain ⟨hT, hN, ⟨ht, hc, rc⟩, hM⟩ := h
  have hW := hT.2.2.1
  have hM0 := hM.q hT (QM.z μ 0)
  obtain ⟨τ, t1, t2, t3⟩ := s_findDelays hc hT rc hN h3
  obtain ⟨μ1, e1⟩ : ∃ y, y = pI (pI (pI μ 0 0 0) 0 69 (-1)) 0 70 0 := ⟨_, rfl⟩
  have q1 : QM μ μ1 := (QM.z μ 0).tr (QM.of (S := [0]) (by rw [e1]; exact (Off.pI (by simp)).tr (Off.pI (by simp))) (by simp [qM]) (fun j j1 j2 => by rw [e1, gI_pI_n (Or.inr (by omega)), gI_pI_n (Or.inr (by omega))]) (fun j _ => by rw [e1, gI_pI_n (Or.inl (by decide)), gI_pI_n (Or.inl (by decide))]))
  obtain ⟨ν, n1, n2, n3⟩ := m_delays (hM.q hT q1) hT hN (by rw [e1, gI_pI_n (Or.inr (by decide)), gI_pI_s]) (by rw [e1, gI_pI_s])
  obtain ⟨b, eb⟩ := bsD_some (dkD T N) (wtD T N) (RW_pos T N (tW T))
  have c3 := t3
  have m3 := n3
  unfold BC at c3
  unfold BR at m3
  rw [eb] at c3 m3
  unfold f_X11_delay f_X12_delay
  simp only [jn_e2, bn_e, ht, ← e1, cl_of _ t1, cl_of _ n1]
  by_cases z : x = -1
  · simp only [if_pos z, c3.1, m3.1]
    exact ⟨_, _, _, rfl, rfl, t2, q1.tr n2, fun _ => t3⟩
  · simp only [if_neg z, ck_t hc.1, cl_of _ (s_has hc.1 x).2.2, hc.2.2.2.1, cl_of _ (m_isWalker hM0.1 x)]
    by_cases v : ¬ x < 0 ∧ x < nI (tW T)
    · obtain ⟨w, hw, rfl⟩ := in_nat (by omega) v.1 v.2
      simp only [if_pos v, if_neg one0, ck_t (inb_nI (show w < 6 by omega) (by omega)), nI_tn (show w < 2147483648 by omega), c3.2.2 w hw, m3.2.2 w hw]
      exact ⟨_, _, _, rfl, rfl, t2, q1.tr n2, fun _ => t3⟩
    · simp only [if_neg v, if_true]
      exact ⟨_, _, _, rfl, rfl, Off.rf, QM.z μ 0, h3⟩
