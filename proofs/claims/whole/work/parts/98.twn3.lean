/-- a lane is told anew -/
theorem TB.lane {σ μ σ' μ' : Mm} {t P L W a b m : Nat} (h : TB σ μ t P L W) (hL : L < 8) (ha : a < P) (hbb : b < P) (hab : a ≠ b) (hm : m ≤ 20) (hP : NmP σ' μ' t 1 P) (hW : NmW σ' μ' t 1 W) (e1 : gI σ' t 1 = nI (L + 1)) (e2 : gI μ' 2 5 = nI (L + 1)) (e3 : gI σ' t 3 = gI μ' 2 7) (e4 : gI σ' t 4 = gI μ' 0 24) (n5 : gI σ' (t + 5) L = nI a ∧ gI σ' (t + 6) L = nI b ∧ gI σ' (t + 7) L = nI m) (n8 : gI μ' 5 (8 + L) = nI a ∧ gI μ' 6 (8 + L) = nI b ∧ gI μ' 7 (8 + L) = nI m) (cl : ∀ c, c = 5 ∨ c = 6 ∨ c = 7 → ∀ k, k < L → gI σ' (t + c) k = gI σ (t + c) k ∧ gI μ' c (8 + k) = gI μ c (8 + k)) (cw : ∀ c, c = 8 ∨ c = 9 ∨ c = 10 ∨ c = 11 → ∀ k, k < W → gI σ' (t + (c + 1)) k = gI σ (t + (c + 1)) k ∧ gI μ' c (6 + k) = gI μ c (6 + k)) : TB σ' μ' t P (L + 1) W := by
  obtain ⟨-, -, h3, -, -, -, -, h8, h9⟩ := h
  refine ⟨hP, hW, by omega, e1, e2, e3, e4, fun k hk => ?_, fun k hk => ?_⟩
  · by_cases z : k = L
    · subst z; exact ⟨a, b, m, ha, hbb, hab, hm, n5, n8⟩
    · obtain ⟨a', b', m', q1, q2, q3, q4, q5, q6⟩ := h8 k (by omega)
      refine ⟨a', b', m', q1, q2, q3, q4, ?_⟩
      rw [(cl 5 (by omega) k (by omega)).1, (cl 6 (by omega) k (by omega)).1, (cl 7 (by omega) k (by omega)).1, (cl 5 (by omega) k (by omega)).2, (cl 6 (by omega) k (by omega)).2, (cl 7 (by omega) k (by omega)).2]
      exact ⟨q5, q6⟩
  · obtain ⟨c, a', b', m', q1, q2, q3, q4, q5, q6⟩ := h9 k hk
    refine ⟨c, a', b', m', q1, q2, q3, q4, ?_⟩
    have z8 := cw 8 (by omega) k hk
    have z9 := cw 9 (by omega) k hk
    have z10 := cw 10 (by omega) k hk
    have z11 := cw 11 (by omega) k hk
    rw [z8.1, z9.1, z10.1, z11.1, z8.2, z9.2, z10.2, z11.2]
    exact ⟨q5, q6⟩
/-- the lane between two places, in the town so far -/
theorem TB.ln {σ μ : Mm} {t P L W : Nat} (h : TB σ μ t P L W) (x y : Int32) : ∃ o : Option Nat, (∀ k, o = some k → k < L) ∧ f_X9_laneBetween t x y σ = some (oI o, σ) ∧ f_X12_laneOf 1 x y μ = some (oI o, μ) := by
  obtain ⟨h1, h2, h3, h4, h5, h6, h7, h8, h9⟩ := h
  refine ⟨fst1 (lanP (gI σ (t + 5)) (gI σ (t + 6)) x y) 0 L, fun k hk => by have := (fst1_some hk).2.1; omega, ?_, ?_⟩
  · rw [s_laneBetween h1.1 h4 h3]
    unfold lnB
    cases fst1 (lanP (gI σ (t + 5)) (gI σ (t + 6)) x y) 0 L <;> rfl
  · have := m_laneOf (σ := μ) (r := 1) (L := L) (by omega) h5 h3 x y
    have this : f_X12_laneOf 1 x y μ = _ := this
    rw [this]
    unfold lnB
    rw [fst1_congr (q := lanP (fun k => gI μ 5 (8 * 1 + k)) (fun k => gI μ 6 (8 * 1 + k)) x y) (p := lanP (gI σ (t + 5)) (gI σ (t + 6)) x y) (fun j _ hj => ?_)]
    · cases fst1 (lanP (fun k => gI μ 5 (8 * 1 + k)) (fun k => gI μ 6 (8 * 1 + k)) x y) 0 L <;> rfl
    · obtain ⟨a, b, m, q1, q2, q3, q4, ⟨q5, q6, q7⟩, q8, q9, q10⟩ := h8 j (by omega)
      unfold lanP
      show decide (gI σ (t + 5) j = x ∧ gI σ (t + 6) j = y ∨ gI σ (t + 5) j = y ∧ gI σ (t + 6) j = x) = decide (gI μ 5 (8 + j) = x ∧ gI μ 6 (8 + j) = y ∨ gI μ 5 (8 + j) = y ∧ gI μ 6 (8 + j) = x)
      rw [q5, q6, q8, q9]
theorem s_addLane {σ : Mm} {t L : Nat} (ht : isTown t = true) (h1 : gI σ t 1 = nI L) (hL : L < 8) (x y z : Int32) : f_X9_addLane t x y z σ = some (0, pI (pI (pI (pI σ (t + 5) L x) (t + 6) L y) (t + 7) L z) t 1 (nI (L + 1))) := by
  unfold f_X9_addLane
  have g1 : ∀ w, gI (pI σ (t + 5) L w) t 1 = nI L := fun w => by rw [gI_pI_n (Or.inl (by omega))]; exact h1
  have g2 : ∀ w u, gI (pI (pI σ (t + 5) L w) (t + 6) L u) t 1 = nI L := fun w u => by rw [gI_pI_n (Or.inl (by omega))]; exact g1 w
  have g3 : ∀ w u v, gI (pI (pI (pI σ (t + 5) L w) (t + 6) L u) (t + 7) L v) t 1 = nI L := fun w u v => by rw [gI_pI_n (Or.inl (by omega))]; exact g2 w u
  have c1 : nI L < 8 := nI_lt (a := L) (b := 8) hL (by omega)
  rw [ck_t ht]
  simp only [h1, if_pos c1, ck_t (inb_nI (show L < 8 by omega) (by omega)), nI_tn (show L < 2147483648 by omega), bn_e, g1, g2, g3, nI_1]
/-- lane -/
theorem r_rdLane {σ μ : Mm} {s : Nat → Nat} {n p t P L W : Nat} (h : Rd σ μ s n p) (f0 : gI σ 3 1 = 0) (hb : TB σ μ t P L W) (k2 : tkK s n p = 2) :
    (∃ σ' μ', f_X6_readLane t σ = some (0, σ') ∧ f_X12_readsLane μ = some (1, μ') ∧ OkT σ μ σ' μ' s n p t) ∨ ∃ σ' μ', f_X6_readLane t σ = some (0, σ') ∧ f_X12_readsLane μ = some (0, μ') ∧ NoT σ μ σ' μ' t := by
  have ta := town_a hb.1.1
  obtain ⟨hP, hW, hL, q1, q2, q3, q4, q5, q6⟩ := id hb
  have p6 := hP.2.2.1
  have n5 : (5 : Int32).toNatClampNeg = 5 := rfl
  unfold f_X6_readLane f_X12_readsLane
  rw [ck_t hb.1.1, ck_t (show inb 5 8 = true from rfl), n5, bn_e, q1, q2, show (8 : Int32) + nI L = nI (8 + L) by rw [show (8 : Int32) = nI 8 from rfl, nI_add]]
  have k8 : nI L < 8 ↔ L < 8 := nI_ltI (b := 8) (by omega) (by omega)
  have k16 : nI (8 + L) = 16 ↔ L = 8 := (nI_eq (b := 16) (by omega) (by omega)).trans (by omega)
  by_cases z : L < 8
  · rw [if_pos (k8.mpr z), if_neg (fun w => by have := k16.mp w; omega)]
    obtain ⟨σ1, μ1, a1, a2, a3, a4, a5, a6⟩ := h.nextOk f0
    rw [cl_of _ a1, cl_of _ a2]
    have pq := kw_adv h.2.2.2.1 (Or.inl k2)
    rcases r_two a6 a5 (hP.fr a3 a4) with ⟨a, σ2, ha, b1, b2, b3, cs⟩ | ⟨σ', μ', b1, b2, b3⟩
    · rw [cl_of _ b1, if_neg (nI_ne a (by omega))]
      rcases cs with ⟨b, μ2, hbP, ne, s1, s2, s3, s4, s5, s6, s7, s8, s9⟩ | ⟨s1, s2, σ', μ', s3, s4, s5⟩ | ⟨s1, σ', μ', s2, s3, s4⟩
      · have s4 : f_X12_needsTwo 1 μ1 = some (1, μ2) := s4
        have c2 : Cf σ σ2 := a3.tr b2
        have m2 : Mf μ μ2 := a4.tr s7
        have tb2 := hb.fr c2 m2
        obtain ⟨o, o1, o2, o3⟩ := tb2.ln (nI a) (nI b)
        rw [cl_of _ s1, jn_e2, if_neg one0, cl_of _ s2, jn_e2, if_neg (fun w => ne ((nI_eq (by omega) (by omega)).mp w)), cl_of _ o2, cl_of _ s4, if_neg one0, s5, s6, cl_of _ o3]
        cases o with
        | some k =>
          right
          have := o1 k rfl
          obtain ⟨σ', μ', g1, g2, g3, g4, g5⟩ := s8.bad (k := 3) (by omega) (by omega)
          have g1 : f_X6_wrong 3 σ2 = some (0, σ') := g1
          have g2 : f_X12_fails 3 μ2 = some (0, μ') := g2
          rw [oI_some, if_neg (nI_ne k (by omega)), cl_of _ g1, if_neg (nI_pos (by omega)), cl_of _ g2]
          exact ⟨σ', μ', rfl, rfl, (c2.tr g3).ct, (m2.tr g4).mt, g5⟩
        | none =>
          rw [oI_none, if_pos rfl, if_pos (show (-1 : Int32) < 0 by decide), ck_t (inb_nI (show 8 + L < 16 by omega) (by omega)), bn_e, ck_t (inb_nI (show 8 + L < 16 by omega) (by omega)), bn_e, nI_tn (show 8 + L < 2147483648 by omega), gI_pI_n (Or.inl (by decide)), s6]
          obtain ⟨μ3, e3⟩ : ∃ y, y = pI (pI μ2 5 (8 + L) (nI a)) 6 (8 + L) (nI b) := ⟨_, rfl⟩
          rw [← e3]
          have r3 : Rd σ2 μ3 s n (tkE s n (tkE s n p)) := s8.cm (fun k => by rw [e3, gI_pI_n (Or.inl (by decide)), gI_pI_n (Or.inl (by decide))]) (fun j _ => by rw [e3, gI_pI_n (Or.inl (by decide)), gI_pI_n (Or.inl (by decide))]) (by rw [e3]; rfl)
          have mt3 : MT μ μ3 := by rw [e3]; exact m2.mt.tr ((MT.pI (by omega) (by show (8 : Nat) ≤ 8 + L; omega)).tr (MT.pI (by omega) (by show (8 : Nat) ≤ 8 + L; omega)))
          obtain ⟨σ4, μ4, d1, d2, d3, d4, d5, d6⟩ := r3.nextOk b3
          unfold J_X6_readLane_77
          rw [cl_of _ (s3 σ4 d1), if_neg (nI_ne b (by omega)), cl_of _ d2]
          have tl3 := tk_le (s := s) r3.2.2.2.1
          rcases r_word d6 d5 (i := 2) (by omega) with ⟨wd, σ5, μ5, g1, g2, g3, g4, g5, g6⟩ | ⟨σ5, μ5, g1, g2, g3⟩
          · have g1 : f_X6_readWord 2 σ4 = some (1, σ5) := g1
            have g2 : f_X12_needsWord 1489744 μ4 = some (1, μ5) := g2
            rw [cl_of _ g1, if_neg one0, cl_of _ g2, jn_e2, if_neg one0]
            have tl4 := tk_le (s := s) d6.2.2.2.1
            rcases r_number g6 g5 (m := 20) (by omega) with ⟨k3, vm, σ6, μ6, w1, w2, w3, w4, w5, w6, w7⟩ | ⟨σ6, μ6, w1, w2, w3⟩
            · obtain ⟨v, ev⟩ : ∃ v, v = tkV s n (tkE s n (tkE s n (tkE s n (tkE s n p)))) := ⟨_, rfl⟩
              rw [← ev] at w1 w3 vm
              have w1 : f_X6_readNumber 20 σ5 = some (nI v, σ6) := w1
              have w2 : f_X12_needsNumber 0 20 μ5 = some (1, μ6) := w2
              have m36 : Mf μ3 μ6 := d4.tr (g4.tr w5)
              rw [cl_of _ w1, if_neg (nI_ne v (by omega)), cl_of _ w2, if_neg one0, ck_t (inb_nI (show 8 + L < 16 by omega) (by omega)), bn_e, w3, ck_t (show inb 5 8 = true from rfl), ck_t (show inb 5 8 = true from rfl), bn_e, gI_pI_n (Or.inl (by decide)), m36.1 2 (by decide), show gI μ3 2 5 = nI L by rw [e3, gI_pI_n (Or.inl (by decide)), gI_pI_n (Or.inl (by decide)), m2.1 2 (by decide)]; exact q2, nI_1]
              obtain ⟨μ7, e7⟩ : ∃ y, y = pI (pI μ6 7 (8 + L) (nI v)) 2 5 (nI (L + 1)) := ⟨_, rfl⟩
              rw [← e7]
              have r7 : Rd σ6 μ7 s n _ := w7.cm (fun k => by rw [e7, gI_pI_n (Or.inl (by decide)), gI_pI_n (Or.inl (by decide))]) (fun j _ => by rw [e7, gI_pI_n (Or.inl (by decide)), gI_pI_n (Or.inl (by decide))]) (by rw [e7]; rfl)
              have mt7 : MT μ μ7 := by rw [e7]; exact mt3.tr (m36.mt.tr ((MT.pI (by omega) (by show (8 : Nat) ≤ 8 + L; omega)).tr (MT.pI (by omega) (by show (4 : Nat) ≤ 5; omega))))
              have tl6 := tk_le (s := s) g6.2.2.2.1
              rcases r_close r7 w6 with ⟨sg, σ8, μ8, x1, x2, x3, x4, x5, x6⟩ | ⟨σ8, μ8, x1, x2, x3, x4, x5⟩
              · left
                have c8 : Cf σ σ8 := c2.tr (d3.tr (g3.tr (w4.tr x3)))
                have l8 : gI σ8 t 1 = nI L := by rw [c8.1 t (by omega) (by omega)]; exact q1
                rw [cl_of _ x1, if_neg one0, cl_of _ (s_addLane hb.1.1 l8 z _ _ _), cl_of _ x2]
                obtain ⟨σ9, e9⟩ : ∃ y, y = pI (pI (pI (pI σ8 (t + 5) L (nI a)) (t + 6) L (nI b)) (t + 7) L (nI v)) t 1 (nI (L + 1)) := ⟨_, rfl⟩
                rw [← e9]
                have i9 : ∀ c k, (c ≠ t ∨ k ≠ 1) → (k ≠ L ∨ (c ≠ t + 5 ∧ c ≠ t + 6 ∧ c ≠ t + 7)) → gI σ9 c k = gI σ8 c k := fun c k h1 h2 => by rw [e9, gI_pI_n h1, gI_pI_n (by omega), gI_pI_n (by omega), gI_pI_n (by omega)]
                have l9 : ∀ c k, gL σ9 c k = gL σ8 c k := fun c k => by rw [e9]; rfl
                have ct : CT t σ σ9 := by rw [e9]; exact c8.ct.tr ((CT.pI (by omega)).tr ((CT.pI (by omega)).tr ((CT.pI (by omega)).tr (CT.pI (by omega)))))
                have i7 : ∀ c k, c ≠ 0 → (c ≠ 2 ∨ k ≠ 5) → (k ≠ 8 + L ∨ (c ≠ 5 ∧ c ≠ 6 ∧ c ≠ 7)) → gI μ8 c k = gI μ c k := fun c k h0 h1 h2 => by rw [x4.1 c h0, e7, gI_pI_n h1, gI_pI_n (by omega), m36.1 c h0, e3, gI_pI_n (by omega), gI_pI_n (by omega), m2.1 c h0]
                have m0 : ∀ j, j ≠ 4 → j ≠ 5 → j ≠ 6 → j ≠ 8 → j ≠ 9 → j ≠ 37 → j ≠ 39 → gI μ8 0 j = gI μ 0 j := fun j y1 y2 y3 y4 y5 y6 y7 => by rw [x4.2.1 j y1 y2 y3 y4 y5 y6 y7, e7, gI_pI_n (Or.inl (by decide)), gI_pI_n (Or.inl (by decide)), m36.2.1 j y1 y2 y3 y4 y5 y6 y7, e3, gI_pI_n (Or.inl (by decide)), gI_pI_n (Or.inl (by decide)), m2.2.1 j y1 y2 y3 y4 y5 y6 y7]
                have ml : ∀ c k, c ≠ 0 → gL μ8 c k = gL μ c k := fun c k h0 => by rw [x4.2.2.1 c k (fun y => h0 y.1), e7, gL_pI, gL_pI, m36.2.2.1 c k (fun y => h0 y.1), e3, gL_pI, gL_pI, m2.2.2.1 c k (fun y => h0 y.1)]
                have hP' : NmP σ9 μ8 t 1 P := by
                  obtain ⟨y1, y2, y3, y4, y5, y6⟩ := hP
                  refine ⟨y1, y2, y3, by rw [i9 _ _ (by omega) (by omega), c8.1 t (by omega) (by omega)]; exact y4, by rw [i7 _ _ (by decide) (by omega) (by omega)]; exact y5, fun k hk => ?_⟩
                  rw [l9, ml 3 _ (by decide), c8.2.1 (t + 4) (by omega)]
                  exact y6 k hk
                have hW' : NmW σ9 μ8 t 1 W := by
                  obtain ⟨y1, y2, y3, y4, y5, y6⟩ := hW
                  refine ⟨y1, y2, y3, by rw [i9 _ _ (by omega) (by omega), c8.1 t (by omega) (by omega)]; exact y4, by rw [i7 _ _ (by decide) (by omega) (by omega)]; exact y5, fun k hk => ?_⟩
                  rw [l9, ml 4 _ (by decide), c8.2.1 (t + 8) (by omega)]
                  exact y6 k hk
                refine ⟨σ9, μ8, rfl, rfl, ct, mt7.tr x4.mt, by rw [i9 _ _ (by omega) (by omega)]; exact x5, ⟨fun k => by rw [i9 _ _ (by omega) (by omega)]; exact c8.1 _ (by omega) (by omega) k, fun k => by rw [i9 _ _ (by omega) (by omega)]; exact c8.1 _ (by omega) (by omega) k, i7 12 _ (by decide) (by omega) (by omega), i7 13 _ (by decide) (by omega) (by omega), fun k => i7 14 k (by decide) (by omega) (by omega), m0 23 (by decide) (by decide) (by decide) (by decide) (by decide) (by decide) (by decide)⟩, _, P, L + 1, W, ?_, x6.ct hb.1.1 (fun c hc k => i9 c k (by omega) (by omega)) (fun c hc k => l9 c k), ?_⟩
                · have := sg_lt r7.2.2.2.1 sg; omega
                · refine hb.lane z ha hbP (fun y => ne y.symm) vm hP' hW' ?_ ?_ ?_ ?_ ⟨?_, ?_, ?_⟩ ⟨?_, ?_, ?_⟩ (fun c hc k hk => ⟨?_, i7 c _ (by omega) (by omega) (by omega)⟩) (fun c hc k hk => ⟨?_, i7 c _ (by omega) (by omega) (by omega)⟩)
                  · rw [e9, gI_pI_s]
                  · rw [x4.1 2 (by decide), e7, gI_pI_s]
                  · rw [i9 _ _ (by omega) (by omega), c8.1 t (by omega) (by omega), i7 2 7 (by decide) (by omega) (by omega)]; exact q3
                  · rw [i9 _ _ (by omega) (by omega), c8.1 t (by omega) (by omega), m0 24 (by decide) (by decide) (by decide) (by decide) (by decide) (by decide) (by decide)]; exact q4
                  · rw [e9, gI_pI_n (Or.inl (by omega)), gI_pI_n (Or.inl (by omega)), gI_pI_n (Or.inl (by omega)), gI_pI_s]
                  · rw [e9, gI_pI_n (Or.inl (by omega)), gI_pI_n (Or.inl (by omega)), gI_pI_s]
                  · rw [e9, gI_pI_n (Or.inl (by omega)), gI_pI_s]
                  · rw [x4.1 5 (by decide), e7, gI_pI_n (Or.inl (by decide)), gI_pI_n (Or.inl (by decide)), m36.1 5 (by decide), e3, gI_pI_n (Or.inl (by decide)), gI_pI_s]
                  · rw [x4.1 6 (by decide), e7, gI_pI_n (Or.inl (by decide)), gI_pI_n (Or.inl (by decide)), m36.1 6 (by decide), e3, gI_pI_s]
                  · rw [x4.1 7 (by decide), e7, gI_pI_n (Or.inl (by decide)), gI_pI_s]
                  · rw [i9 _ _ (by omega) (by omega), c8.1 _ (by omega) (by omega)]
                  · rw [i9 _ _ (by omega) (by omega), c8.1 _ (by omega) (by omega)]
              · right
                rw [cl_of _ x1, if_pos rfl, cl_of _ x2]
                exact ⟨σ8, μ8, rfl, rfl, (c2.tr (d3.tr (g3.tr (w4.tr x3)))).ct, mt7.tr x4.mt, x5⟩
            · right
              have w1 : f_X6_readNumber 20 σ5 = some (-1, σ6) := w1
              have w2 : f_X12_needsNumber 0 20 μ5 = some (0, μ6) := w2
              rw [cl_of _ w1, if_pos rfl, cl_of _ w2, if_pos rfl]
              exact ⟨σ6, μ6, rfl, rfl, (c2.tr (d3.tr (g3.tr w3.1))).ct, mt3.tr (d4.tr (g4.tr w3.2.1)).mt, w3.2.2⟩
          · right
            have g1 : f_X6_readWord 2 σ4 = some (0, σ5) := g1
            have g2 : f_X12_needsWord 1489744 μ4 = some (0, μ5) := g2
            rw [cl_of _ g1, if_pos rfl, cl_of _ g2, jn_e2, if_pos rfl]
            exact ⟨σ5, μ5, rfl, rfl, (c2.tr (d3.tr g3.1)).ct, mt3.tr (d4.tr g3.2.1).mt, g3.2.2⟩
      · right
        have s4 : f_X12_needsTwo 1 μ1 = some (0, μ') := s4
        rw [cl_of _ s1, jn_e2, if_neg one0, cl_of _ s2, jn_e2, if_pos rfl, cl_of _ s3, cl_of _ s4, if_pos rfl]
        exact ⟨σ', μ', rfl, rfl, (a3.tr s5.1).ct, (a4.tr s5.2.1).mt, s5.2.2⟩
      · right
        have s3 : f_X12_needsTwo 1 μ1 = some (0, μ') := s3
        unfold J_X6_readLane_77
        rw [cl_of _ s1, jn_e2, if_pos rfl, cl_of _ s2, if_pos rfl, cl_of _ s3, if_pos rfl]
        exact ⟨σ', μ', rfl, rfl, (a3.tr s4.1).ct, (a4.tr s4.2.1).mt, s4.2.2⟩
    · right
      have b2 : f_X12_needsTwo 1 μ1 = some (0, μ') := b2
      rw [cl_of _ b1, if_pos rfl, cl_of _ b2, if_pos rfl]
      exact ⟨σ', μ', rfl, rfl, (a3.tr b3.1).ct, (a4.tr b3.2.1).mt, b3.2.2⟩
  · right
    rw [if_neg (fun w => z (k8.mp w)), if_pos (k16.mpr (by omega))]
    obtain ⟨σ', μ', a1, a2, a3, a4, a5⟩ := h.bad (k := 5) (by omega) (by omega)
    have a1 : f_X6_wrong 5 σ = some (0, σ') := a1
    have a2 : f_X12_fails 5 μ = some (0, μ') := a2
    rw [cl_of _ a1, cl_of _ a2]
    exact ⟨σ', μ', rfl, rfl, a3.ct, a4.mt, a5⟩
