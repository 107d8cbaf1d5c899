/-! the class's maker leaves the first world -/
theorem len16 {α : Type} {l : List α} (h : l.length = 16) : ∃ l0 l1 l2 l3 l4 l5 l6 l7 l8 l9 l10 l11 l12 l13 l14 l15, l = [l0, l1, l2, l3, l4, l5, l6, l7, l8, l9, l10, l11, l12, l13, l14, l15] := by
  match l, h with
  | [l0, l1, l2, l3, l4, l5, l6, l7, l8, l9, l10, l11, l12, l13, l14, l15], _ => exact ⟨l0, l1, l2, l3, l4, l5, l6, l7, l8, l9, l10, l11, l12, l13, l14, l15, rfl⟩
theorem lenX4 {α : Type} {l : List α} (h : l.length = 4) : ∃ m0 m1 m2 m3, l = [m0, m1, m2, m3] := by
  match l, h with
  | [m0, m1, m2, m3], _ => exact ⟨m0, m1, m2, m3, rfl⟩
set_option maxRecDepth 100000 in
set_option maxHeartbeats 1000000 in
theorem gn_Q {h0 q2 qt qw q4 qa qm : Nat} {qs1 qs3 l0 l1 l2 l3 l4 l5 l6 l7 l8 l9 l10 l11 l12 l13 l14 l15 qs5 m0 m1 m2 m3 qs6 qs7 qs8 qs9 qs10 : List Nat} (nqs1 : qs1.length = 2) (nqs3 : qs3.length = 7) (nl0 : l0.length = 7) (nl1 : l1.length = 7) (nl2 : l2.length = 7) (nl3 : l3.length = 7) (nl4 : l4.length = 7) (nl5 : l5.length = 7) (nl6 : l6.length = 7) (nl7 : l7.length = 7) (nl8 : l8.length = 7) (nl9 : l9.length = 7) (nl10 : l10.length = 7) (nl11 : l11.length = 7) (nl12 : l12.length = 7) (nl13 : l13.length = 7) (nl14 : l14.length = 7) (nl15 : l15.length = 7) (nqs5 : qs5.length = 4) (nm0 : m0.length = 16) (nm1 : m1.length = 16) (nm2 : m2.length = 16) (nm3 : m3.length = 16) (nqs6 : qs6.length = 11) (nqs7 : qs7.length = 15) (nqs8 : qs8.length = 15) (nqs9 : qs9.length = 4) (nqs10 : qs10.length = 4) : ∃ Q : List Nat, (∀ i, i < 1 → gD Q (0 + i) = gD [h0] i) ∧ (∀ i, i < 2 → gD Q (1 + i) = gD qs1 i) ∧ (∀ i, i < 1 → gD Q (3 + i) = gD [q2] i) ∧ (∀ i, i < 2 → gD Q (4 + i) = gD [qt, qw] i) ∧ (∀ i, i < 7 → gD Q (6 + i) = gD qs3 i) ∧ (∀ i, i < 2 → gD Q (13 + i) = gD [q4, qa] i) ∧ (∀ i, i < 7 → gD Q (15 + i) = gD l0 i) ∧ (∀ i, i < 7 → gD Q (22 + i) = gD l1 i) ∧ (∀ i, i < 7 → gD Q (29 + i) = gD l2 i) ∧ (∀ i, i < 7 → gD Q (36 + i) = gD l3 i) ∧ (∀ i, i < 7 → gD Q (43 + i) = gD l4 i) ∧ (∀ i, i < 7 → gD Q (50 + i) = gD l5 i) ∧ (∀ i, i < 7 → gD Q (57 + i) = gD l6 i) ∧ (∀ i, i < 7 → gD Q (64 + i) = gD l7 i) ∧ (∀ i, i < 7 → gD Q (71 + i) = gD l8 i) ∧ (∀ i, i < 7 → gD Q (78 + i) = gD l9 i) ∧ (∀ i, i < 7 → gD Q (85 + i) = gD l10 i) ∧ (∀ i, i < 7 → gD Q (92 + i) = gD l11 i) ∧ (∀ i, i < 7 → gD Q (99 + i) = gD l12 i) ∧ (∀ i, i < 7 → gD Q (106 + i) = gD l13 i) ∧ (∀ i, i < 7 → gD Q (113 + i) = gD l14 i) ∧ (∀ i, i < 7 → gD Q (120 + i) = gD l15 i) ∧ (∀ i, i < 4 → gD Q (127 + i) = gD qs5 i) ∧ (∀ i, i < 1 → gD Q (131 + i) = gD [qm] i) ∧ (∀ i, i < 16 → gD Q (132 + i) = gD m0 i) ∧ (∀ i, i < 16 → gD Q (148 + i) = gD m1 i) ∧ (∀ i, i < 16 → gD Q (164 + i) = gD m2 i) ∧ (∀ i, i < 16 → gD Q (180 + i) = gD m3 i) ∧ (∀ i, i < 11 → gD Q (196 + i) = gD qs6 i) ∧ (∀ i, i < 15 → gD Q (207 + i) = gD qs7 i) ∧ (∀ i, i < 15 → gD Q (222 + i) = gD qs8 i) ∧ (∀ i, i < 4 → gD Q (237 + i) = gD qs9 i) ∧ (∀ i, i < 4 → gD Q (241 + i) = gD qs10 i) := by
  refine ⟨[h0] ++ (qs1 ++ ([q2] ++ ([qt, qw] ++ (qs3 ++ ([q4, qa] ++ (l0 ++ (l1 ++ (l2 ++ (l3 ++ (l4 ++ (l5 ++ (l6 ++ (l7 ++ (l8 ++ (l9 ++ (l10 ++ (l11 ++ (l12 ++ (l13 ++ (l14 ++ (l15 ++ (qs5 ++ ([qm] ++ (m0 ++ (m1 ++ (m2 ++ (m3 ++ (qs6 ++ (qs7 ++ (qs8 ++ (qs9 ++ (qs10 ++ ([]))))))))))))))))))))))))))))))))), ?_⟩
  have s0 : ∀ i, gD ([h0] ++ (qs1 ++ ([q2] ++ ([qt, qw] ++ (qs3 ++ ([q4, qa] ++ (l0 ++ (l1 ++ (l2 ++ (l3 ++ (l4 ++ (l5 ++ (l6 ++ (l7 ++ (l8 ++ (l9 ++ (l10 ++ (l11 ++ (l12 ++ (l13 ++ (l14 ++ (l15 ++ (qs5 ++ ([qm] ++ (m0 ++ (m1 ++ (m2 ++ (m3 ++ (qs6 ++ (qs7 ++ (qs8 ++ (qs9 ++ (qs10 ++ ([])))))))))))))))))))))))))))))))))) (0 + i) = gD ([h0] ++ (qs1 ++ ([q2] ++ ([qt, qw] ++ (qs3 ++ ([q4, qa] ++ (l0 ++ (l1 ++ (l2 ++ (l3 ++ (l4 ++ (l5 ++ (l6 ++ (l7 ++ (l8 ++ (l9 ++ (l10 ++ (l11 ++ (l12 ++ (l13 ++ (l14 ++ (l15 ++ (qs5 ++ ([qm] ++ (m0 ++ (m1 ++ (m2 ++ (m3 ++ (qs6 ++ (qs7 ++ (qs8 ++ (qs9 ++ (qs10 ++ ([])))))))))))))))))))))))))))))))))) i := fun i => by rw [Nat.zero_add]
  obtain ⟨p0, s1⟩ := sf_split (n := 1) (b' := 1) s0 rfl rfl
  obtain ⟨p1, s2⟩ := sf_split (n := 2) (b' := 3) s1 nqs1 rfl
  obtain ⟨p2, s3⟩ := sf_split (n := 1) (b' := 4) s2 rfl rfl
  obtain ⟨p3, s4⟩ := sf_split (n := 2) (b' := 6) s3 rfl rfl
  obtain ⟨p4, s5⟩ := sf_split (n := 7) (b' := 13) s4 nqs3 rfl
  obtain ⟨p5, s6⟩ := sf_split (n := 2) (b' := 15) s5 rfl rfl
  obtain ⟨p6, s7⟩ := sf_split (n := 7) (b' := 22) s6 nl0 rfl
  obtain ⟨p7, s8⟩ := sf_split (n := 7) (b' := 29) s7 nl1 rfl
  obtain ⟨p8, s9⟩ := sf_split (n := 7) (b' := 36) s8 nl2 rfl
  obtain ⟨p9, s10⟩ := sf_split (n := 7) (b' := 43) s9 nl3 rfl
  obtain ⟨p10, s11⟩ := sf_split (n := 7) (b' := 50) s10 nl4 rfl
  obtain ⟨p11, s12⟩ := sf_split (n := 7) (b' := 57) s11 nl5 rfl
  obtain ⟨p12, s13⟩ := sf_split (n := 7) (b' := 64) s12 nl6 rfl
  obtain ⟨p13, s14⟩ := sf_split (n := 7) (b' := 71) s13 nl7 rfl
  obtain ⟨p14, s15⟩ := sf_split (n := 7) (b' := 78) s14 nl8 rfl
  obtain ⟨p15, s16⟩ := sf_split (n := 7) (b' := 85) s15 nl9 rfl
  obtain ⟨p16, s17⟩ := sf_split (n := 7) (b' := 92) s16 nl10 rfl
  obtain ⟨p17, s18⟩ := sf_split (n := 7) (b' := 99) s17 nl11 rfl
  obtain ⟨p18, s19⟩ := sf_split (n := 7) (b' := 106) s18 nl12 rfl
  obtain ⟨p19, s20⟩ := sf_split (n := 7) (b' := 113) s19 nl13 rfl
  obtain ⟨p20, s21⟩ := sf_split (n := 7) (b' := 120) s20 nl14 rfl
  obtain ⟨p21, s22⟩ := sf_split (n := 7) (b' := 127) s21 nl15 rfl
  obtain ⟨p22, s23⟩ := sf_split (n := 4) (b' := 131) s22 nqs5 rfl
  obtain ⟨p23, s24⟩ := sf_split (n := 1) (b' := 132) s23 rfl rfl
  obtain ⟨p24, s25⟩ := sf_split (n := 16) (b' := 148) s24 nm0 rfl
  obtain ⟨p25, s26⟩ := sf_split (n := 16) (b' := 164) s25 nm1 rfl
  obtain ⟨p26, s27⟩ := sf_split (n := 16) (b' := 180) s26 nm2 rfl
  obtain ⟨p27, s28⟩ := sf_split (n := 16) (b' := 196) s27 nm3 rfl
  obtain ⟨p28, s29⟩ := sf_split (n := 11) (b' := 207) s28 nqs6 rfl
  obtain ⟨p29, s30⟩ := sf_split (n := 15) (b' := 222) s29 nqs7 rfl
  obtain ⟨p30, s31⟩ := sf_split (n := 15) (b' := 237) s30 nqs8 rfl
  obtain ⟨p31, s32⟩ := sf_split (n := 4) (b' := 241) s31 nqs9 rfl
  obtain ⟨p32, s33⟩ := sf_split (n := 4) (b' := 245) s32 nqs10 rfl
  exact ⟨p0, p1, p2, p3, p4, p5, p6, p7, p8, p9, p10, p11, p12, p13, p14, p15, p16, p17, p18, p19, p20, p21, p22, p23, p24, p25, p26, p27, p28, p29, p30, p31, p32⟩
set_option maxRecDepth 100000 in
set_option maxHeartbeats 1000000 in
theorem gn_world {κ : FieldType → ClassId} {h0 : Nat} {w : va_W} (h : Gn κ h0 w) (ρ : Nat → Nat) : ∃ (Q : List Nat) (τ : Mm), gD Q 0 = h0 ∧ (∀ i, i < 23 → gL τ 1 i = lN (kw32 i)) ∧ Wq w (wsOf SHC κ (thC ρ Q) (mC τ)) := by
  obtain ⟨q1, q2, q3, q4, q5, qm, q6, q7, q8, q9, q10, w1, w2, w3, w4, w5, w6, w7, w8, w9, w10, mss, g, hw1, hw2, hw3, hw4, hw5, b1, b2, b3, hw6, hw7, hw8, hw9, hw10, hw⟩ := h
  obtain ⟨qs1, n1, e1, x1⟩ := hw1
  obtain ⟨qs3, n3, e3, x3⟩ := hw3
  obtain ⟨qs5, n5, e5, x5⟩ := hw5
  obtain ⟨qs6, n6, e6, x6⟩ := hw6
  obtain ⟨qs7, n7, e7, x7⟩ := hw7
  obtain ⟨qs8, n8, e8, x8⟩ := hw8
  obtain ⟨qs9, n9, e9, x9⟩ := hw9
  obtain ⟨qs10, n10, e10, x10⟩ := hw10
  obtain ⟨qt, w2b, ⟨qw, τ, x2a, ht⟩, x2⟩ := hw2
  obtain ⟨qa, lss, f, a1, a2, a3, x4⟩ := hw4
  obtain ⟨l0, l1, l2, l3, l4, l5, l6, l7, l8, l9, l10, l11, l12, l13, l14, l15, xl⟩ := len16 a1
  obtain ⟨m0, m1, m2, m3, xm⟩ := lenX4 b1
  rw [xl] at a2 a3 x4
  rw [xm] at b2 b3 hw
  obtain ⟨Q, p0, p1, p2, p3, p4, p5, p6, p7, p8, p9, p10, p11, p12, p13, p14, p15, p16, p17, p18, p19, p20, p21, p22, p23, p24, p25, p26, p27, p28, p29, p30, p31, p32⟩ := gn_Q (h0 := h0) (q2 := q2) (qt := qt) (qw := qw) (q4 := q4) (qa := qa) (qm := qm) n1 n3 (a2 l0 (by simp)) (a2 l1 (by simp)) (a2 l2 (by simp)) (a2 l3 (by simp)) (a2 l4 (by simp)) (a2 l5 (by simp)) (a2 l6 (by simp)) (a2 l7 (by simp)) (a2 l8 (by simp)) (a2 l9 (by simp)) (a2 l10 (by simp)) (a2 l11 (by simp)) (a2 l12 (by simp)) (a2 l13 (by simp)) (a2 l14 (by simp)) (a2 l15 (by simp)) n5 (b2 m0 (by simp)) (b2 m1 (by simp)) (b2 m2 (by simp)) (b2 m3 (by simp)) n6 n7 n8 n9 n10
  have t1 : thC ρ Q 1 = q1 := (thC_lt (by decide)).trans ((p1 0 (by decide)).trans e1)
  have t6 : thC ρ Q 6 = q3 := (thC_lt (by decide)).trans ((p4 0 (by decide)).trans e3)
  have t127 : thC ρ Q 127 = q5 := (thC_lt (by decide)).trans ((p22 0 (by decide)).trans e5)
  have t196 : thC ρ Q 196 = q6 := (thC_lt (by decide)).trans ((p28 0 (by decide)).trans e6)
  have t207 : thC ρ Q 207 = q7 := (thC_lt (by decide)).trans ((p29 0 (by decide)).trans e7)
  have t222 : thC ρ Q 222 = q8 := (thC_lt (by decide)).trans ((p30 0 (by decide)).trans e8)
  have t237 : thC ρ Q 237 = q9 := (thC_lt (by decide)).trans ((p31 0 (by decide)).trans e9)
  have t241 : thC ρ Q 241 = q10 := (thC_lt (by decide)).trans ((p32 0 (by decide)).trans e10)
  have t0 : thC ρ Q 0 = h0 := (thC_lt (by decide)).trans (p0 0 (by decide))
  have t3 : thC ρ Q 3 = q2 := (thC_lt (by decide)).trans (p2 0 (by decide))
  have t4 : thC ρ Q 4 = qt := (thC_lt (by decide)).trans (p3 0 (by decide))
  have t5 : thC ρ Q 5 = qw := (thC_lt (by decide)).trans (p3 1 (by decide))
  have t13 : thC ρ Q 13 = q4 := (thC_lt (by decide)).trans (p5 0 (by decide))
  have t14 : thC ρ Q 14 = qa := (thC_lt (by decide)).trans (p5 1 (by decide))
  have t131 : thC ρ Q 131 = qm := (thC_lt (by decide)).trans (p23 0 (by decide))
  have k0 : Wq [(h0, .inr (11, [.ref q1, .ref q2, .ref q3, .ref q4, .ref q5, .ref qm, .ref q6, .ref q7, .ref q8, .ref q9, .ref q10]))] (wsAt 0 [.inr (11, [(3, 1), (3, 3), (3, 6), (3, 13), (3, 127), (3, 131), (3, 196), (2, 0), (2, 0), (2, 0), (2, 0)])] κ (thC ρ Q) (mC τ)) := by rw [gk_0, t0, t1, t3, t6, t13, t127, t131, t196, t207, t222, t237, t241]; exact Wq.rf
  have k2 : Wq [(q2, .inr (6, [.ref qt, .int 0]))] (wsAt 3 [.inr (6, [(3, 4), (0, 0)])] κ (thC ρ Q) (mC τ)) := by rw [gk_3, t3, t4]; exact Wq.rf
  have k3 : Wq [(qt, .inr (8, [.ref q1, .ref qw, .int (gI τ 0 2), .int (gI τ 0 3), .int (gI τ 0 4), .long (gL τ 0 5), .int (gI τ 0 6)])), (qw, .inl (κ .long, 23, .inr (.inl (τ.2.1 1))))] (wsAt 4 [.inr (8, [(3, 1), (3, 5), (0, 0), (0, 0), (0, 0), (1, 0), (0, 0)]), .inl (.long, 23, z0)] κ (thC ρ Q) (mC τ)) := by rw [gk_4, t4, t1, t5]; exact Wq.rf
  have rf : ∀ j, j < 16 → f j = some (thC ρ Q (15 + 7 * j)) := by
    intro j hj
    rw [a3 j hj]
    rcases (show j = 0 ∨ j = 1 ∨ j = 2 ∨ j = 3 ∨ j = 4 ∨ j = 5 ∨ j = 6 ∨ j = 7 ∨ j = 8 ∨ j = 9 ∨ j = 10 ∨ j = 11 ∨ j = 12 ∨ j = 13 ∨ j = 14 ∨ j = 15 by omega) with rfl | rfl | rfl | rfl | rfl | rfl | rfl | rfl | rfl | rfl | rfl | rfl | rfl | rfl | rfl | rfl
    · exact congrArg some ((thC_lt (i := 15 + 7 * 0) (by decide)).trans (p6 0 (by decide))).symm
    · exact congrArg some ((thC_lt (i := 15 + 7 * 1) (by decide)).trans (p7 0 (by decide))).symm
    · exact congrArg some ((thC_lt (i := 15 + 7 * 2) (by decide)).trans (p8 0 (by decide))).symm
    · exact congrArg some ((thC_lt (i := 15 + 7 * 3) (by decide)).trans (p9 0 (by decide))).symm
    · exact congrArg some ((thC_lt (i := 15 + 7 * 4) (by decide)).trans (p10 0 (by decide))).symm
    · exact congrArg some ((thC_lt (i := 15 + 7 * 5) (by decide)).trans (p11 0 (by decide))).symm
    · exact congrArg some ((thC_lt (i := 15 + 7 * 6) (by decide)).trans (p12 0 (by decide))).symm
    · exact congrArg some ((thC_lt (i := 15 + 7 * 7) (by decide)).trans (p13 0 (by decide))).symm
    · exact congrArg some ((thC_lt (i := 15 + 7 * 8) (by decide)).trans (p14 0 (by decide))).symm
    · exact congrArg some ((thC_lt (i := 15 + 7 * 9) (by decide)).trans (p15 0 (by decide))).symm
    · exact congrArg some ((thC_lt (i := 15 + 7 * 10) (by decide)).trans (p16 0 (by decide))).symm
    · exact congrArg some ((thC_lt (i := 15 + 7 * 11) (by decide)).trans (p17 0 (by decide))).symm
    · exact congrArg some ((thC_lt (i := 15 + 7 * 12) (by decide)).trans (p18 0 (by decide))).symm
    · exact congrArg some ((thC_lt (i := 15 + 7 * 13) (by decide)).trans (p19 0 (by decide))).symm
    · exact congrArg some ((thC_lt (i := 15 + 7 * 14) (by decide)).trans (p20 0 (by decide))).symm
    · exact congrArg some ((thC_lt (i := 15 + 7 * 15) (by decide)).trans (p21 0 (by decide))).symm
  have k5 : Wq [(q4, .inr (5, [.ref qa, .int 0, .int 0])), (qa, rwE κ RX4 16 f)] (wsAt 13 [.inr (5, [(3, 14), (0, 0), (0, 0)]), .inl (.object RX4, 16, fun j => 15 + 7 * j)] κ (thC ρ Q) (mC τ)) := by
    rw [gk_13, t13, t14]
    exact Wq.app (u := [_]) (u' := [_]) Wq.rf (wq_row rf)
  have rg : ∀ j, j < 4 → g j = some (thC ρ Q (132 + 16 * j)) := by
    intro j hj
    rw [b3 j hj]
    rcases (show j = 0 ∨ j = 1 ∨ j = 2 ∨ j = 3 by omega) with rfl | rfl | rfl | rfl
    · exact congrArg some ((thC_lt (i := 132 + 16 * 0) (by decide)).trans (p24 0 (by decide))).symm
    · exact congrArg some ((thC_lt (i := 132 + 16 * 1) (by decide)).trans (p25 0 (by decide))).symm
    · exact congrArg some ((thC_lt (i := 132 + 16 * 2) (by decide)).trans (p26 0 (by decide))).symm
    · exact congrArg some ((thC_lt (i := 132 + 16 * 3) (by decide)).trans (p27 0 (by decide))).symm
  have k23 : Wq [(qm, rwE κ RX3 4 g)] (wsAt 131 [.inl (.object RX3, 4, fun j => 132 + 16 * j)] κ (thC ρ Q) (mC τ)) := by
    rw [gk_131, t131]
    exact wq_row rg
  have k1 : Wq (wsOf (shTape) κ (gD qs1) zM) (wsAt 1 ((shTape).map (shB 1)) κ (thC ρ Q) (mC τ)) := wq_zM rfl (by decide +kernel) rfl p1 (by decide) (by decide) (by decide)
  have k4 : Wq (wsOf (shNight 0) κ (gD qs3) zM) (wsAt 6 ((shNight 0).map (shB 6)) κ (thC ρ Q) (mC τ)) := wq_zM rfl (by decide +kernel) rfl p4 (by decide) (by decide) (by decide)
  have k6 : Wq (wsOf (shNight 0) κ (gD l0) zM) (wsAt 15 ((shNight 0).map (shB 15)) κ (thC ρ Q) (mC τ)) := wq_zM rfl (by decide +kernel) rfl p6 (by decide) (by decide) (by decide)
  have k7 : Wq (wsOf (shNight 0) κ (gD l1) zM) (wsAt 22 ((shNight 0).map (shB 22)) κ (thC ρ Q) (mC τ)) := wq_zM rfl (by decide +kernel) rfl p7 (by decide) (by decide) (by decide)
  have k8 : Wq (wsOf (shNight 0) κ (gD l2) zM) (wsAt 29 ((shNight 0).map (shB 29)) κ (thC ρ Q) (mC τ)) := wq_zM rfl (by decide +kernel) rfl p8 (by decide) (by decide) (by decide)
  have k9 : Wq (wsOf (shNight 0) κ (gD l3) zM) (wsAt 36 ((shNight 0).map (shB 36)) κ (thC ρ Q) (mC τ)) := wq_zM rfl (by decide +kernel) rfl p9 (by decide) (by decide) (by decide)
  have k10 : Wq (wsOf (shNight 0) κ (gD l4) zM) (wsAt 43 ((shNight 0).map (shB 43)) κ (thC ρ Q) (mC τ)) := wq_zM rfl (by decide +kernel) rfl p10 (by decide) (by decide) (by decide)
  have k11 : Wq (wsOf (shNight 0) κ (gD l5) zM) (wsAt 50 ((shNight 0).map (shB 50)) κ (thC ρ Q) (mC τ)) := wq_zM rfl (by decide +kernel) rfl p11 (by decide) (by decide) (by decide)
  have k12 : Wq (wsOf (shNight 0) κ (gD l6) zM) (wsAt 57 ((shNight 0).map (shB 57)) κ (thC ρ Q) (mC τ)) := wq_zM rfl (by decide +kernel) rfl p12 (by decide) (by decide) (by decide)
  have k13 : Wq (wsOf (shNight 0) κ (gD l7) zM) (wsAt 64 ((shNight 0).map (shB 64)) κ (thC ρ Q) (mC τ)) := wq_zM rfl (by decide +kernel) rfl p13 (by decide) (by decide) (by decide)
  have k14 : Wq (wsOf (shNight 0) κ (gD l8) zM) (wsAt 71 ((shNight 0).map (shB 71)) κ (thC ρ Q) (mC τ)) := wq_zM rfl (by decide +kernel) rfl p14 (by decide) (by decide) (by decide)
  have k15 : Wq (wsOf (shNight 0) κ (gD l9) zM) (wsAt 78 ((shNight 0).map (shB 78)) κ (thC ρ Q) (mC τ)) := wq_zM rfl (by decide +kernel) rfl p15 (by decide) (by decide) (by decide)
  have k16 : Wq (wsOf (shNight 0) κ (gD l10) zM) (wsAt 85 ((shNight 0).map (shB 85)) κ (thC ρ Q) (mC τ)) := wq_zM rfl (by decide +kernel) rfl p16 (by decide) (by decide) (by decide)
  have k17 : Wq (wsOf (shNight 0) κ (gD l11) zM) (wsAt 92 ((shNight 0).map (shB 92)) κ (thC ρ Q) (mC τ)) := wq_zM rfl (by decide +kernel) rfl p17 (by decide) (by decide) (by decide)
  have k18 : Wq (wsOf (shNight 0) κ (gD l12) zM) (wsAt 99 ((shNight 0).map (shB 99)) κ (thC ρ Q) (mC τ)) := wq_zM rfl (by decide +kernel) rfl p18 (by decide) (by decide) (by decide)
  have k19 : Wq (wsOf (shNight 0) κ (gD l13) zM) (wsAt 106 ((shNight 0).map (shB 106)) κ (thC ρ Q) (mC τ)) := wq_zM rfl (by decide +kernel) rfl p19 (by decide) (by decide) (by decide)
  have k20 : Wq (wsOf (shNight 0) κ (gD l14) zM) (wsAt 113 ((shNight 0).map (shB 113)) κ (thC ρ Q) (mC τ)) := wq_zM rfl (by decide +kernel) rfl p20 (by decide) (by decide) (by decide)
  have k21 : Wq (wsOf (shNight 0) κ (gD l15) zM) (wsAt 120 ((shNight 0).map (shB 120)) κ (thC ρ Q) (mC τ)) := wq_zM rfl (by decide +kernel) rfl p21 (by decide) (by decide) (by decide)
  have k22 : Wq (wsOf (shWatched 0) κ (gD qs5) zM) (wsAt 127 ((shWatched 0).map (shB 127)) κ (thC ρ Q) (mC τ)) := wq_zM rfl (by decide +kernel) rfl p22 (by decide) (by decide) (by decide)
  have k24 : Wq (wsOf (shMark 0) κ (gD m0) zM) (wsAt 132 ((shMark 0).map (shB 132)) κ (thC ρ Q) (mC τ)) := wq_zM rfl (by decide +kernel) rfl p24 (by decide) (by decide) (by decide)
  have k25 : Wq (wsOf (shMark 0) κ (gD m1) zM) (wsAt 148 ((shMark 0).map (shB 148)) κ (thC ρ Q) (mC τ)) := wq_zM rfl (by decide +kernel) rfl p25 (by decide) (by decide) (by decide)
  have k26 : Wq (wsOf (shMark 0) κ (gD m2) zM) (wsAt 164 ((shMark 0).map (shB 164)) κ (thC ρ Q) (mC τ)) := wq_zM rfl (by decide +kernel) rfl p26 (by decide) (by decide) (by decide)
  have k27 : Wq (wsOf (shMark 0) κ (gD m3) zM) (wsAt 180 ((shMark 0).map (shB 180)) κ (thC ρ Q) (mC τ)) := wq_zM rfl (by decide +kernel) rfl p27 (by decide) (by decide) (by decide)
  have k28 : Wq (wsOf (shAhead) κ (gD qs6) zM) (wsAt 196 ((shAhead).map (shB 196)) κ (thC ρ Q) (mC τ)) := wq_zM rfl (by decide +kernel) rfl p28 (by decide) (by decide) (by decide)
  have k29 : Wq (wsOf (shTown 0) κ (gD qs7) zT) (wsAt 207 ((shTown 0).map (shB 207)) κ (thC ρ Q) (mC τ)) := wq_zT rfl p29 (by decide)
  have k30 : Wq (wsOf (shTown 0) κ (gD qs8) zT) (wsAt 222 ((shTown 0).map (shB 222)) κ (thC ρ Q) (mC τ)) := wq_zT rfl p30 (by decide)
  have k31 : Wq (wsOf (shLines 0) κ (gD qs9) zM) (wsAt 237 ((shLines 0).map (shB 237)) κ (thC ρ Q) (mC τ)) := wq_zM rfl (by decide +kernel) rfl p31 (by decide) (by decide) (by decide)
  have k32 : Wq (wsOf (shLines 0) κ (gD qs10) zM) (wsAt 241 ((shLines 0).map (shB 241)) κ (thC ρ Q) (mC τ)) := wq_zM rfl (by decide +kernel) rfl p32 (by decide) (by decide) (by decide)
  have J := gn_join (by first | rfl | (rw [List.length_map]; rfl)) (by first | rfl | (rw [List.length_map]; rfl)) (by first | rfl | (rw [List.length_map]; rfl)) (by first | rfl | (rw [List.length_map]; rfl)) (by first | rfl | (rw [List.length_map]; rfl)) (by first | rfl | (rw [List.length_map]; rfl)) (by first | rfl | (rw [List.length_map]; rfl)) (by first | rfl | (rw [List.length_map]; rfl)) (by first | rfl | (rw [List.length_map]; rfl)) (by first | rfl | (rw [List.length_map]; rfl)) (by first | rfl | (rw [List.length_map]; rfl)) (by first | rfl | (rw [List.length_map]; rfl)) (by first | rfl | (rw [List.length_map]; rfl)) (by first | rfl | (rw [List.length_map]; rfl)) (by first | rfl | (rw [List.length_map]; rfl)) (by first | rfl | (rw [List.length_map]; rfl)) (by first | rfl | (rw [List.length_map]; rfl)) (by first | rfl | (rw [List.length_map]; rfl)) (by first | rfl | (rw [List.length_map]; rfl)) (by first | rfl | (rw [List.length_map]; rfl)) (by first | rfl | (rw [List.length_map]; rfl)) (by first | rfl | (rw [List.length_map]; rfl)) (by first | rfl | (rw [List.length_map]; rfl)) (by first | rfl | (rw [List.length_map]; rfl)) (by first | rfl | (rw [List.length_map]; rfl)) (by first | rfl | (rw [List.length_map]; rfl)) (by first | rfl | (rw [List.length_map]; rfl)) (by first | rfl | (rw [List.length_map]; rfl)) (by first | rfl | (rw [List.length_map]; rfl)) (by first | rfl | (rw [List.length_map]; rfl)) (by first | rfl | (rw [List.length_map]; rfl)) (by first | rfl | (rw [List.length_map]; rfl)) k0 k1 k2 k3 k4 k5 k6 k7 k8 k9 k10 k11 k12 k13 k14 k15 k16 k17 k18 k19 k20 k21 k22 k23 k24 k25 k26 k27 k28 k29 k30 k31 k32
  have nl : nW (shNight 0) κ zM [l0, l1, l2, l3, l4, l5, l6, l7, l8, l9, l10, l11, l12, l13, l14, l15] = wsOf (shNight 0) κ (gD l0) zM ++ (wsOf (shNight 0) κ (gD l1) zM ++ (wsOf (shNight 0) κ (gD l2) zM ++ (wsOf (shNight 0) κ (gD l3) zM ++ (wsOf (shNight 0) κ (gD l4) zM ++ (wsOf (shNight 0) κ (gD l5) zM ++ (wsOf (shNight 0) κ (gD l6) zM ++ (wsOf (shNight 0) κ (gD l7) zM ++ (wsOf (shNight 0) κ (gD l8) zM ++ (wsOf (shNight 0) κ (gD l9) zM ++ (wsOf (shNight 0) κ (gD l10) zM ++ (wsOf (shNight 0) κ (gD l11) zM ++ (wsOf (shNight 0) κ (gD l12) zM ++ (wsOf (shNight 0) κ (gD l13) zM ++ (wsOf (shNight 0) κ (gD l14) zM ++ (wsOf (shNight 0) κ (gD l15) zM))))))))))))))) := by
    simp only [nW, List.flatMap_cons, List.flatMap_nil, List.append_nil]
  have nm : nW (shMark 0) κ zM [m0, m1, m2, m3] = wsOf (shMark 0) κ (gD m0) zM ++ (wsOf (shMark 0) κ (gD m1) zM ++ (wsOf (shMark 0) κ (gD m2) zM ++ (wsOf (shMark 0) κ (gD m3) zM))) := by
    simp only [nW, List.flatMap_cons, List.flatMap_nil, List.append_nil]
  have ew : w = [(h0, .inr (11, [.ref q1, .ref q2, .ref q3, .ref q4, .ref q5, .ref qm, .ref q6, .ref q7, .ref q8, .ref q9, .ref q10]))] ++ (wsOf (shTape) κ (gD qs1) zM ++ ([(q2, .inr (6, [.ref qt, .int 0]))] ++ ([(qt, .inr (8, [.ref q1, .ref qw, .int (gI τ 0 2), .int (gI τ 0 3), .int (gI τ 0 4), .long (gL τ 0 5), .int (gI τ 0 6)])), (qw, .inl (κ .long, 23, .inr (.inl (τ.2.1 1))))] ++ (wsOf (shNight 0) κ (gD qs3) zM ++ ([(q4, .inr (5, [.ref qa, .int 0, .int 0])), (qa, rwE κ RX4 16 f)] ++ (wsOf (shNight 0) κ (gD l0) zM ++ (wsOf (shNight 0) κ (gD l1) zM ++ (wsOf (shNight 0) κ (gD l2) zM ++ (wsOf (shNight 0) κ (gD l3) zM ++ (wsOf (shNight 0) κ (gD l4) zM ++ (wsOf (shNight 0) κ (gD l5) zM ++ (wsOf (shNight 0) κ (gD l6) zM ++ (wsOf (shNight 0) κ (gD l7) zM ++ (wsOf (shNight 0) κ (gD l8) zM ++ (wsOf (shNight 0) κ (gD l9) zM ++ (wsOf (shNight 0) κ (gD l10) zM ++ (wsOf (shNight 0) κ (gD l11) zM ++ (wsOf (shNight 0) κ (gD l12) zM ++ (wsOf (shNight 0) κ (gD l13) zM ++ (wsOf (shNight 0) κ (gD l14) zM ++ (wsOf (shNight 0) κ (gD l15) zM ++ (wsOf (shWatched 0) κ (gD qs5) zM ++ ([(qm, rwE κ RX3 4 g)] ++ (wsOf (shMark 0) κ (gD m0) zM ++ (wsOf (shMark 0) κ (gD m1) zM ++ (wsOf (shMark 0) κ (gD m2) zM ++ (wsOf (shMark 0) κ (gD m3) zM ++ (wsOf (shAhead) κ (gD qs6) zM ++ (wsOf (shTown 0) κ (gD qs7) zT ++ (wsOf (shTown 0) κ (gD qs8) zT ++ (wsOf (shLines 0) κ (gD qs9) zM ++ (wsOf (shLines 0) κ (gD qs10) zM)))))))))))))))))))))))))))))))) := by
    rw [hw, nm, x1, x2, x2a, x3, x4, nl, x5, x6, x7, x8, x9, x10]
    simp only [List.append_assoc, List.nil_append, List.cons_append]
  refine ⟨Q, τ, p0 0 (by decide), ht, ?_⟩
  rw [ew, wsAt_0 (S := SHC), SHC_eq]
  exact J
