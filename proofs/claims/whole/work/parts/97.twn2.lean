def TB (σ μ : Mm) (t P L W : Nat) : Prop := NmP σ μ t 1 P ∧ NmW σ μ t 1 W ∧ L ≤ 8 ∧ gI σ t 1 = nI L ∧ gI μ 2 5 = nI L ∧ gI σ t 3 = gI μ 2 7 ∧ gI σ t 4 = gI μ 0 24 ∧ (∀ k, k < L → ∃ a b m, a < P ∧ b < P ∧ a ≠ b ∧ m ≤ 20 ∧ (gI σ (t + 5) k = nI a ∧ gI σ (t + 6) k = nI b ∧ gI σ (t + 7) k = nI m) ∧ gI μ 5 (8 + k) = nI a ∧ gI μ 6 (8 + k) = nI b ∧ gI μ 7 (8 + k) = nI m) ∧ ∀ k, k < W → ∃ c a b m, c ≤ 3 ∧ a < P ∧ b < P ∧ m ≤ 30 ∧ (gI σ (t + 9) k = nI c ∧ gI σ (t + 10) k = nI a ∧ gI σ (t + 11) k = nI b ∧ gI σ (t + 12) k = nI m) ∧ gI μ 8 (6 + k) = nI c ∧ gI μ 9 (6 + k) = nI a ∧ gI μ 10 (6 + k) = nI b ∧ gI μ 11 (6 + k) = nI m
/-- the law that is read stays as it is -/
def LwS (σ μ σ' μ' : Mm) (t : Nat) : Prop := (∀ k, gI σ' (t + 1) k = gI σ (t + 1) k) ∧ (∀ k, gI σ' (t + 2) k = gI σ (t + 2) k) ∧ gI μ' 12 1 = gI μ 12 1 ∧ gI μ' 13 1 = gI μ 13 1 ∧ (∀ k, gI μ' 14 k = gI μ 14 k) ∧ gI μ' 0 23 = gI μ 0 23
theorem LwS.tr {σ μ σ' μ' σ2 μ2 : Mm} {t : Nat} (h : LwS σ μ σ' μ' t) (g : LwS σ' μ' σ2 μ2 t) : LwS σ μ σ2 μ2 t := ⟨fun k => (g.1 k).trans (h.1 k), fun k => (g.2.1 k).trans (h.2.1 k), g.2.2.1.trans h.2.2.1, g.2.2.2.1.trans h.2.2.2.1, fun k => (g.2.2.2.2.1 k).trans (h.2.2.2.2.1 k), g.2.2.2.2.2.trans h.2.2.2.2.2⟩
theorem LwS.of {σ μ σ' μ' : Mm} {t : Nat} (c : Cf σ σ') (m : Mf μ μ') (ht : t = 207 ∨ t = 222) : LwS σ μ σ' μ' t := ⟨fun k => c.1 _ (by omega) (by omega) k, fun k => c.1 _ (by omega) (by omega) k, m.1 12 (by decide) 1, m.1 13 (by decide) 1, fun k => m.1 14 (by decide) k, m.2.1 23 (by decide) (by decide) (by decide) (by decide) (by decide) (by decide) (by decide)⟩
/-- a part of the town is told anew, the rest stays -/
theorem TB.gen {σ μ σ' μ' : Mm} {t P L W P' : Nat} (h : TB σ μ t P L W) (hPP : P ≤ P') (hP : NmP σ' μ' t 1 P') (hW : NmW σ' μ' t 1 W) (e1 : gI σ' t 1 = nI L) (e2 : gI μ' 2 5 = nI L) (e3 : gI σ' t 3 = gI μ' 2 7) (e4 : gI σ' t 4 = gI μ' 0 24) (cl : ∀ a, a = 5 ∨ a = 6 ∨ a = 7 → ∀ k, k < L → gI σ' (t + a) k = gI σ (t + a) k ∧ gI μ' a (8 + k) = gI μ a (8 + k)) (cw : ∀ a, a = 8 ∨ a = 9 ∨ a = 10 ∨ a = 11 → ∀ k, k < W → gI σ' (t + (a + 1)) k = gI σ (t + (a + 1)) k ∧ gI μ' a (6 + k) = gI μ a (6 + k)) : TB σ' μ' t P' L W := by
  obtain ⟨-, -, h3, -, -, -, -, h8, h9⟩ := h
  refine ⟨hP, hW, h3, e1, e2, e3, e4, fun k hk => ?_, fun k hk => ?_⟩
  · obtain ⟨a, b, m, q1, q2, q3, q4, q5, q6⟩ := h8 k hk
    refine ⟨a, b, m, by omega, by omega, q3, q4, ?_⟩
    rw [(cl 5 (by omega) k hk).1, (cl 6 (by omega) k hk).1, (cl 7 (by omega) k hk).1, (cl 5 (by omega) k hk).2, (cl 6 (by omega) k hk).2, (cl 7 (by omega) k hk).2]
    exact ⟨q5, q6⟩
  · obtain ⟨c, a, b, m, q1, q2, q3, q4, q5, q6⟩ := h9 k hk
    refine ⟨c, a, b, m, q1, by omega, by omega, q4, ?_⟩
    have z8 := cw 8 (by omega) k hk
    have z9 := cw 9 (by omega) k hk
    have z10 := cw 10 (by omega) k hk
    have z11 := cw 11 (by omega) k hk
    rw [z8.1, z9.1, z10.1, z11.1, z8.2, z9.2, z10.2, z11.2]
    exact ⟨q5, q6⟩
theorem TB.fr {σ μ σ' μ' : Mm} {t P L W : Nat} (h : TB σ μ t P L W) (c : Cf σ σ') (m : Mf μ μ') : TB σ' μ' t P L W := by
  have ta := town_a h.1.1
  obtain ⟨h1, h2, h3, h4, h5, h6, h7, h8, h9⟩ := id h
  refine h.gen (Nat.le_refl _) (h1.fr c m) (h2.fr c m) (by rw [c.1 t (by omega) (by omega)]; exact h4) (by rw [m.1 2 (by decide)]; exact h5) (by rw [c.1 t (by omega) (by omega), m.1 2 (by decide)]; exact h6) (by rw [c.1 t (by omega) (by omega), m.2.1 24 (by decide) (by decide) (by decide) (by decide) (by decide) (by decide) (by decide)]; exact h7) (fun a ha k _ => ⟨c.1 _ (by omega) (by omega) k, m.1 a (by omega) _⟩) (fun a ha k _ => ⟨c.1 _ (by omega) (by omega) k, m.1 a (by omega) _⟩)
def OkT (σ μ σ' μ' : Mm) (s : Nat → Nat) (n p t : Nat) : Prop := CT t σ σ' ∧ MT μ μ' ∧ gI σ' 3 1 = 0 ∧ LwS σ μ σ' μ' t ∧ ∃ q P L W, p < q ∧ Rd σ' μ' s n q ∧ TB σ' μ' t P L W
def NoT (σ μ σ' μ' : Mm) (t : Nat) : Prop := CT t σ σ' ∧ MT μ μ' ∧ Bad σ' μ'
theorem No.t {σ μ σ' μ' : Mm} {t : Nat} (h : No σ μ σ' μ') : NoT σ μ σ' μ' t := ⟨h.1.ct, h.2.1.mt, h.2.2⟩
/-- place -/
theorem r_rdPlace {σ μ : Mm} {s : Nat → Nat} {n p t P L W : Nat} (h : Rd σ μ s n p) (f0 : gI σ 3 1 = 0) (hb : TB σ μ t P L W) (k2 : tkK s n p = 2) :
    (∃ σ' μ', f_X6_readPlace t σ = some (0, σ') ∧ f_X12_readsPlace μ = some (1, μ') ∧ OkT σ μ σ' μ' s n p t) ∨ ∃ σ' μ', f_X6_readPlace t σ = some (0, σ') ∧ f_X12_readsPlace μ = some (0, μ') ∧ NoT σ μ σ' μ' t := by
  have ta := town_a hb.1.1
  obtain ⟨hP, hW, hL, q1, q2, q3, q4, q5, q6⟩ := id hb
  have p6 := hP.2.2.1
  have c0 : gI σ t 0 = nI P := hP.2.2.2.1
  have m4 : gI μ 2 4 = nI P := hP.2.2.2.2.1
  have n4 : (4 : Int32).toNatClampNeg = 4 := rfl
  unfold f_X6_readPlace f_X12_readsPlace
  rw [ck_t hb.1.1, ck_t (show inb 4 8 = true from rfl), n4, bn_e, c0, m4, show (6 : Int32) + nI P = nI (6 + P) by rw [show (6 : Int32) = nI 6 from rfl, nI_add]]
  have k6 : nI P < 6 ↔ P < 6 := nI_ltI (b := 6) (by omega) (by omega)
  have k12 : nI (6 + P) = 12 ↔ P = 6 := (nI_eq (b := 12) (by omega) (by omega)).trans (by omega)
  by_cases z : P < 6
  · rw [if_pos (k6.mpr z), if_neg (fun w => by have := k12.mp w; omega)]
    obtain ⟨σ1, μ1, a1, a2, a3, a4, a5, a6⟩ := h.nextOk f0
    rw [cl_of _ a1, cl_of _ a2]
    have pq := kw_adv h.2.2.2.1 (Or.inl k2)
    rcases r_new a6 a5 (hP.fr a3 a4) (hW.fr a3 a4) with ⟨σ2, μ2, b1, b2, b3, b4, b5, b6⟩ | ⟨σ2, μ2, b1, b2, b3⟩
    · obtain ⟨o1, o2, o3, o4⟩ := b5
      rw [cl_of _ b1, if_neg one0, bn_e, cl_of _ b2, cl_of _ b3, if_neg one0, ck_t (inb_nI (show 6 + P < 12 by omega) (by omega)), bn_e, nI_tn (show 6 + P < 2147483648 by omega), ck_t (show inb 4 8 = true from rfl), ck_t (show inb 4 8 = true from rfl), bn_e]
      obtain ⟨μ3, e3⟩ : ∃ y, y = pI (pL μ2 3 (6 + P) (gL μ2 0 38)) 2 4 (nI (P + 1)) := ⟨_, rfl⟩
      have m4' : gI (pL μ2 3 (6 + P) (gL μ2 0 38)) 2 4 = nI P := by rw [gI_pL, (a4.tr o2).1 2 (by decide)]; exact m4
      rw [m4', nI_1, ← e3]
      have mt3 : MT μ μ3 := by rw [e3]; exact (a4.tr o2).mt.tr ((MT.pL (Or.inl rfl) (by omega)).tr (MT.pI (by omega) (by show (4 : Nat) ≤ 4; omega)))
      have r3 : Rd σ2 μ3 s n (tkE s n (tkE s n p)) := o4.cm (fun k => by rw [e3, gI_pI_n (Or.inl (by decide)), gI_pL]) (fun j _ => by rw [e3, gI_pI_n (Or.inl (by decide)), gI_pL]) (by rw [e3, gL_pI, gL_pL_n (Or.inl (by decide))])
      rcases r_close r3 o3 with ⟨sg, σ4, μ4, g1, g2, g3, g4, g5, g6⟩ | ⟨σ4, μ4, g1, g2, g3, g4, g5⟩
      · left
        rw [cl_of _ g1, if_neg one0, cl_of _ g2]
        have c4 : Cf σ σ4 := a3.tr (o1.tr g3)
        have c40 : gI σ4 t 0 = nI P := by rw [c4.1 t (by omega) (by omega)]; exact c0
        obtain ⟨nm, en⟩ : ∃ y, y = gL σ1 4 5 := ⟨_, rfl⟩
        rw [← en] at b4 ⊢
        have ad : f_X9_addPlace t nm σ4 = some (0, pI (pL σ4 (t + 4) P nm) t 0 (nI (P + 1))) := by
          unfold f_X9_addPlace
          rw [ck_t hb.1.1, c40, if_pos (k6.mpr z), ck_t (inb_nI (show P < 6 by omega) (by omega)), bn_e, bn_e, nI_tn (show P < 2147483648 by omega), gI_pL, c40, nI_1]
        rw [cl_of _ ad]
        obtain ⟨σ5, e5⟩ : ∃ y, y = pI (pL σ4 (t + 4) P nm) t 0 (nI (P + 1)) := ⟨_, rfl⟩
        rw [← e5]
        have i5 : ∀ a k, a ≠ t ∨ k ≠ 0 → gI σ5 a k = gI σ4 a k := fun a k hk => by rw [e5, gI_pI_n hk, gI_pL]
        have l5 : ∀ a k, a ≠ t + 4 ∨ k ≠ P → gL σ5 a k = gL σ4 a k := fun a k hk => by rw [e5, gL_pI, gL_pL_n hk]
        have ct : CT t σ σ5 := by rw [e5]; exact c4.ct.tr ((CT.pL (by omega)).tr (CT.pI (by omega)))
        have mi : ∀ a, a ≠ 0 → a ≠ 2 → ∀ k, gI μ4 a k = gI μ a k := fun a h1 h2 k => by rw [g4.1 a h1, e3, gI_pI_n (Or.inl h2), gI_pL, (a4.tr o2).1 a h1]
        have m2 : ∀ k, k ≠ 4 → gI μ4 2 k = gI μ 2 k := fun k hk => by rw [g4.1 2 (by decide), e3, gI_pI_n (Or.inr hk), gI_pL, (a4.tr o2).1 2 (by decide)]
        have m0 : ∀ j, j ≠ 4 → j ≠ 5 → j ≠ 6 → j ≠ 8 → j ≠ 9 → j ≠ 37 → j ≠ 39 → gI μ4 0 j = gI μ 0 j := fun j w1 w2 w3 w4 w5 w6 w7 => by rw [g4.2.1 j w1 w2 w3 w4 w5 w6 w7, e3, gI_pI_n (Or.inl (by decide)), gI_pL, (a4.tr o2).2.1 j w1 w2 w3 w4 w5 w6 w7]
        have ml : ∀ a k, a ≠ 0 → (a ≠ 3 ∨ k ≠ 6 + P) → gL μ4 a k = gL μ a k := fun a k h1 h2 => by rw [g4.2.2.1 a k (fun y => h1 y.1), e3, gL_pI, gL_pL_n h2, (a4.tr o2).2.2.1 a k (fun y => h1 y.1)]
        have hP' : NmP σ5 μ4 t 1 (P + 1) := by
          refine ⟨hb.1.1, by omega, by omega, by rw [e5, gI_pI_s], by rw [g4.1 2 (by decide), e3]; exact gI_pI_s _ _ _ _, fun k hk => ?_⟩
          by_cases y : k = P
          · subst y
            rw [e5, gL_pI, gL_pL_s, g4.2.2.1 3 _ (by omega), e3, gL_pI, gL_pL_s]
            exact b4
          · rw [l5 _ _ (Or.inr y), ml 3 _ (by decide) (Or.inr (by omega)), c4.2.1 (t + 4) (by omega)]
            exact hP.2.2.2.2.2 k (by omega)
        have hW' : NmW σ5 μ4 t 1 W := by
          obtain ⟨w1, w2, w3, w4, w5, w6⟩ := hW
          refine ⟨w1, w2, w3, by rw [i5 _ _ (Or.inr (by decide)), c4.1 t (by omega) (by omega)]; exact w4, by rw [m2 _ (by decide)]; exact w5, fun k hk => ?_⟩
          rw [l5 _ _ (Or.inl (by omega)), ml 4 _ (by decide) (Or.inl (by decide)), c4.2.1 (t + 8) (by omega)]
          exact w6 k hk
        refine ⟨σ5, μ4, rfl, rfl, ct, mt3.tr g4.mt, by rw [i5 _ _ (Or.inl (by omega))]; exact g5, ⟨fun k => by rw [i5 _ _ (Or.inl (by omega))]; exact c4.1 _ (by omega) (by omega) k, fun k => by rw [i5 _ _ (Or.inl (by omega))]; exact c4.1 _ (by omega) (by omega) k, mi 12 (by decide) (by decide) 1, mi 13 (by decide) (by decide) 1, fun k => mi 14 (by decide) (by decide) k, m0 23 (by decide) (by decide) (by decide) (by decide) (by decide) (by decide) (by decide)⟩, _, P + 1, L, W, ?_, g6.ct hb.1.1 (fun a ha k => i5 a k (Or.inl (by omega))) (fun a ha k => l5 a k (Or.inl (by omega))), ?_⟩
        · have := sg_lt r3.2.2.2.1 sg; omega
        · refine hb.gen (by omega) hP' hW' ?_ ?_ ?_ ?_ (fun a ha k _ => ⟨?_, mi a (by omega) (by omega) _⟩) (fun a ha k _ => ⟨?_, mi a (by omega) (by omega) _⟩)
          · rw [i5 _ _ (Or.inr (by decide)), c4.1 t (by omega) (by omega)]; exact q1
          · rw [m2 _ (by decide)]; exact q2
          · rw [i5 _ _ (Or.inr (by decide)), c4.1 t (by omega) (by omega), m2 _ (by decide)]; exact q3
          · rw [i5 _ _ (Or.inr (by decide)), c4.1 t (by omega) (by omega), m0 24 (by decide) (by decide) (by decide) (by decide) (by decide) (by decide) (by decide)]; exact q4
          · rw [i5 _ _ (Or.inl (by omega)), c4.1 _ (by omega) (by omega)]
          · rw [i5 _ _ (Or.inl (by omega)), c4.1 _ (by omega) (by omega)]
      · right
        rw [cl_of _ g1, if_pos rfl, cl_of _ g2]
        exact ⟨σ4, μ4, rfl, rfl, (a3.tr (o1.tr g3)).ct, mt3.tr g4.mt, g5⟩
    · right
      rw [cl_of _ b1, if_pos rfl, cl_of _ b2, if_pos rfl]
      exact ⟨σ2, μ2, rfl, rfl, (a3.tr b3.1).ct, (a4.tr b3.2.1).mt, b3.2.2⟩
  · right
    rw [if_neg (fun w => z (k6.mp w)), if_pos (k12.mpr (by omega))]
    obtain ⟨σ', μ', a1, a2, a3, a4, a5⟩ := h.bad (k := 5) (by omega) (by omega)
    have a1 : f_X6_wrong 5 σ = some (0, σ') := a1
    have a2 : f_X12_fails 5 μ = some (0, μ') := a2
    rw [cl_of _ a1, cl_of _ a2]
    exact ⟨σ', μ', rfl, rfl, a3.ct, a4.mt, a5⟩
/-- boy -/
theorem r_rdBoy {σ μ : Mm} {s : Nat → Nat} {n p t P L W : Nat} (h : Rd σ μ s n p) (f0 : gI σ 3 1 = 0) (hb : TB σ μ t P L W) (k2 : tkK s n p = 2) :
    (∃ σ' μ', f_X6_readBoy t σ = some (0, σ') ∧ f_X12_readsBoy μ = some (1, μ') ∧ OkT σ μ σ' μ' s n p t) ∨ ∃ σ' μ', f_X6_readBoy t σ = some (0, σ') ∧ f_X12_readsBoy μ = some (0, μ') ∧ NoT σ μ σ' μ' t := by
  have ta := town_a hb.1.1
  obtain ⟨hP, hW, hL, q1, q2, q3, q4, q5, q6⟩ := id hb
  have n7 : (7 : Int32).toNatClampNeg = 7 := rfl
  unfold f_X6_readBoy f_X12_readsBoy
  rw [ck_t hb.1.1, ← q4]
  by_cases z : gI σ t 4 = 0
  · rw [if_pos z, if_pos z, bn_e]
    obtain ⟨μ0, e0⟩ : ∃ y, y = pI μ 0 24 1 := ⟨_, rfl⟩
    rw [← e0]
    have r0 : Rd σ μ0 s n p := h.cm (fun k => by rw [e0, gI_pI_n (Or.inl (by decide))]) (fun j hj => by rw [e0, gI_pI_n (Or.inr (by omega))]) (by rw [e0]; rfl)
    have mt0 : MT μ μ0 := by rw [e0]; exact MT.p0 (Or.inr rfl)
    obtain ⟨σ1, μ1, a1, a2, a3, a4, a5, a6⟩ := r0.nextOk f0
    rw [cl_of _ a1, cl_of _ a2]
    have pq := kw_adv h.2.2.2.1 (Or.inl k2)
    rcases r_number a6 a5 (m := 99) (by omega) with ⟨k3, vm, σ2, μ2, b1, b2, b3, b4, b5, b6, b7⟩ | ⟨σ2, μ2, b1, b2, b3⟩
    · obtain ⟨v, ev⟩ : ∃ v, v = tkV s n (tkE s n p) := ⟨_, rfl⟩
      rw [← ev] at b1 b3 vm
      have b1 : f_X6_readNumber 99 σ1 = some (nI v, σ2) := b1
      have b2 : f_X12_needsNumber 0 99 μ1 = some (1, μ2) := b2
      rw [cl_of _ b1, if_neg (nI_ne v (by omega)), cl_of _ b2, if_neg one0, ck_t (show inb 7 8 = true from rfl), bn_e, n7, b3]
      obtain ⟨μ3, e3⟩ : ∃ y, y = pI μ2 2 7 (nI v) := ⟨_, rfl⟩
      rw [← e3]
      have mt3 : MT μ μ3 := by rw [e3]; exact mt0.tr ((a4.tr b5).mt.tr (MT.pI (by omega) (by show (4 : Nat) ≤ 7; omega)))
      have r3 : Rd σ2 μ3 s n (tkE s n (tkE s n p)) := b7.cm (fun k => by rw [e3, gI_pI_n (Or.inl (by decide))]) (fun j _ => by rw [e3, gI_pI_n (Or.inl (by decide))]) (by rw [e3]; rfl)
      have adv2 := kw_adv a6.2.2.2.1 (Or.inr k3)
      rcases r_close r3 b6 with ⟨sg, σ4, μ4, g1, g2, g3, g4, g5, g6⟩ | ⟨σ4, μ4, g1, g2, g3, g4, g5⟩
      · left
        rw [cl_of _ g1, if_neg one0, cl_of _ g2, bn_e, bn_e]
        have c4 : Cf σ σ4 := a3.tr (b4.tr g3)
        obtain ⟨σ5, e5⟩ : ∃ y, y = pI (pI σ4 t 3 (nI v)) t 4 1 := ⟨_, rfl⟩
        rw [← e5]
        have i5 : ∀ a k, a ≠ t ∨ (k ≠ 3 ∧ k ≠ 4) → gI σ5 a k = gI σ4 a k := fun a k hk => by rw [e5, gI_pI_n (by omega), gI_pI_n (by omega)]
        have l5 : ∀ a k, gL σ5 a k = gL σ4 a k := fun a k => by rw [e5]; rfl
        have ct : CT t σ σ5 := by rw [e5]; exact c4.ct.tr ((CT.pI (by omega)).tr (CT.pI (by omega)))
        have mi : ∀ a, a ≠ 0 → a ≠ 2 → ∀ k, gI μ4 a k = gI μ a k := fun a h1 h2 k => by rw [g4.1 a h1, e3, gI_pI_n (Or.inl h2), (a4.tr b5).1 a h1, e0, gI_pI_n (Or.inl h1)]
        have m2 : ∀ k, k ≠ 7 → gI μ4 2 k = gI μ 2 k := fun k hk => by rw [g4.1 2 (by decide), e3, gI_pI_n (Or.inr hk), (a4.tr b5).1 2 (by decide), e0, gI_pI_n (Or.inl (by decide))]
        have m0 : ∀ j, j ≠ 4 → j ≠ 5 → j ≠ 6 → j ≠ 8 → j ≠ 9 → j ≠ 37 → j ≠ 39 → gI μ4 0 j = gI μ0 0 j := fun j w1 w2 w3 w4 w5 w6 w7 => by rw [g4.2.1 j w1 w2 w3 w4 w5 w6 w7, e3, gI_pI_n (Or.inl (by decide)), (a4.tr b5).2.1 j w1 w2 w3 w4 w5 w6 w7]
        have ml : ∀ a k, a ≠ 0 → gL μ4 a k = gL μ a k := fun a k h1 => by rw [g4.2.2.1 a k (fun y => h1 y.1), e3, gL_pI, (a4.tr b5).2.2.1 a k (fun y => h1 y.1), e0, gL_pI]
        have hP' : NmP σ5 μ4 t 1 P := by
          obtain ⟨w1, w2, w3, w4, w5, w6⟩ := hP
          refine ⟨w1, w2, w3, by rw [i5 _ _ (Or.inr (by decide)), c4.1 t (by omega) (by omega)]; exact w4, by rw [m2 _ (by decide)]; exact w5, fun k hk => ?_⟩
          rw [l5, ml 3 _ (by decide), c4.2.1 (t + 4) (by omega)]
          exact w6 k hk
        have hW' : NmW σ5 μ4 t 1 W := by
          obtain ⟨w1, w2, w3, w4, w5, w6⟩ := hW
          refine ⟨w1, w2, w3, by rw [i5 _ _ (Or.inr (by decide)), c4.1 t (by omega) (by omega)]; exact w4, by rw [m2 _ (by decide)]; exact w5, fun k hk => ?_⟩
          rw [l5, ml 4 _ (by decide), c4.2.1 (t + 8) (by omega)]
          exact w6 k hk
        refine ⟨σ5, μ4, rfl, rfl, ct, mt3.tr g4.mt, by rw [i5 _ _ (Or.inl (by omega))]; exact g5, ⟨fun k => by rw [i5 _ _ (Or.inl (by omega))]; exact c4.1 _ (by omega) (by omega) k, fun k => by rw [i5 _ _ (Or.inl (by omega))]; exact c4.1 _ (by omega) (by omega) k, mi 12 (by decide) (by decide) 1, mi 13 (by decide) (by decide) 1, fun k => mi 14 (by decide) (by decide) k, by rw [m0 23 (by decide) (by decide) (by decide) (by decide) (by decide) (by decide) (by decide), e0, gI_pI_n (Or.inr (by decide))]⟩, _, P, L, W, ?_, g6.ct hb.1.1 (fun a ha k => i5 a k (Or.inl (by omega))) (fun a ha k => l5 a k), ?_⟩
        · have := sg_lt r3.2.2.2.1 sg; omega
        · refine hb.gen (by omega) hP' hW' ?_ ?_ ?_ ?_ (fun a ha k _ => ⟨?_, mi a (by omega) (by omega) _⟩) (fun a ha k _ => ⟨?_, mi a (by omega) (by omega) _⟩)
          · rw [i5 _ _ (Or.inr (by decide)), c4.1 t (by omega) (by omega)]; exact q1
          · rw [m2 _ (by decide)]; exact q2
          · rw [e5, gI_pI_n (Or.inr (by decide)), gI_pI_s, g4.1 2 (by decide), e3, gI_pI_s]
          · rw [e5, gI_pI_s, m0 24 (by decide) (by decide) (by decide) (by decide) (by decide) (by decide) (by decide), e0, gI_pI_s]
          · rw [i5 _ _ (Or.inl (by omega)), c4.1 _ (by omega) (by omega)]
          · rw [i5 _ _ (Or.inl (by omega)), c4.1 _ (by omega) (by omega)]
      · right
        rw [cl_of _ g1, if_pos rfl, cl_of _ g2]
        exact ⟨σ4, μ4, rfl, rfl, (a3.tr (b4.tr g3)).ct, mt3.tr g4.mt, g5⟩
    · right
      have b1 : f_X6_readNumber 99 σ1 = some (-1, σ2) := b1
      have b2 : f_X12_needsNumber 0 99 μ1 = some (0, μ2) := b2
      rw [cl_of _ b1, if_pos rfl, cl_of _ b2, if_pos rfl]
      exact ⟨σ2, μ2, rfl, rfl, (a3.tr b3.1).ct, mt0.tr (a4.tr b3.2.1).mt, b3.2.2⟩
  · right
    rw [if_neg z, if_neg z]
    obtain ⟨σ', μ', a1, a2, a3, a4, a5⟩ := h.bad (k := 3) (by omega) (by omega)
    have a1 : f_X6_wrong 3 σ = some (0, σ') := a1
    have a2 : f_X12_fails 3 μ = some (0, μ') := a2
    rw [cl_of _ a1, cl_of _ a2]
    exact ⟨σ', μ', rfl, rfl, a3.ct, a4.mt, a5⟩
