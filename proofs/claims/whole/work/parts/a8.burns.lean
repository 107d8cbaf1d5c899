/-! the law, read side by side: the whole of it -/
theorem TB.g2 {σ μ σ' μ' : Mm} {t P L W : Nat} (h : TB σ μ t P L W) (e1 : ∀ a k, a = t ∨ (t + 4 ≤ a ∧ a ≤ t + 12) → gI σ' a k = gI σ a k) (e2 : ∀ a k, a = t + 4 ∨ a = t + 8 → gL σ' a k = gL σ a k) (e3 : ∀ a k, 2 ≤ a → a ≤ 11 → gI μ' a k = gI μ a k) (e4 : gI μ' 0 24 = gI μ 0 24) (e5 : ∀ a k, a = 3 ∨ a = 4 → gL μ' a k = gL μ a k) : TB σ' μ' t P L W := by
  obtain ⟨h1, h2, h3, h4, h5, h6, h7, h8, h9⟩ := id h
  have hP' : NmP σ' μ' t 1 P := by
    obtain ⟨w1, w2, w3, w4, w5, w6⟩ := h1
    refine ⟨w1, w2, w3, by rw [e1 _ _ (Or.inl rfl)]; exact w4, by rw [e3 _ _ (by omega) (by omega)]; exact w5, fun k hk => ?_⟩
    rw [e2 _ _ (Or.inl rfl), e5 _ _ (Or.inl rfl)]; exact w6 k hk
  have hW' : NmW σ' μ' t 1 W := by
    obtain ⟨w1, w2, w3, w4, w5, w6⟩ := h2
    refine ⟨w1, w2, w3, by rw [e1 _ _ (Or.inl rfl)]; exact w4, by rw [e3 _ _ (by omega) (by omega)]; exact w5, fun k hk => ?_⟩
    rw [e2 _ _ (Or.inr rfl), e5 _ _ (Or.inr rfl)]; exact w6 k hk
  exact h.gen (Nat.le_refl _) hP' hW' (by rw [e1 _ _ (Or.inl rfl)]; exact h4) (by rw [e3 _ _ (by omega) (by omega)]; exact h5) (by rw [e1 _ _ (Or.inl rfl), e3 _ _ (by omega) (by omega)]; exact h6) (by rw [e1 _ _ (Or.inl rfl), e4]; exact h7) (fun a ha k _ => ⟨e1 _ _ (by omega), e3 _ _ (by omega) (by omega)⟩) (fun a ha k _ => ⟨e1 _ _ (by omega), e3 _ _ (by omega) (by omega)⟩)
theorem TB.lf {σ μ σ' μ' : Mm} {t P L W : Nat} (h : TB σ μ t P L W) (c : LCf t σ σ') (m : LMf μ μ') : TB σ' μ' t P L W := by
  have ta := town_a h.1.1
  exact h.g2 (fun a k ha => c.1 a (by omega) (by omega) (by omega) (by omega) k) (fun a k ha => c.2.2.1 a (by omega) k) (fun a k h1 h2 => m.1 a (by omega) (by omega) (by omega) (by omega) k) (m.2.1 24 (by decide) (by decide) (by decide) (by decide) (by decide) (by decide) (by decide) (by decide)) (fun a k ha => m.2.2.1 a k (by omega))
theorem LCf.ct {t : Nat} {σ τ : Mm} (h : LCf t σ τ) : CT t σ τ := ⟨fun a h1 h2 h3 k => h.1 a h1 h2 (by omega) (by omega) k, fun a h1 _ k => h.2.2.1 a h1 k, h.2.2.2⟩
theorem LMf.mt {σ τ : Mm} (h : LMf σ τ) (e : ∀ k, k < 1000 → gI τ 14 k = gI σ 14 k) : MT σ τ := by
  refine ⟨fun a h1 h2 k => h.1 a h1 (by omega) (by omega) (by omega) k, fun a h1 h2 k hk => ?_, fun j a b c d e f _ g i => h.2.1 j a b c d e f g i, fun a k z _ _ => h.2.2.1 a k (fun y => z y.1), fun a k z _ => h.2.2.1 a k (by omega), h.2.2.2⟩
  by_cases z : a = 14
  · subst z; exact e k hk
  · exact h.1 a (by omega) z (by omega) (by omega) k
/-- the law of a town that is being told: none yet, or one that means the same to both -/
def LwT (σ μ : Mm) (t : Nat) : Prop := gI μ 12 1 = nI 1000 ∧ ((gI σ (t + 1) 2 = nI 0 ∧ gI μ 13 1 = nI 1000 ∧ gI μ 0 23 = nI 1000) ∨ ∃ len c E, 0 < len ∧ len ≤ 1000 ∧ gI σ (t + 1) 2 = nI len ∧ gI μ 13 1 = nI c ∧ 1000 < c ∧ c ≤ 2000 ∧ SemC (gI σ (t + 2)) 0 len 11 E ∧ LkS 0 (gI μ 14) 1000 c 0 (fun _ => false) E)
theorem LwT.st {σ μ σ' μ' : Mm} {t : Nat} (h : LwT σ μ t) (g : LwS σ μ σ' μ' t) : LwT σ' μ' t := by
  obtain ⟨g1, g2, g3, g4, g5, g6⟩ := g
  obtain ⟨h1, h2⟩ := h
  refine ⟨by rw [g3]; exact h1, ?_⟩
  rcases h2 with ⟨a, b, c⟩ | ⟨len, c, E, a1, a2, a3, a4, a5, a6, a7, a8⟩
  · exact Or.inl ⟨by rw [g1]; exact a, by rw [g4]; exact b, by rw [g6]; exact c⟩
  · exact Or.inr ⟨len, c, E, a1, a2, by rw [g1]; exact a3, by rw [g4]; exact a4, a5, a6, a7.congr (fun k _ _ => g2 k), LkS.congr (k := 0) a8 (fun j _ _ => g5 j)⟩
def OkW (σ μ σ' μ' : Mm) (s : Nat → Nat) (n p t : Nat) : Prop := CT t σ σ' ∧ MT μ μ' ∧ gI σ' 3 1 = 0 ∧ LwT σ' μ' t ∧ ∃ q P L W, p < q ∧ Rd σ' μ' s n q ∧ TB σ' μ' t P L W
theorem OkT.w {σ μ σ' μ' : Mm} {s : Nat → Nat} {n p t : Nat} (h : OkT σ μ σ' μ' s n p t) (l : LwT σ μ t) : OkW σ μ σ' μ' s n p t := ⟨h.1, h.2.1, h.2.2.1, l.st h.2.2.2.1, h.2.2.2.2⟩
theorem r_rdBurns {σ μ : Mm} {s : Nat → Nat} {n p t P L W : Nat} (h : Rd σ μ s n p) (f0 : gI σ 3 1 = 0) (hb : TB σ μ t P L W) (hl : LwT σ μ t) (k2 : tkK s n p = 2) :
    (∃ σ' μ', f_X6_readLaw t σ = some (0, σ') ∧ f_X12_readsBurns μ = some (1, μ') ∧ OkW σ μ σ' μ' s n p t) ∨ ∃ σ' μ', f_X6_readLaw t σ = some (0, σ') ∧ f_X12_readsBurns μ = some (0, μ') ∧ NoT σ μ σ' μ' t := by
  have ht := hb.1.1
  have ta := town_a ht
  have n1 : (1 : Int32).toNatClampNeg = 1 := rfl
  have i1 : inb 1 2 = true := rfl
  unfold f_X6_readLaw f_X12_readsBurns
  rw [ck_t ht, ck_t i1, ck_t i1, n1, hl.1]
  rcases hl.2 with ⟨a, b, c⟩ | ⟨len, c, E, a1, a2, a3, a4, a5, a6, a7, a8⟩
  · rw [a, b, if_neg (show ¬ (0 : Int32) < nI 0 by decide), if_neg (fun z => Int32.lt_irrefl z)]
    obtain ⟨σ1, μ1, b1, b2, b3, b4, b5, b6⟩ := h.nextOk f0
    have pq := kw_adv h.2.2.2.1 (Or.inl k2)
    rw [cl_of _ b1, cl_of _ b2, ck_t i1, bn_e]
    have e23 : gI μ1 0 23 = nI 1000 := by rw [b4.2.1 23 (by decide) (by decide) (by decide) (by decide) (by decide) (by decide) (by decide)]; exact c
    rw [e23]
    unfold f_X12_reads
    rw [ck_t (show inb 0 7 = true from rfl), bn_e, show (0 : Int32).toNatClampNeg = 0 from rfl, show vp_nar .boolean (0 : Int32) = 0 by decide]
    obtain ⟨μ3, e3⟩ : ∃ y, y = pI (pI μ1 12 1 (nI 1000)) 16 0 0 := ⟨_, rfl⟩
    rw [← e3]
    have r3 : Rd σ1 μ3 s n (tkE s n p) := b6.cm (fun k => by rw [e3, gI_pI_n (Or.inl (by decide)), gI_pI_n (Or.inl (by decide))]) (fun j _ => by rw [e3, gI_pI_n (Or.inl (by decide)), gI_pI_n (Or.inl (by decide))]) (by rw [e3]; rfl)
    have mt3 : MT μ μ3 := by rw [e3]; exact b4.mt.tr ((MT.pI (by omega) (by show (1 : Nat) ≤ 1; omega)).tr (MT.pI (by omega) (by show (0 : Nat) ≤ 0; omega)))
    have tb3 : TB σ1 μ3 t P L W := (hb.fr b3 b4).g2 (fun _ _ _ => rfl) (fun _ _ _ => rfl) (fun a k h1 h2 => by rw [e3, gI_pI_n (Or.inl (by omega)), gI_pI_n (Or.inl (by omega))]) (by rw [e3, gI_pI_n (Or.inl (by decide)), gI_pI_n (Or.inl (by decide))]) (fun a k _ => by rw [e3]; rfl)
    have L3 : LSt σ1 μ3 t s n (tkE s n p) 0 1000 := ⟨r3, b5, by rw [b3.1 _ (by omega) (by omega)]; exact a, by omega, by rw [e3, gI_pI_n (Or.inl (by decide)), gI_pI_n (Or.inl (by decide))]; exact e23, by omega, by omega⟩
    have x12 : gI μ3 12 1 = nI 1000 := by rw [e3, gI_pI_n (Or.inl (by decide)), gI_pI_s]
    rcases (law_ind (n := n) (s := s) ht 48).2 0 (by omega) σ1 μ3 (tkE s n p) 0 1000 0 (fun _ => false) (by omega) (by omega) (by omega) L3 (fun j h1 h2 => absurd h1 (by omega)) rfl (fun _ => by rw [e3, gI_pI_s]) with ⟨σ4, μ4, q, len, c4, E, cm, d1, L4, d2, d3, d4, S4, d5, d6, d7, d8⟩ | ⟨σ4, μ4, d1, d2⟩
    · have d1 : f_X6_readLevel (t + 1) 0 0 σ1 = some (1, σ4) := d1
      rw [cl_of _ d1, if_neg one0]
      have g59 : f_X8_isSign 59 σ4 = _ := (L4.1.sign (c := 59) (by omega)).1
      have g16 := d5.1 (by omega)
      have qn : q ≤ n := L4.1.2.2.2.1
      have n1k : n ≤ 1000 := L4.1.1.1
      obtain ⟨a1, a2, a3, a4, a5, a6, a7, a8, a9, a10, a11, k, a12, a13⟩ := id S4
      have stp : lq3 F_X12_reads_11 1000000 0 1 μ3 = lq3 F_X12_reads_11 (999999 - k + 1) (nI 0) (nI 0) μ4 := by
        rw [← a13 (999999 - k + 1)]
        show _ = lq3 F_X12_reads_11 (999999 - k + 1 + k) 0 1 μ3
        rw [show 999999 - k + 1 + k = 1000000 by omega]
      have past := m_past (d := 0) L4.1 (by omega) g16 ⟨d8.1 (by omega), d8.2.1 (by omega), d8.2.2.1 (by omega), d8.2.2.2 rfl⟩
      rw [stp]
      unfold f_X6_readSign
      cases e : sgT s n q 59
      · right
        obtain ⟨σ', μ', f1, f2, f3, f4, f5⟩ := L4.1.bad (k := 1) (by omega) (by omega)
        have f1 : f_X6_wrong 1 σ4 = some (0, σ') := f1
        have f2 : f_X12_fails 1 μ4 = some (0, μ') := f2
        rw [e] at g59
        rw [past, if_neg (fun z => by omega), if_neg (fun z => by rw [e] at z; cases z.1), cl_of _ f2, cl_of _ g59, if_pos b1F0, cl_of _ f1]
        exact ⟨σ', μ', rfl, rfl, b3.ct.tr (a6.ct.tr f3.ct), mt3.tr ((a7.mt (fun j hj => a9 j hj)).tr f4.mt), f5⟩
      · left
        rw [e] at g59
        obtain ⟨σ5, μ5, f1, f2, f3, f4, f5, f6⟩ := L4.1.nextOk L4.2.1
        have adv := sg_lt qn e
        rw [past, if_neg (fun z => by omega), if_pos ⟨e, rfl⟩, cl_of _ f2, cl_of _ g59, if_neg b1T0, cl_of _ f1]
        have y23 : gI μ5 0 23 = nI c4 := by rw [f4.2.1 23 (by decide) (by decide) (by decide) (by decide) (by decide) (by decide) (by decide)]; exact L4.2.2.2.2.1
        have go : cl (some ((1 : Int32), μ5)) (fun r36 σ36 => if r36 = 0 then some ((0 : Int32), σ36) else ck (inb 1 2) (bn (pI σ36 13 1 (gI σ36 0 23)) (fun σ53 => some ((1 : Int32), σ53)))) = some (1, pI μ5 13 1 (nI c4)) := by
          rw [cl_of _ rfl, if_neg one0, ck_t i1, bn_e, y23]
        refine ⟨σ5, pI μ5 13 1 (nI c4), rfl, go, b3.ct.tr (a6.ct.tr f3.ct), mt3.tr ((a7.mt (fun j hj => a9 j hj)).tr (f4.mt.tr (MT.pI (by omega) (by show (1 : Nat) ≤ 1; omega)))), f5, ⟨?_, Or.inr ⟨len, c4, E, by omega, ?_, ?_, ?_, by omega, ?_, ?_, ?_⟩⟩, tkE s n q, P, L, W, by omega, ?_, ?_⟩
        · rw [gI_pI_n (Or.inl (by decide)), f4.1 12 (by decide), a7.1 12 (by decide) (by decide) (by decide) (by decide)]; exact x12
        · have := L4.2.2.2.1; omega
        · rw [f3.1 _ (by omega) (by omega)]; exact L4.2.2.1
        · rw [gI_pI_s]
        · have := L4.2.2.2.2.2.2; omega
        · exact d6.congr (fun j _ _ => f3.1 _ (by omega) (by omega) j)
        · exact LkS.congr (k := 0) d7 (fun j _ _ => by rw [gI_pI_n (Or.inl (by decide))]; exact f4.1 14 (by decide) j)
        · exact f6.cm (fun j => by rw [gI_pI_n (Or.inl (by decide))]) (fun j _ => by rw [gI_pI_n (Or.inl (by decide))]) rfl
        · exact ((tb3.lf a6 a7).fr f3 f4).g2 (fun _ _ _ => rfl) (fun _ _ _ => rfl) (fun a k h1 h2 => by rw [gI_pI_n (Or.inl (by omega))]) (by rw [gI_pI_n (Or.inl (by decide))]) (fun a k _ => rfl)
    · right
      have d1 : f_X6_readLevel (t + 1) 0 0 σ1 = some (0, σ4) := d1
      obtain ⟨g1, g2, g3, g4, k, g5, g6⟩ := d2
      have qn : tkE s n p ≤ n := L3.1.2.2.2.1
      have n1k : n ≤ 1000 := L3.1.1.1
      have stp : lq3 F_X12_reads_11 1000000 0 1 μ3 = some (0, μ4) := by
        have := g6 (1000000 - k)
        rw [show 1000000 - k + k = 1000000 by omega] at this
        exact this
      rw [cl_of _ d1, if_pos rfl, cl_of _ stp, if_pos rfl]
      exact ⟨σ4, μ4, rfl, rfl, b3.ct.tr g1.ct, mt3.tr (g2.mt (fun j hj => g4 j hj)), g3⟩
  · right
    obtain ⟨σ', μ', f1, f2, f3, f4, f5⟩ := h.bad (k := 3) (by omega) (by omega)
    have f1 : f_X6_wrong 3 σ = some (0, σ') := f1
    have f2 : f_X12_fails 3 μ = some (0, μ') := f2
    rw [a3, a4, if_pos (show (0 : Int32) < nI len from nI_lt (a := 0) a1 (by omega)), if_pos (nI_lt a5 (by omega)), cl_of _ f1, cl_of _ f2]
    exact ⟨σ', μ', rfl, rfl, f3.ct, f4.mt, f5⟩
