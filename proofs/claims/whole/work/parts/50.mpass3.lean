theorem imx_0 {x : Nat} (h : x ≤ 30) : imx 0 (nI x - 1) = nI (x - 1) := by
  have : ∀ x, x ≤ 30 → imx 0 (nI x - 1) = nI (x - 1) := by decide
  exact this x h
theorem imx_nI {x y : Nat} (hx : x ≤ 30) (hy : y ≤ 30) : imx (nI x) (nI y) = nI (max x y) := by
  have : ∀ x, x ≤ 30 → ∀ y, y ≤ 30 → imx (nI x) (nI y) = nI (max x y) := by decide +kernel
  exact this x hx y hy
theorem m_pass4 (σ : Mm) (kx : Mm → Option (Int32 × Mm)) :
    ∃ τ, lq2 (F_X12_passes_4 kx) 1000000 (0 : Int32) σ = kx τ ∧ Off [42] σ τ ∧ ∀ j, j < 8 → gI τ 42 j = 0 := by
  have q := lq2_inv (F := F_X12_passes_4 kx) (fun i => nI i) (fun i b => Off [42] σ b ∧ ∀ j, j < i → gI b 42 j = 0) 8 kx ?_ ?_ (n := 1000000) (b0 := σ) ?_ (by omega)
  · obtain ⟨b, hb, e⟩ := q
    exact ⟨b, e, hb.1, hb.2⟩
  · intro rec i b hi hb
    have c1 : nI i < 8 := nI_lt (a := i) (b := 8) hi (by omega)
    refine ⟨pI b 42 i 0, ⟨hb.1.tr (Off.pI (by simp)), fun j hj => ?_⟩, ?_⟩
    · by_cases z : j = i
      · subst z; rw [gI_pI_s]
      · rw [gI_pI_n (Or.inr z)]; exact hb.2 j (by omega)
    · simp only [F_X12_passes_4, if_pos c1, ck_t (inb_nI (show i < 8 by omega) (by omega)), bn_e, nI_tn (show i < 2147483648 by omega), nI_1]
  · intro rec b hb
    have c1 : ¬ nI 8 < 8 := by decide
    simp only [F_X12_passes_4, if_neg c1]
  · exact ⟨Off.rf, fun j hj => absurd hj (Nat.not_lt_zero j)⟩
/-- the reference's lanes -/
theorem m_pass134 {σ : Mm} {T : Tw} {N : Nt} (h : TM σ T) (hT : TwOk T) (hN : NtOk T N) (h0 : gI σ 36 0 = nT N) (h1 : ∀ k, k < 8 → gI σ 36 (3 + k) = nI (nL N k)) (h6 : ∀ j, j < 8 → gI σ 42 j = nI (ftN T N j)) (kx : Mm → Option (Int32 × Mm)) :
    ∃ τ, lq2 (F_X12_passes_134 kx) 1000000 (0 : Int32) σ = kx τ ∧ Off (36 :: lawM) σ τ ∧ (∀ k, k < 8 → gI τ 36 (3 + k) = nI (litN T N (gI σ 0 56) k)) ∧ ∀ j, (j < 3 ∨ 11 ≤ j) → gI τ 36 j = gI σ 36 j := by
  have hW := hT.2.2.1
  have hL := hT.2.1
  have n1 : (1 : Int32).toNatClampNeg = 1 := rfl
  have offM : ∀ {b : Mm}, Off (36 :: lawM) σ b → TM b T := fun o => h.off o (fun a ha => by simp only [lawM, List.mem_cons, List.not_mem_nil, or_false] at ha; omega)
  have q := lq2_inv (F := F_X12_passes_134 kx) (fun i => nI i) (fun i b => Off (36 :: lawM) σ b ∧ (∀ j, (j < 3 ∨ 11 ≤ j) → gI b 36 j = gI σ 36 j) ∧ ∀ k, k < 8 → gI b 36 (3 + k) = nI (if k < i then litN T N (gI σ 0 56) k else nL N k)) (tL T) kx ?_ ?_ (n := 1000000) (b0 := σ) ?_ (by omega)
  · obtain ⟨b, hb, e⟩ := q
    refine ⟨b, e, hb.1, fun k hk => ?_, hb.2.1⟩
    rw [hb.2.2 k hk]
    by_cases c : k < tL T
    · rw [if_pos c]
    · rw [if_neg c]; unfold litN; rw [if_neg c]
  · intro rec i b hi hb
    obtain ⟨o, b0, b1⟩ := hb
    have hTb := offM o
    have c1 : nI i < gI b 2 1 := by rw [hTb.2.1]; exact nI_lt hi (by omega)
    have hl : gI b 36 (3 + i) = nI (nL N i) := by have := b1 i (by omega); rw [if_neg (Nat.lt_irrefl i)] at this; exact this
    have l30 := hN.1 i
    obtain ⟨b', e'⟩ : ∃ z, z = pI b 36 (3 + i) (nI (nL N i - 1)) := ⟨_, rfl⟩
    have o' : Off (36 :: lawM) b b' := by rw [e']; exact Off.pI (by simp)
    have hTb' := offM (o.tr o')
    have f6 : gI b' 42 i = nI (ftN T N i) := by rw [o'.1 _ (by simp [lawM]), o.1 _ (by simp [lawM])]; exact h6 i (by omega)
    have f0 : gI b' 36 0 = nT N := by rw [e', gI_pI_n (Or.inr (by omega)), b0 0 (by omega)]; exact h0
    have f56 : gI b' 0 56 = gI σ 0 56 := by rw [o'.1 _ (by simp [lawM]), o.1 _ (by simp [lawM])]
    have fl := ftN_le T N i
    have hl' : gI b' 36 (3 + i) = nI (nL N i - 1) := by rw [e', gI_pI_s]
    by_cases cf : 0 < ftN T N i
    · obtain ⟨υ, u1, u2⟩ := hTb'.2.2.2.2.2.2.2 b' (fun _ _ _ => rfl) i hi (nI (nL N i - 1)) (nI (ftN T N i))
      have hE := hT.2.2.2.2.2.1 (tT T i + gI σ 0 56) (nI (nL N i - 1)) (nI (ftN T N i)) (nT N)
      rw [f56, f0, imx_nI (by omega) hE] at u1
      have lt : litN T N (gI σ 0 56) i = max (nL N i - 1) (tE T (tT T i + gI σ 0 56) (nI (nL N i - 1)) (nI (ftN T N i)) (nT N)) := by unfold litN; rw [if_pos hi, if_pos cf]
      rw [← lt] at u1
      have uu : ∀ j, gI υ 36 j = gI b' 36 j := fun j => u2.1 36 (by simp [lawM]) j
      refine ⟨pI υ 36 (3 + i) (nI (litN T N (gI σ 0 56) i)), ⟨(o.tr o').tr ((u2.mono (fun a ha => List.mem_cons_of_mem _ ha)).tr (Off.pI (by simp))), fun j hj => ?_, fun k hk => ?_⟩, ?_⟩
      · rw [gI_pI_n (Or.inr (by omega)), uu, e', gI_pI_n (Or.inr (by omega))]; exact b0 j hj
      · by_cases z : k = i
        · subst z; rw [gI_pI_s, if_pos (Nat.lt_succ_self k)]
        · rw [gI_pI_n (Or.inr (by omega)), uu, e', gI_pI_n (Or.inr (by omega)), b1 k hk]
          have e2 : k < i + 1 ↔ k < i := by omega
          simp only [e2]
      · simp only [F_X12_passes_134, ck_t (show inb 1 8 = true from rfl), n1, if_pos c1, a3, ck_t (inb_nI (show 3 + i < 41 by omega) (by omega)), nI_tn (show 3 + i < 2147483648 by omega), hl, imx_0 l30, bn_e, ck_t (inb_nI (show i < 8 by omega) (by omega)), nI_tn (show i < 2147483648 by omega), jn_e]
        rw [← e', f6, if_pos ((nI_gt0 (by omega)).mpr cf), hl', cl_of _ u1, nI_1]
    · refine ⟨b', ⟨o.tr o', fun j hj => ?_, fun k hk => ?_⟩, ?_⟩
      · rw [e', gI_pI_n (Or.inr (by omega))]; exact b0 j hj
      · by_cases z : k = i
        · subst z; rw [hl', if_pos (Nat.lt_succ_self k)]; unfold litN; rw [if_pos hi, if_neg cf]
        · rw [e', gI_pI_n (Or.inr (by omega)), b1 k hk]
          have e2 : k < i + 1 ↔ k < i := by omega
          simp only [e2]
      · simp only [F_X12_passes_134, ck_t (show inb 1 8 = true from rfl), n1, if_pos c1, a3, ck_t (inb_nI (show 3 + i < 41 by omega) (by omega)), nI_tn (show 3 + i < 2147483648 by omega), hl, imx_0 l30, bn_e, ck_t (inb_nI (show i < 8 by omega) (by omega)), nI_tn (show i < 2147483648 by omega), jn_e]
        rw [← e', f6, if_neg (fun z => cf ((nI_gt0 (by omega)).mp z)), nI_1]
  · intro rec b hb
    have hTb := offM hb.1
    have c1 : ¬ nI (tL T) < gI b 2 1 := by rw [hTb.2.1]; exact nI_nlt (Nat.le_refl _) (by omega)
    simp only [F_X12_passes_134, ck_t (show inb 1 8 = true from rfl), n1, if_neg c1]
  · exact ⟨Off.rf, fun _ _ => rfl, fun k hk => by rw [if_neg (Nat.not_lt_zero k)]; exact h1 k hk⟩
theorem J132_e (x : Int32) (σ : Mm) : J_X12_passes_132 x σ = lq2 (F_X12_passes_134 (fun σ_208 => ck (inb (0 : Int32) 41) (ck (inb (0 : Int32) 41) (bn (pI σ_208 36 (0 : Int32).toNatClampNeg ((gI σ_208 36 (0 : Int32).toNatClampNeg) + (1 : Int32))) (fun σ217 => ck (inb (2 : Int32) 41) (ck (inb (2 : Int32) 41) (bn (pI σ217 36 (2 : Int32).toNatClampNeg ((gI σ217 36 (2 : Int32).toNatClampNeg) + x)) (fun σ227 => some (x, σ227))))))))) 1000000 0 σ := by
  unfold J_X12_passes_132
  rw [jn_e']
theorem jn_e2 {α β : Type} (K : α) (B : α → β) : jn K B = B K := by
  have h : ∀ x, x = jn K B → x = B K := fun x hx => by rw [hx]; exact jn_e ..
  exact h _ (Eq.refl _)
theorem passes_e (σ : Mm) : f_X12_passes σ = lq2 (F_X12_passes_4 (fun σ_23 => lq3 (F_X12_passes_25 J_X12_passes_132) 1000000 (0 : Int32) (0 : Int32) σ_23)) 1000000 (0 : Int32) σ := by
  unfold f_X12_passes
  rw [jn_e2]
  simp only [jn_e2]
def passM : List Nat := 36 :: 42 :: 43 :: lawM
/-- A MINUTE, in the reference -/
theorem m_passes {σ : Mm} {T : Tw} {N : Nt} (h : TM σ T) (hT : TwOk T) (r : RM σ T N) (hN : NtOk T N) :
    ∃ τ, f_X12_passes σ = some (nI (cnt (dkN T N) (tW T)), τ) ∧ RM τ T (passN T N (gI σ 0 56)) ∧ Off passM σ τ ∧ (∀ j, j < 8 → gI τ 42 j = nI (ftN T N j)) ∧ ∀ w, w < tW T → gI τ 43 w = dk1 T N w := by
  have hW := hT.2.2.1
  have hL := hT.2.1
  rw [passes_e]
  obtain ⟨σ1, l1, o1, f1⟩ := m_pass4 σ (fun σ_23 => lq3 (F_X12_passes_25 J_X12_passes_132) 1000000 (0 : Int32) (0 : Int32) σ_23)
  have h1 := h.off o1 (fun a ha => by simp only [List.mem_cons, List.not_mem_nil, or_false] at ha; omega)
  have g1 : ∀ a, a ≠ 42 → ∀ j, gI σ1 a j = gI σ a j := fun a ha j => o1.1 a (by simpa using ha) j
  have R1 : RM σ1 T N := ⟨by rw [g1 36 (by decide)]; exact r.1, by rw [g1 36 (by decide)]; exact r.2.1, by rw [g1 36 (by decide)]; exact r.2.2.1, fun k hk => by rw [g1 36 (by decide)]; exact r.2.2.2.1 k hk, fun w hw => (r.2.2.2.2 w hw).congr (g1 _ (by decide) _) (g1 _ (by decide) _) (g1 _ (by decide) _) (g1 _ (by decide) _) (g1 _ (by decide) _) (g1 _ (by decide) _)⟩
  obtain ⟨σ2, l2, o2, x2, f2, d2, w2⟩ := m_pass25 (gI σ 0 56) h1 hT R1 hN f1 J_X12_passes_132
  have h2 := h1.off o2 (fun a ha => by simp only [List.mem_cons, List.not_mem_nil, or_false] at ha; omega)
  have e56 : gI σ2 0 56 = gI σ 0 56 := by rw [o2.1 0 (by simp), g1 0 (by decide)]
  rw [l1, l2, J132_e]
  obtain ⟨σ3, l3, o3, b3, x3⟩ := m_pass134 h2 hT hN (by rw [x2 0 (by decide)]; exact R1.1) (fun k hk => by rw [x2 _ (by omega)]; exact R1.2.2.2.1 k hk) f2 (fun σ_208 => ck (inb (0 : Int32) 41) (ck (inb (0 : Int32) 41) (bn (pI σ_208 36 (0 : Int32).toNatClampNeg ((gI σ_208 36 (0 : Int32).toNatClampNeg) + (1 : Int32))) (fun σ217 => ck (inb (2 : Int32) 41) (ck (inb (2 : Int32) 41) (bn (pI σ217 36 (2 : Int32).toNatClampNeg ((gI σ217 36 (2 : Int32).toNatClampNeg) + (nI (cnt (dkN T N) (tW T))))) (fun σ227 => some (nI (cnt (dkN T N) (tW T)), σ227))))))))
  rw [e56] at b3
  rw [l3]
  have n0 : (0 : Int32).toNatClampNeg = 0 := rfl
  have n2 : (2 : Int32).toNatClampNeg = 2 := rfl
  simp only [ck_t (show inb 0 41 = true from rfl), ck_t (show inb 2 41 = true from rfl), n0, n2, bn_e]
  have y : ∀ j, j ≠ 0 → j ≠ 2 → ∀ u v, gI (pI (pI σ3 36 0 u) 36 2 v) 36 j = gI σ3 36 j := fun j z1 z2 u v => by rw [gI_pI_n (Or.inr z2), gI_pI_n (Or.inr z1)]
  have yx : ∀ a, a ≠ 36 → ∀ j u v, gI (pI (pI σ3 36 0 u) 36 2 v) a j = gI σ3 a j := fun a z j u v => by rw [gI_pI_n (Or.inl z), gI_pI_n (Or.inl z)]
  refine ⟨_, rfl, ⟨?_, ?_, ?_, fun k hk => ?_, fun w hw => ?_⟩, ?_, fun j hj => ?_, fun w hw => ?_⟩
  · rw [gI_pI_n (Or.inr (by decide)), gI_pI_s, x3 0 (by omega), x2 0 (by omega), R1.1]; rfl
  · rw [y 1 (by decide) (by decide), x3 1 (by omega), x2 1 (by omega), R1.2.1]; rfl
  · rw [gI_pI_s, gI_pI_n (Or.inr (by decide)), x3 2 (by omega), x2 2 (by omega), R1.2.2.1]; rfl
  · rw [y _ (by omega) (by omega)]; exact b3 k hk
  · exact (w2 w hw).congr (by rw [yx 0 (by decide), o3.1 0 (by simp [lawM])]) (by rw [y _ (by omega) (by omega), x3 _ (by omega)]) (by rw [y _ (by omega) (by omega), x3 _ (by omega)]) (by rw [y _ (by omega) (by omega), x3 _ (by omega)]) (by rw [y _ (by omega) (by omega), x3 _ (by omega)]) (by rw [y _ (by omega) (by omega), x3 _ (by omega)])
  · exact (o1.mono (by simp [passM])).tr ((o2.mono (by simp [passM])).tr ((o3.mono (by simp [passM, lawM])).tr ((Off.pI (by simp [passM])).tr (Off.pI (by simp [passM])))))
  · rw [yx 42 (by decide), o3.1 42 (by simp [lawM])]; exact f2 j hj
  · rw [yx 43 (by decide), o3.1 43 (by simp [lawM])]; exact d2 w hw
