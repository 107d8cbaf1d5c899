/-! the law, read side by side -/
def LCf (t : Nat) (σ τ : Mm) : Prop := (∀ a, a ≠ 3 → a ≠ 4 → a ≠ t + 1 → a ≠ t + 2 → ∀ k, gI τ a k = gI σ a k) ∧ (∀ k, k ≠ 2 → gI τ (t + 1) k = gI σ (t + 1) k) ∧ (∀ a, a ≠ 4 → ∀ k, gL τ a k = gL σ a k) ∧ (∀ a k, gR τ a k = gR σ a k)
theorem LCf.rf {t : Nat} {σ : Mm} : LCf t σ σ := ⟨fun _ _ _ _ _ _ => rfl, fun _ _ => rfl, fun _ _ _ => rfl, fun _ _ => rfl⟩
theorem LCf.tr {t : Nat} {σ τ υ : Mm} (h : LCf t σ τ) (g : LCf t τ υ) : LCf t σ υ := ⟨fun b b1 b2 b3 b4 k => (g.1 b b1 b2 b3 b4 k).trans (h.1 b b1 b2 b3 b4 k), fun k hk => (g.2.1 k hk).trans (h.2.1 k hk), fun b b1 k => (g.2.2.1 b b1 k).trans (h.2.2.1 b b1 k), fun b k => (g.2.2.2 b k).trans (h.2.2.2 b k)⟩
theorem Cf.lc {t : Nat} {σ τ : Mm} (h : Cf σ τ) (ht : t = 207 ∨ t = 222) : LCf t σ τ := ⟨fun a h1 h2 _ _ k => h.1 a h1 h2 k, fun k _ => h.1 _ (by omega) (by omega) k, h.2.1, h.2.2⟩
def LMf (σ τ : Mm) : Prop := (∀ a, a ≠ 0 → a ≠ 14 → a ≠ 15 → a ≠ 16 → ∀ k, gI τ a k = gI σ a k) ∧ (∀ j, j ≠ 4 → j ≠ 5 → j ≠ 6 → j ≠ 8 → j ≠ 9 → j ≠ 23 → j ≠ 37 → j ≠ 39 → gI τ 0 j = gI σ 0 j) ∧ (∀ a k, ¬ (a = 0 ∧ (k = 7 ∨ k = 38)) → gL τ a k = gL σ a k) ∧ (∀ a k, gR τ a k = gR σ a k)
theorem LMf.rf {σ : Mm} : LMf σ σ := ⟨fun _ _ _ _ _ _ => rfl, fun _ _ _ _ _ _ _ _ _ => rfl, fun _ _ _ => rfl, fun _ _ => rfl⟩
theorem LMf.tr {σ τ υ : Mm} (h : LMf σ τ) (g : LMf τ υ) : LMf σ υ := ⟨fun b b1 b2 b3 b4 k => (g.1 b b1 b2 b3 b4 k).trans (h.1 b b1 b2 b3 b4 k), fun j a b c d e f i m => (g.2.1 j a b c d e f i m).trans (h.2.1 j a b c d e f i m), fun a k z => (g.2.2.1 a k z).trans (h.2.2.1 a k z), fun b k => (g.2.2.2 b k).trans (h.2.2.2 b k)⟩
theorem Mf.lm {σ τ : Mm} (h : Mf σ τ) : LMf σ τ := ⟨fun a h1 _ _ _ k => h.1 a h1 k, fun j a b c d e _ f i => h.2.1 j a b c d e f i, h.2.2.1, h.2.2.2⟩
theorem LMf.p0 {σ : Mm} {v : Int32} : LMf σ (pI σ 0 23 v) := ⟨fun b h _ _ _ j => gI_pI_n (Or.inl h), fun j _ _ _ _ _ h _ _ => gI_pI_n (Or.inr h), fun _ _ _ => rfl, fun _ _ => rfl⟩
theorem LMf.pA {σ : Mm} {a k : Nat} {v : Int32} (h : a = 14 ∨ a = 15 ∨ a = 16) : LMf σ (pI σ a k v) := ⟨fun b _ h1 h2 h3 j => gI_pI_n (Or.inl (by omega)), fun j _ _ _ _ _ _ _ _ => gI_pI_n (Or.inl (by omega)), fun _ _ _ => rfl, fun _ _ => rfl⟩
/-- how it stands while a law is read -/
def LSt (σ μ : Mm) (t : Nat) (s : Nat → Nat) (n p len c : Nat) : Prop := Rd σ μ s n p ∧ gI σ 3 1 = 0 ∧ gI σ (t + 1) 2 = nI len ∧ len ≤ p ∧ gI μ 0 23 = nI c ∧ 1000 ≤ c ∧ c ≤ 1000 + p
def OpOk (μ : Mm) (o : Nat → Bool) (d : Nat) : Prop := ∀ j, 0 < j → j ≤ d → gI μ 15 j = if o j then 1 else 2
def StpL (k d w : Nat) (μ : Mm) (d' w' : Nat) (μ' : Mm) : Prop := ∀ m, lq3 F_X12_reads_11 (m + k) (nI d) (nI w) μ = lq3 F_X12_reads_11 m (nI d') (nI w') μ'
/-- a stretch of the law is read -/
def Sg (t B : Nat) (σ μ : Mm) (p len c d w : Nat) (σ' μ' : Mm) (q len' c' d' w' : Nat) : Prop := p ≤ q ∧ len ≤ len' ∧ len' + p ≤ len + q ∧ c ≤ c' ∧ c' + p ≤ c + q ∧ LCf t σ σ' ∧ LMf μ μ' ∧ (∀ j, j < len → gI σ' (t + 2) j = gI σ (t + 2) j) ∧ (∀ j, j < c → gI μ' 14 j = gI μ 14 j) ∧ (∀ j, j ≤ B → gI μ' 15 j = gI μ 15 j) ∧ (∀ j, j < B → gI μ' 16 j = gI μ 16 j) ∧ ∃ k, k + p ≤ q ∧ StpL k d w μ d' w' μ'
theorem Sg.tr {t B : Nat} {σ μ σ' μ' σ2 μ2 : Mm} {p len c d w q len' c' d' w' r len2 c2 d2 w2 : Nat} (h : Sg t B σ μ p len c d w σ' μ' q len' c' d' w') (g : Sg t B σ' μ' q len' c' d' w' σ2 μ2 r len2 c2 d2 w2) : Sg t B σ μ p len c d w σ2 μ2 r len2 c2 d2 w2 := by
  obtain ⟨a1, a2, a3, a4, a5, a6, a7, a8, a9, a10, a11, k, a12, a13⟩ := h
  obtain ⟨b1, b2, b3, b4, b5, b6, b7, b8, b9, b10, b11, l, b12, b13⟩ := g
  refine ⟨by omega, by omega, by omega, by omega, by omega, a6.tr b6, a7.tr b7, fun j hj => (b8 j (by omega)).trans (a8 j hj), fun j hj => (b9 j (by omega)).trans (a9 j hj), fun j hj => (b10 j hj).trans (a10 j hj), fun j hj => (b11 j hj).trans (a11 j hj), l + k, by omega, fun m => ?_⟩
  rw [← Nat.add_assoc, a13, b13]
theorem Sg.low {t B B' : Nat} {σ μ σ' μ' : Mm} {p len c d w q len' c' d' w' : Nat} (h : Sg t B σ μ p len c d w σ' μ' q len' c' d' w') (hB : B' ≤ B) : Sg t B' σ μ p len c d w σ' μ' q len' c' d' w' := by
  obtain ⟨a1, a2, a3, a4, a5, a6, a7, a8, a9, a10, a11, a12⟩ := h
  exact ⟨a1, a2, a3, a4, a5, a6, a7, a8, a9, fun j hj => a10 j (by omega), fun j hj => a11 j (by omega), a12⟩
/-- the same fault stops both -/
def Sf (t n : Nat) (σ μ : Mm) (p c d w : Nat) (σ' μ' : Mm) : Prop := LCf t σ σ' ∧ LMf μ μ' ∧ Bad σ' μ' ∧ (∀ j, j < c → gI μ' 14 j = gI μ 14 j) ∧ ∃ k, k ≤ n - p + 1 ∧ ∀ m, lq3 F_X12_reads_11 (m + k) (nI d) (nI w) μ = some (0, μ')
theorem Sg.sf {t B n : Nat} {σ μ σ' μ' σ2 μ2 : Mm} {p len c d w q len' c' d' w' : Nat} (h : Sg t B σ μ p len c d w σ' μ' q len' c' d' w') (hq : q ≤ n) (g : Sf t n σ' μ' q c' d' w' σ2 μ2) : Sf t n σ μ p c d w σ2 μ2 := by
  obtain ⟨a1, a2, a3, a4, a5, a6, a7, a8, a9, a10, a11, k, a12, a13⟩ := h
  obtain ⟨b1, b2, b3, b4, l, b5, b6⟩ := g
  refine ⟨a6.tr b1, a7.tr b2, b3, fun j hj => (b4 j (by omega)).trans (a9 j hj), l + k, by omega, fun m => ?_⟩
  rw [← Nat.add_assoc, a13, b6]
/-- a code is put, a step is added -/
theorem m_puts {μ : Mm} {c : Nat} (h : gI μ 0 23 = nI c) (hc : c < 2000) (v : Int32) : f_X12_puts v μ = some (0, pI (pI μ 14 c v) 0 23 (nI (c + 1))) := by
  unfold f_X12_puts
  rw [h, ck_t (inb_nI hc (by omega)), nI_tn (by omega), bn_e, bn_e, gI_pI_n (Or.inl (by decide)), h, nI_1]
theorem short_n {k : Nat} (h : k < 32768) : vp_nar .short (nI k).toInt16.toInt32 = nI k := by
  have e : (nI k).toInt16.toInt32 = nI k := by
    apply Int32.toInt_inj.mp
    rw [Int16.toInt_toInt32, Int32.toInt_toInt16, nI_toInt (by omega)]
    rw [Int.bmod_eq_of_le (by omega) (by omega)]
  unfold vp_nar
  rw [pk_ns, e]
theorem s_add1 {σ : Mm} {a len k : Nat} (ha : isLaw a = true) (h : gI σ a 2 = nI len) (hl : len < 1000) (hk : k < 32768) : f_X1_add a (nI k) σ = some (0, pI (pI σ (a + 1) len (nI k)) a 2 (nI (len + 1))) := by
  unfold f_X1_add
  rw [ck_t ha, h, if_pos (show nI len < 1000 from nI_lt (a := len) (b := 1000) hl (by omega)), ck_t (inb_nI hl (by omega)), nI_tn (by omega), bn_e, bn_e, gI_pI_n (Or.inl (by omega)), h, nI_1, short_n hk]
theorem law_a {t : Nat} (h : isTown t = true) : isLaw (t + 1) = true := by
  rcases town_a h with rfl | rfl <;> decide
/-- a step is added to the law -/
theorem l_add {σ μ : Mm} {t n p len c k : Nat} {s : Nat → Nat} (ht : isTown t = true) (h : LSt σ μ t s n p len c) (hl : len < p) (hk : k < 32768) : ∃ σ', f_X1_add (t + 1) (nI k) σ = some (0, σ') ∧ LSt σ' μ t s n p (len + 1) c ∧ LCf t σ σ' ∧ (∀ j, j < len → gI σ' (t + 2) j = gI σ (t + 2) j) ∧ gI σ' (t + 2) len = nI k := by
  have ta := town_a ht
  obtain ⟨h1, h2, h3, h4, h5, h6, h7⟩ := h
  have pn := h1.2.2.2.1
  have n1 := h1.1.1
  refine ⟨_, s_add1 (law_a ht) h3 (by omega) hk, ⟨?_, ?_, ?_, by omega, h5, h6, h7⟩, ⟨fun a a1 a2 a3 a4 j => ?_, fun j hj => ?_, fun _ _ _ => rfl, fun _ _ => rfl⟩, fun j hj => ?_, ?_⟩
  · exact h1.cg (fun a ha j => by rw [gI_pI_n (Or.inl (by omega)), gI_pI_n (Or.inl (by omega))]) (fun _ _ _ => rfl) (fun _ => rfl) (fun _ _ => rfl) rfl
  · rw [gI_pI_n (Or.inl (by omega)), gI_pI_n (Or.inl (by omega))]; exact h2
  · rw [gI_pI_s]
  · rw [gI_pI_n (Or.inl a3), gI_pI_n (Or.inl a4)]
  · rw [gI_pI_n (Or.inr hj), gI_pI_n (Or.inl (by omega))]
  · rw [gI_pI_n (Or.inl (by omega)), gI_pI_n (Or.inr (by omega))]
  · rw [gI_pI_n (Or.inl (by omega)), gI_pI_s]
/-! signs and words shut one another out -/
theorem sg_ex {s : Nat → Nat} {n p a b : Nat} (h : sgT s n p a = true) (hab : a ≠ b) : sgT s n p b = false := by
  have h := of_decide_eq_true h
  unfold sgT
  apply decide_eq_false
  intro z
  exact hab (h.2.symm.trans z.2)
theorem sg_wd {s : Nat → Nat} {n p a i : Nat} (h : sgT s n p a = true) : wdT s n p i = false := by
  have h := of_decide_eq_true h
  unfold wdT
  apply decide_eq_false
  intro z
  have := h.1
  omega
theorem wd_sg {s : Nat → Nat} {n p a i : Nat} (h : wdT s n p i = true) : sgT s n p a = false := by
  have h := of_decide_eq_true h
  unfold sgT
  apply decide_eq_false
  intro z
  have := h.1
  omega
theorem wd_ex {s : Nat → Nat} {n p i j : Nat} (h : wdT s n p i = true) (hi : i < 23) (hj : j < 23) (hij : i ≠ j) : wdT s n p j = false := by
  have h := of_decide_eq_true h
  unfold wdT
  apply decide_eq_false
  intro z
  exact hij (kw_inj i hi j hj (h.2.symm.trans z.2))
/-- the operation of a level that stands here: the class's number, the reference's -/
def opT (s : Nat → Nat) (n p k : Nat) : Option (Nat × Nat) :=
  if k = 0 then (if wdT s n p 17 then some (1, 26) else if wdT s n p 18 then some (2, 27) else none)
  else if k = 1 then (if sgT s n p 60 then some (3, 24) else if sgT s n p 61 then some (4, 25) else none)
  else if k = 2 then (if sgT s n p 43 then some (5, 20) else if sgT s n p 45 then some (6, 21) else none)
  else (if sgT s n p 42 then some (7, 22) else none)
theorem opC {σ μ : Mm} {s : Nat → Nat} {n p k : Nat} (h : Rd σ μ s n p) (hk : k < 4) : f_X6_operationHere (nI k) σ = some (oI ((opT s n p k).map Prod.fst), σ) := by
  have w17 := (h.word (i := 17) (by omega)).1
  have w18 := (h.word (i := 18) (by omega)).1
  have g60 := (h.sign (c := 60) (by omega)).1
  have g61 := (h.sign (c := 61) (by omega)).1
  have g43 := (h.sign (c := 43) (by omega)).1
  have g45 := (h.sign (c := 45) (by omega)).1
  have g42 := (h.sign (c := 42) (by omega)).1
  unfold f_X6_operationHere opT
  have : k = 0 ∨ k = 1 ∨ k = 2 ∨ k = 3 := by omega
  rcases this with rfl | rfl | rfl | rfl
  · have w17 : f_X8_isWord 17 σ = _ := w17
    have w18 : f_X8_isWord 18 σ = _ := w18
    rw [if_pos (show nI 0 = 0 from rfl), cl_of _ w17, cl_of _ w18, if_pos (show (0 : Nat) = 0 from rfl)]
    cases wdT s n p 17
    · cases wdT s n p 18 <;> rfl
    · rfl
  · have g60 : f_X8_isSign 60 σ = _ := g60
    have g61 : f_X8_isSign 61 σ = _ := g61
    rw [if_neg (show ¬ nI 1 = 0 by decide), if_pos (show nI 1 = 1 from rfl), cl_of _ g60, cl_of _ g61, if_neg (show ¬ (1 : Nat) = 0 by decide), if_pos (show (1 : Nat) = 1 from rfl)]
    cases sgT s n p 60
    · cases sgT s n p 61 <;> rfl
    · rfl
  · have g43 : f_X8_isSign 43 σ = _ := g43
    have g45 : f_X8_isSign 45 σ = _ := g45
    rw [if_neg (show ¬ nI 2 = 0 by decide), if_neg (show ¬ nI 2 = 1 by decide), if_pos (show nI 2 = 2 from rfl), cl_of _ g43, cl_of _ g45, if_neg (show ¬ (2 : Nat) = 0 by decide), if_neg (show ¬ (2 : Nat) = 1 by decide), if_pos (show (2 : Nat) = 2 from rfl)]
    cases sgT s n p 43
    · cases sgT s n p 45 <;> rfl
    · rfl
  · have g42 : f_X8_isSign 42 σ = _ := g42
    rw [if_neg (show ¬ nI 3 = 0 by decide), if_neg (show ¬ nI 3 = 1 by decide), if_neg (show ¬ nI 3 = 2 by decide), cl_of _ g42, if_neg (show ¬ (3 : Nat) = 0 by decide), if_neg (show ¬ (3 : Nat) = 1 by decide), if_neg (show ¬ (3 : Nat) = 2 by decide)]
    cases sgT s n p 42 <;> rfl
theorem op_adv {s : Nat → Nat} {n p k : Nat} {o : Nat × Nat} (hp : p ≤ n) (h : opT s n p k = some o) : p < tkE s n p := by
  unfold opT at h
  have sg : ∀ c, sgT s n p c = true → p < tkE s n p := fun c hc => sg_lt hp hc
  have wd : ∀ i, wdT s n p i = true → p < tkE s n p := fun i hi => kw_adv hp (Or.inl (of_decide_eq_true hi).1)
  split at h
  · split at h
    · rename_i z; exact wd _ z
    · split at h
      · rename_i z; exact wd _ z
      · cases h
  · split at h
    · split at h
      · rename_i z; exact sg _ z
      · split at h
        · rename_i z; exact sg _ z
        · cases h
    · split at h
      · split at h
        · rename_i z; exact sg _ z
        · split at h
          · rename_i z; exact sg _ z
          · cases h
      · split at h
        · rename_i z; exact sg _ z
        · cases h
/-- the reference goes on behind an operation -/
def cmpV (k : Nat) (v : Int32) : Int32 := if k = 0 then 0 else if k = 1 then 1 else v
theorem m_op {σ μ : Mm} {s : Nat → Nat} {n p k c d : Nat} {o : Nat × Nat} (h : Rd σ μ s n p) (hk : k < 4) (hd : d ≤ 5) (hc : gI μ 0 23 = nI c) (hc2 : c < 2000) (ho : opT s n p k = some o) (h16 : k = 1 → gI μ 16 d = 0) : ∃ μ', (∀ μ2, f_X12_nextToken μ' = some (0, μ2) → StpL 1 d 0 μ d 1 μ2) ∧ gI μ' 0 23 = nI (c + 1) ∧ (∀ j, gI μ' 14 j = if j = c then nI o.2 else gI μ 14 j) ∧ (∀ j, gI μ' 15 j = gI μ 15 j) ∧ (∀ j, gI μ' 16 j = if j = d then cmpV k (gI μ 16 d) else gI μ 16 j) ∧ LMf μ μ' ∧ Rd σ μ' s n p := by
  have w17 : f_X12_isWord 1111 μ = _ := (h.word (i := 17) (by omega)).2
  have w18 : f_X12_isWord 423 μ = _ := (h.word (i := 18) (by omega)).2
  have g60 : f_X12_isSign 60 μ = _ := (h.sign (c := 60) (by omega)).2
  have g61 : f_X12_isSign 61 μ = _ := (h.sign (c := 61) (by omega)).2
  have g43 : f_X12_isSign 43 μ = _ := (h.sign (c := 43) (by omega)).2
  have g45 : f_X12_isSign 45 μ = _ := (h.sign (c := 45) (by omega)).2
  have g42 : f_X12_isSign 42 μ = _ := (h.sign (c := 42) (by omega)).2
  have nz : vp_nar .boolean (0 : Int32) = 0 := by decide
  have no : vp_nar .boolean (1 : Int32) = 1 := by decide
  have pt := fun v => m_puts hc hc2 v
  -- the memory behind a code, and behind what is noted of comparing
  have mk : ∀ (v : Nat) (u : Int32), (∀ j, gI (pI (pI (pI μ 14 c (nI v)) 0 23 (nI (c + 1))) 16 d u) 16 j = if j = d then u else gI μ 16 j) ∧ gI (pI (pI (pI μ 14 c (nI v)) 0 23 (nI (c + 1))) 16 d u) 0 23 = nI (c + 1) ∧ (∀ j, gI (pI (pI (pI μ 14 c (nI v)) 0 23 (nI (c + 1))) 16 d u) 14 j = if j = c then nI v else gI μ 14 j) ∧ (∀ j, gI (pI (pI (pI μ 14 c (nI v)) 0 23 (nI (c + 1))) 16 d u) 15 j = gI μ 15 j) ∧ LMf μ (pI (pI (pI μ 14 c (nI v)) 0 23 (nI (c + 1))) 16 d u) ∧ Rd σ (pI (pI (pI μ 14 c (nI v)) 0 23 (nI (c + 1))) 16 d u) s n p := by
    intro v u
    refine ⟨fun j => ?_, ?_, fun j => ?_, fun j => ?_, (LMf.pA (by omega)).tr (LMf.p0.tr (LMf.pA (by omega))), ?_⟩
    · rw [gI_pI]
      by_cases z : j = d
      · rw [if_pos ⟨rfl, z⟩, if_pos z]
      · rw [if_neg (fun y => z y.2), if_neg z, gI_pI_n (Or.inl (by decide)), gI_pI_n (Or.inl (by decide))]
    · rw [gI_pI_n (Or.inl (by decide)), gI_pI_s]
    · rw [gI_pI_n (Or.inl (by decide)), gI_pI_n (Or.inl (by decide)), gI_pI]
      by_cases z : j = c
      · rw [if_pos ⟨rfl, z⟩, if_pos z]
      · rw [if_neg (fun y => z y.2), if_neg z]
    · rw [gI_pI_n (Or.inl (by decide)), gI_pI_n (Or.inl (by decide)), gI_pI_n (Or.inl (by decide))]
    · exact h.cm (fun j => by rw [gI_pI_n (Or.inl (by decide)), gI_pI_n (Or.inl (by decide)), gI_pI_n (Or.inl (by decide))]) (fun j hj => by rw [gI_pI_n (Or.inl (by decide)), gI_pI_n (Or.inr (by omega)), gI_pI_n (Or.inl (by decide))]) rfl
  have mj : ∀ (v : Nat), (∀ j, gI (pI (pI μ 14 c (nI v)) 0 23 (nI (c + 1))) 16 j = gI μ 16 j) ∧ gI (pI (pI μ 14 c (nI v)) 0 23 (nI (c + 1))) 0 23 = nI (c + 1) ∧ (∀ j, gI (pI (pI μ 14 c (nI v)) 0 23 (nI (c + 1))) 14 j = if j = c then nI v else gI μ 14 j) ∧ (∀ j, gI (pI (pI μ 14 c (nI v)) 0 23 (nI (c + 1))) 15 j = gI μ 15 j) ∧ LMf μ (pI (pI μ 14 c (nI v)) 0 23 (nI (c + 1))) ∧ Rd σ (pI (pI μ 14 c (nI v)) 0 23 (nI (c + 1))) s n p := by
    intro v
    refine ⟨fun j => ?_, ?_, fun j => ?_, fun j => ?_, (LMf.pA (by omega)).tr LMf.p0, ?_⟩
    · rw [gI_pI_n (Or.inl (by decide)), gI_pI_n (Or.inl (by decide))]
    · rw [gI_pI_s]
    · rw [gI_pI_n (Or.inl (by decide)), gI_pI]
      by_cases z : j = c
      · rw [if_pos ⟨rfl, z⟩, if_pos z]
      · rw [if_neg (fun y => z y.2), if_neg z]
    · rw [gI_pI_n (Or.inl (by decide)), gI_pI_n (Or.inl (by decide))]
    · exact h.cm (fun j => by rw [gI_pI_n (Or.inl (by decide)), gI_pI_n (Or.inl (by decide))]) (fun j hj => by rw [gI_pI_n (Or.inr (by omega)), gI_pI_n (Or.inl (by decide))]) rfl
  have id7 : inb (nI d) 7 = true := inb_nI (show d < 7 by omega) (by omega)
  have td : (nI d).toNatClampNeg = d := nI_tn (by omega)
  have z16 : ∀ v, (∀ j, gI (pI (pI μ 14 c (nI v)) 0 23 (nI (c + 1))) 16 j = gI μ 16 j) := fun v => (mj v).1
  unfold opT at ho
  have : k = 0 ∨ k = 1 ∨ k = 2 ∨ k = 3 := by omega
  rcases this with rfl | rfl | rfl | rfl
  · rw [if_pos rfl] at ho
    cases e17 : wdT s n p 17
    · rw [e17, if_neg (by decide)] at ho
      cases e18 : wdT s n p 18
      · rw [e18, if_neg (by decide)] at ho; cases ho
      · rw [e18, if_pos rfl] at ho
        cases ho
        obtain ⟨m1, m2, m3, m4, m5, m6⟩ := mk 27 0
        refine ⟨_, fun μ2 h2 m => ?_, m2, m3, m4, m1, m5, m6⟩
        rw [e17] at w17; rw [e18] at w18
        rw [wd_sg e18] at g60 g61 g43 g45 g42
        have pv : f_X12_puts 27 μ = _ := pt (nI 27)
        show F_X12_reads_11 _ (nI d) (nI 0) μ = _
        unfold F_X12_reads_11 J_X12_reads_304 J_X12_reads_263
        simp only [show nI 0 = 0 from rfl, if_true, cl_of _ g43, cl_of _ g45, cl_of _ g42, cl_of _ g60, cl_of _ g61, cl_of _ w17, cl_of _ w18, if_pos b1F0, if_neg b1T0, jn_e2, cl_of _ pv, ck_t id7, td, bn_e, nz, cl_of _ h2]
        rfl
    · rw [e17, if_pos rfl] at ho
      cases ho
      obtain ⟨m1, m2, m3, m4, m5, m6⟩ := mk 26 0
      refine ⟨_, fun μ2 h2 m => ?_, m2, m3, m4, m1, m5, m6⟩
      rw [e17] at w17
      rw [wd_sg e17] at g60 g61 g43 g45 g42
      have pv : f_X12_puts 26 μ = _ := pt (nI 26)
      show F_X12_reads_11 _ (nI d) (nI 0) μ = _
      unfold F_X12_reads_11 J_X12_reads_304 J_X12_reads_263
      simp only [show nI 0 = 0 from rfl, if_true, cl_of _ g43, cl_of _ g45, cl_of _ g42, cl_of _ g60, cl_of _ g61, cl_of _ w17, if_pos b1F0, if_neg b1T0, jn_e2, cl_of _ pv, ck_t id7, td, bn_e, nz, cl_of _ h2]
      rfl
  · rw [if_neg (by decide), if_pos rfl] at ho
    have h16 := h16 rfl
    cases e60 : sgT s n p 60
    · rw [e60, if_neg (by decide)] at ho
      cases e61 : sgT s n p 61
      · rw [e61, if_neg (by decide)] at ho; cases ho
      · rw [e61, if_pos rfl] at ho
        cases ho
        obtain ⟨m1, m2, m3, m4, m5, m6⟩ := mk 25 1
        refine ⟨_, fun μ2 h2 m => ?_, m2, m3, m4, m1, m5, m6⟩
        rw [e60] at g60; rw [e61] at g61
        rw [sg_ex e61 (by decide)] at g43 g45 g42
        have pv : f_X12_puts 25 μ = _ := pt (nI 25)
        show F_X12_reads_11 _ (nI d) (nI 0) μ = _
        unfold F_X12_reads_11 J_X12_reads_263
        simp only [show nI 0 = 0 from rfl, if_true, cl_of _ g43, cl_of _ g45, cl_of _ g42, cl_of _ g60, cl_of _ g61, if_pos b1F0, if_neg b1T0, jn_e2, cl_of _ pv, ck_t id7, td, bn_e, no, h16, cl_of _ h2]
        rfl
    · rw [e60, if_pos rfl] at ho
      cases ho
      obtain ⟨m1, m2, m3, m4, m5, m6⟩ := mk 24 1
      refine ⟨_, fun μ2 h2 m => ?_, m2, m3, m4, m1, m5, m6⟩
      rw [e60] at g60
      rw [sg_ex e60 (by decide)] at g43 g45 g42
      have pv : f_X12_puts 24 μ = _ := pt (nI 24)
      show F_X12_reads_11 _ (nI d) (nI 0) μ = _
      unfold F_X12_reads_11 J_X12_reads_263
      simp only [show nI 0 = 0 from rfl, if_true, cl_of _ g43, cl_of _ g45, cl_of _ g42, cl_of _ g60, if_pos b1F0, if_neg b1T0, jn_e2, cl_of _ pv, ck_t id7, td, bn_e, no, h16, cl_of _ h2]
      rfl
  · rw [if_neg (by decide), if_neg (by decide), if_pos rfl] at ho
    have cv : ∀ v, (∀ j, gI (pI (pI μ 14 c (nI v)) 0 23 (nI (c + 1))) 16 j = if j = d then cmpV 2 (gI μ 16 d) else gI μ 16 j) := fun v j => by
      rw [z16 v j]
      by_cases z : j = d
      · rw [if_pos z, z]; rfl
      · rw [if_neg z]
    cases e43 : sgT s n p 43
    · rw [e43, if_neg (by decide)] at ho
      cases e45 : sgT s n p 45
      · rw [e45, if_neg (by decide)] at ho; cases ho
      · rw [e45, if_pos rfl] at ho
        cases ho
        obtain ⟨m1, m2, m3, m4, m5, m6⟩ := mj 21
        refine ⟨_, fun μ2 h2 m => ?_, m2, m3, m4, cv 21, m5, m6⟩
        rw [e43] at g43; rw [e45] at g45
        have pv : f_X12_puts 21 μ = _ := pt (nI 21)
        show F_X12_reads_11 _ (nI d) (nI 0) μ = _
        unfold F_X12_reads_11
        simp only [show nI 0 = 0 from rfl, if_true, cl_of _ g43, cl_of _ g45, if_pos b1F0, if_neg b1T0, jn_e2, cl_of _ pv, cl_of _ h2]
        rfl
    · rw [e43, if_pos rfl] at ho
      cases ho
      obtain ⟨m1, m2, m3, m4, m5, m6⟩ := mj 20
      refine ⟨_, fun μ2 h2 m => ?_, m2, m3, m4, cv 20, m5, m6⟩
      rw [e43] at g43
      have pv : f_X12_puts 20 μ = _ := pt (nI 20)
      show F_X12_reads_11 _ (nI d) (nI 0) μ = _
      unfold F_X12_reads_11
      simp only [show nI 0 = 0 from rfl, if_true, cl_of _ g43, if_neg b1T0, jn_e2, cl_of _ pv, cl_of _ h2]
      rfl
  · rw [if_neg (by decide), if_neg (by decide), if_neg (by decide)] at ho
    cases e42 : sgT s n p 42
    · rw [e42, if_neg (by decide)] at ho; cases ho
    · rw [e42, if_pos rfl] at ho
      cases ho
      obtain ⟨m1, m2, m3, m4, m5, m6⟩ := mj 22
      refine ⟨_, fun μ2 h2 m => ?_, m2, m3, m4, fun j => ?_, m5, m6⟩
      · rw [e42] at g42
        rw [sg_ex e42 (by decide)] at g43 g45
        have pv : f_X12_puts 22 μ = _ := pt (nI 22)
        show F_X12_reads_11 _ (nI d) (nI 0) μ = _
        unfold F_X12_reads_11
        simp only [show nI 0 = 0 from rfl, if_true, cl_of _ g43, cl_of _ g45, cl_of _ g42, if_pos b1F0, if_neg b1T0, jn_e2, cl_of _ pv, cl_of _ h2]
        rfl
      · rw [m1 j]
        by_cases z : j = d
        · rw [if_pos z, z]; rfl
        · rw [if_neg z]
