/-! the reference works a law -/
def RwR (τ : Mm) (f : Nat → Nat → Int32) : Prop := ∀ a j, 17 ≤ a → a ≤ 25 → gI τ a j = f a j
theorem RwR.pI {τ : Mm} {f : Nat → Nat → Int32} (h : RwR τ f) (a d : Nat) (v : Int32) : RwR (pI τ a d v) (upE f a d v) := fun b j h1 h2 => by
  rw [gI_pI]
  unfold upE
  by_cases z : b = a ∧ j = d
  · rw [if_pos z, if_pos z]
  · rw [if_neg z, if_neg z]; exact h b j h1 h2
def OffW (σ τ : Mm) : Prop := (∀ a, (a < 17 ∨ 25 < a) → ∀ k, gI τ a k = gI σ a k) ∧ (∀ a k, gL τ a k = gL σ a k) ∧ (∀ a k, gR τ a k = gR σ a k)
theorem OffW.rf {σ : Mm} : OffW σ σ := ⟨fun _ _ _ => rfl, fun _ _ => rfl, fun _ _ => rfl⟩
theorem OffW.tr {σ τ υ : Mm} (h : OffW σ τ) (g : OffW τ υ) : OffW σ υ := ⟨fun a ha k => (g.1 a ha k).trans (h.1 a ha k), fun a k => (g.2.1 a k).trans (h.2.1 a k), fun a k => (g.2.2 a k).trans (h.2.2 a k)⟩
theorem OffW.pI {σ : Mm} {a k : Nat} {v : Int32} (h : 17 ≤ a) (h2 : a ≤ 25) : OffW σ (pI σ a k v) := ⟨fun b hb j => gI_pI_n (Or.inl (by omega)), fun _ _ => rfl, fun _ _ => rfl⟩
theorem w_opens {τ : Mm} {f : Nat → Nat → Int32} {d : Nat} (h : RwR τ f) (hd : d < 7) : ∃ τ', f_X12_opens (nI d) τ = some (0, τ') ∧ RwR τ' (opensE f d) ∧ OffW τ τ' := by
  have i7 : inb (nI d) 7 = true := inb_nI hd (by omega)
  have td : (nI d).toNatClampNeg = d := nI_tn (by omega)
  refine ⟨_, ?_, ((((h.pI 18 d 0).pI 20 d 0).pI 21 d 0).pI 22 d 20).pI 24 d 0, ((((OffW.pI (by omega) (by omega)).tr (OffW.pI (by omega) (by omega))).tr (OffW.pI (by omega) (by omega))).tr (OffW.pI (by omega) (by omega))).tr (OffW.pI (by omega) (by omega))⟩
  unfold f_X12_opens
  simp only [ck_t i7, td, bn_e]
theorem w_sums {τ : Mm} {f : Nat → Nat → Int32} {d : Nat} (h : RwR τ f) (hd : d < 7) : ∃ τ', f_X12_sums (nI d) τ = some (0, τ') ∧ RwR τ' (sumsE f d) ∧ OffW τ τ' := by
  have i7 : inb (nI d) 7 = true := inb_nI hd (by omega)
  have td : (nI d).toNatClampNeg = d := nI_tn (by omega)
  have g : ∀ a, 17 ≤ a → a ≤ 25 → gI τ a d = f a d := fun a h1 h2 => h a d h1 h2
  refine ⟨_, ?_, (h.pI 21 d (sumV f d)).pI 24 d 0, (OffW.pI (by omega) (by omega)).tr (OffW.pI (by omega) (by omega))⟩
  unfold f_X12_sums sumV
  simp only [ck_t i7, td, bn_e, jn_e2, g 21 (by omega) (by omega), g 22 (by omega) (by omega), g 23 (by omega) (by omega)]
  by_cases z : f 22 d = 21
  · rw [if_pos z, if_pos z]
  · rw [if_neg z, if_neg z]
theorem w_tests {τ : Mm} {f : Nat → Nat → Int32} {d : Nat} (h : RwR τ f) (hd : d < 7) : ∃ τ', f_X12_tests (nI d) τ = some (0, τ') ∧ RwR τ' (testsE f d) ∧ OffW τ τ' := by
  have i7 : inb (nI d) 7 = true := inb_nI hd (by omega)
  have td : (nI d).toNatClampNeg = d := nI_tn (by omega)
  obtain ⟨τ1, a1, a2, a3⟩ := w_sums h hd
  have s : ∀ a, a ≠ 21 → a ≠ 24 → sumsE f d a d = f a d := fun a h1 h2 => by unfold sumsE; rw [upE_n (Or.inl h2), upE_n (Or.inl h1)]
  have g17 : gI τ1 17 d = f 17 d := (a2 17 d (by omega) (by omega)).trans (s 17 (by decide) (by decide))
  have g18 : gI τ1 18 d = f 18 d := (a2 18 d (by omega) (by omega)).trans (s 18 (by decide) (by decide))
  have g19 : gI τ1 19 d = f 19 d := (a2 19 d (by omega) (by omega)).trans (s 19 (by decide) (by decide))
  have g20 : gI τ1 20 d = f 20 d := (a2 20 d (by omega) (by omega)).trans (s 20 (by decide) (by decide))
  have g21 : gI τ1 21 d = sumV f d := (a2 21 d (by omega) (by omega)).trans (by unfold sumsE; rw [upE_n (Or.inl (by decide)), upE_s])
  refine ⟨_, ?_, (((a2.pI 17 d (eV f d)).pI 20 d 0).pI 21 d 0).pI 22 d 20, a3.tr ((((OffW.pI (by omega) (by omega)).tr (OffW.pI (by omega) (by omega))).tr (OffW.pI (by omega) (by omega))).tr (OffW.pI (by omega) (by omega)))⟩
  have j106 : ∀ v, J_X12_tests_106 (nI d) τ1 v = some (0, pI (pI (pI (pI τ1 17 d (if f 18 d = 27 then (if f 17 d ≠ 0 ∨ v ≠ 0 then 1 else 0) else v)) 20 d 0) 21 d 0) 22 d 20) := fun v => by
    unfold J_X12_tests_106
    simp only [ck_t i7, td, bn_e, jn_e2, g17, g18]
    by_cases z : f 18 d = 27
    · rw [if_pos z, if_pos z]
      by_cases y : f 17 d = 0
      · rw [if_pos y]
        by_cases w : v = 0
        · rw [if_pos w, if_neg (fun q => q.elim (fun e => e y) (fun e => e w))]
        · rw [if_neg w, if_pos (Or.inr w)]
      · rw [if_neg y, if_pos (Or.inl y)]
    · rw [if_neg z, if_neg z]
  have j44 : ∀ v, J_X12_tests_44 (nI d) τ1 v = J_X12_tests_106 (nI d) τ1 (if f 18 d = 26 then (if f 17 d ≠ 0 ∧ (if f 20 d = 25 then (if f 19 d = sumV f d then 1 else 0) else v) ≠ 0 then 1 else 0) else (if f 20 d = 25 then (if f 19 d = sumV f d then 1 else 0) else v)) := fun v => by
    unfold J_X12_tests_44
    simp only [ck_t i7, td, bn_e, jn_e2, g17, g18, g19, g20, g21]
    have in1 : ∀ u : Int32, (if f 18 d = 26 then (if f 17 d = 0 then J_X12_tests_106 (nI d) τ1 0 else if u = 0 then J_X12_tests_106 (nI d) τ1 0 else J_X12_tests_106 (nI d) τ1 1) else J_X12_tests_106 (nI d) τ1 u) = J_X12_tests_106 (nI d) τ1 (if f 18 d = 26 then (if f 17 d ≠ 0 ∧ u ≠ 0 then 1 else 0) else u) := fun u => by
      by_cases z : f 18 d = 26
      · rw [if_pos z, if_pos z]
        by_cases y : f 17 d = 0
        · rw [if_pos y, if_neg (fun q => q.1 y)]
        · rw [if_neg y]
          by_cases w : u = 0
          · rw [if_pos w, if_neg (fun q => q.2 w)]
          · rw [if_neg w, if_pos ⟨y, w⟩]
      · rw [if_neg z, if_neg z]
    by_cases z : f 20 d = 25
    · simp only [if_pos z]
      by_cases y : f 19 d = sumV f d
      · simp only [if_pos y]; exact in1 1
      · simp only [if_neg y]; exact in1 0
    · simp only [if_neg z]; exact in1 v
  unfold f_X12_tests
  rw [cl_of _ a1, ck_t i7, bn_e, ck_t i7, jn_e2, td, g20, g19, g21]
  have fin : ∀ v, v = (if f 20 d = 24 then (if f 19 d < sumV f d then 1 else 0) else sumV f d) → J_X12_tests_44 (nI d) τ1 v = some (0, pI (pI (pI (pI τ1 17 d (eV f d)) 20 d 0) 21 d 0) 22 d 20) := fun v hv => by
    rw [j44, j106]
    have : (if f 20 d = 25 then (if f 19 d = sumV f d then 1 else 0) else v) = tstV f d := by rw [hv]; rfl
    rw [this]
    rfl
  by_cases z : f 20 d = 24
  · rw [if_pos z, ck_t i7, ck_t i7, jn_e2]
    simp only [jn_e2]
    by_cases y : f 19 d < sumV f d
    · rw [if_pos y]; exact fin 1 (by rw [if_pos z, if_pos y])
    · rw [if_neg y]; exact fin 0 (by rw [if_pos z, if_neg y])
  · rw [if_neg z]; exact fin _ (by rw [if_neg z])
theorem w_pop {τ : Mm} {f : Nat → Nat → Int32} {k : Int32 → Int32 → Option (Int32 × Mm)} {a0 b0 : Int32} (h : RwR τ f) : ∀ {d n v}, d < 7 → d < n → lq2 (F_X12_worked_268 a0 b0 τ k) n (nI d) v = k (nI (popE f d v).1) (popE f d v).2
  | d, 0, _, _, h => absurd h (by omega)
  | 0, n + 1, v, _, _ => by
    show F_X12_worked_268 a0 b0 τ k _ (nI 0) v = _
    unfold F_X12_worked_268
    rw [if_neg (by decide)]; rfl
  | d + 1, n + 1, v, hd, hn => by
    show F_X12_worked_268 a0 b0 τ k (lq2 (F_X12_worked_268 a0 b0 τ k) n) (nI (d + 1)) v = _
    have ih := fun u => w_pop (k := k) (a0 := a0) (b0 := b0) h (d := d) (n := n) (v := u) (by omega) (by omega)
    generalize lq2 (F_X12_worked_268 a0 b0 τ k) n = rc at ih ⊢
    unfold F_X12_worked_268
    have z : (0 : Int32) < nI (d + 1) := nI_lt (a := 0) (b := d + 1) (by omega) (by omega)
    have s1 : nI (d + 1) + -1 = nI d := by rw [show (-1 : Int32) = -nI 1 from rfl, ← Int32.sub_eq_add_neg, pk_sub (by omega), Nat.add_sub_cancel]
    simp only [if_pos z, ck_t (inb_nI (show d + 1 < 7 by omega) (by omega)), nI_tn (show d + 1 < 2147483648 by omega), h 25 (d + 1) (by omega) (by omega), jn_e2, s1]
    unfold popE
    by_cases y : f 25 (d + 1) = 1
    · rw [if_pos y, if_pos y]
      unfold ntS
      by_cases w : v = 0
      · rw [if_pos w, if_pos w]; exact ih 1
      · rw [if_neg w, if_neg w]; exact ih 0
    · rw [if_neg y, if_neg y]
theorem w_fin {τ : Mm} {f : Nat → Nat → Int32} {d : Nat} {v : Int32} {k : Int32 → Mm → Option (Int32 × Mm)} (h : RwR τ f) (hd : d < 7) (hp : (popE f d v).1 < 7) : ∃ τ', J_X12_worked_268 k (nI d) v τ = k (nI (finE f d v).1) τ' ∧ RwR τ' (finE f d v).2 ∧ OffW τ τ' := by
  unfold J_X12_worked_268
  rw [jn_e2, w_pop h hd (by omega)]
  have i7 : inb (nI (popE f d v).1) 7 = true := inb_nI hp (by omega)
  have td : (nI (popE f d v).1).toNatClampNeg = (popE f d v).1 := nI_tn (by omega)
  refine ⟨_, ?_, h.pI 23 _ _, OffW.pI (by omega) (by omega)⟩
  simp only [ck_t i7, td, bn_e, jn_e2, h 24 _ (show 17 ≤ 24 by omega) (by omega), h 23 _ (show 17 ≤ 23 by omega) (by omega)]
  by_cases z : f 24 (popE f d v).1 = 0
  · rw [if_pos z, if_pos z]; rfl
  · rw [if_neg z, if_neg z]; rfl
