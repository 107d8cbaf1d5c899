/-! an evening, read side by side -/
def LnOq (P W : Nat) (l : Ln) : Prop := lM l ≤ 40 ∧ ∀ k, k < lM l → lV l k ≤ 3 ∧ (lV l k = 1 → lF l k < P ∧ lG l k < P) ∧ (2 ≤ lV l k → lF l k < W)
def adL (l : Ln) (v a b : Nat) : Ln := (lM l + 1, updF (lV l) (lM l) v, updF (lF l) (lM l) a, updF (lG l) (lM l) b)
def Fb (σ : Mm) (a : Nat) : Prop := ∀ j, j < 40 → fits .byte (.int (gI σ a j)) = true
theorem Fb.fr {σ τ : Mm} {a : Nat} (h : Fb σ a) (e : ∀ j, gI τ a j = gI σ a j) : Fb τ a := fun j hj => by rw [e]; exact h j hj
theorem fb_nar (x : Int32) : fits .byte (.int (vp_nar .byte x)) = true := fits_narrow_byte x
theorem Fb.pI {σ : Mm} {a b k : Nat} {v : Int32} (h : Fb σ a) (hv : fits .byte (.int v) = true) : Fb (pI σ b k v) a := fun j hj => by
  rw [gI_pI]
  split
  · exact hv
  · exact h j hj
def CE (b1 : Nat) (σ τ : Mm) : Prop := (∀ a, a ≠ 3 → a ≠ 4 → (a < b1 ∨ b1 + 3 < a) → ∀ k, gI τ a k = gI σ a k) ∧ (∀ a, a ≠ 4 → ∀ k, gL τ a k = gL σ a k) ∧ (∀ a k, gR τ a k = gR σ a k) ∧ (∀ i, i < 3 → 4 < b1 → Fb σ (b1 + 1 + i) → Fb τ (b1 + 1 + i))
theorem CE.tr {b1 : Nat} {σ τ υ : Mm} (h : CE b1 σ τ) (g : CE b1 τ υ) : CE b1 σ υ := ⟨fun b b1 b2 b3 k => (g.1 b b1 b2 b3 k).trans (h.1 b b1 b2 b3 k), fun b hb k => (g.2.1 b hb k).trans (h.2.1 b hb k), fun b k => (g.2.2.1 b k).trans (h.2.2.1 b k), fun i hi h4 q => g.2.2.2 i hi h4 (h.2.2.2 i hi h4 q)⟩
theorem Cf.ce {b1 : Nat} {σ τ : Mm} (h : Cf σ τ) : CE b1 σ τ := ⟨fun a h1 h2 _ k => h.1 a h1 h2 k, h.2.1, h.2.2, fun i hi h4 q => q.fr (fun j => h.1 _ (by omega) (by omega) j)⟩
def ME (σ τ : Mm) : Prop := (∀ a, a ≠ 0 → (a < 28 ∨ 31 < a) → ∀ k, gI τ a k = gI σ a k) ∧ (∀ j, j ≠ 4 → j ≠ 5 → j ≠ 6 → j ≠ 8 → j ≠ 9 → j ≠ 37 → j ≠ 39 → gI τ 0 j = gI σ 0 j) ∧ (∀ k, k < 5 → gI τ 28 k = gI σ 28 k) ∧ (∀ a, 29 ≤ a → a ≤ 31 → ∀ k, k < 200 → gI τ a k = gI σ a k) ∧ (∀ a k, ¬ (a = 0 ∧ (k = 7 ∨ k = 38)) → gL τ a k = gL σ a k) ∧ (∀ a k, gR τ a k = gR σ a k)
theorem ME.rf {σ : Mm} : ME σ σ := ⟨fun _ _ _ _ => rfl, fun _ _ _ _ _ _ _ _ => rfl, fun _ _ => rfl, fun _ _ _ _ _ => rfl, fun _ _ _ => rfl, fun _ _ => rfl⟩
theorem ME.tr {σ τ υ : Mm} (h : ME σ τ) (g : ME τ υ) : ME σ υ := ⟨fun b hb hc k => (g.1 b hb hc k).trans (h.1 b hb hc k), fun j a b c d e f i => (g.2.1 j a b c d e f i).trans (h.2.1 j a b c d e f i), fun k hk => (g.2.2.1 k hk).trans (h.2.2.1 k hk), fun a h1 h2 k hk => (g.2.2.2.1 a h1 h2 k hk).trans (h.2.2.2.1 a h1 h2 k hk), fun a k z => (g.2.2.2.2.1 a k z).trans (h.2.2.2.2.1 a k z), fun b k => (g.2.2.2.2.2 b k).trans (h.2.2.2.2.2 b k)⟩
theorem Mf.me {σ τ : Mm} (h : Mf σ τ) : ME σ τ := ⟨fun a h1 _ k => h.1 a h1 k, h.2.1, fun k _ => h.1 28 (by decide) k, fun a h1 _ k _ => h.1 a (by omega) k, h.2.2.1, h.2.2.2⟩
theorem ME.p28 {σ : Mm} {v : Int32} : ME σ (pI σ 28 5 v) := ⟨fun a _ h k => gI_pI_n (Or.inl (by omega)), fun _ _ _ _ _ _ _ _ => gI_pI_n (Or.inl (by decide)), fun k hk => gI_pI_n (Or.inr (by omega)), fun a h1 h2 k hk => gI_pI_n (Or.inl (by omega)), fun _ _ _ => rfl, fun _ _ => rfl⟩
theorem ME.p29 {σ : Mm} {a k : Nat} {v : Int32} (ha : 29 ≤ a ∧ a ≤ 31) (hk : 200 ≤ k) : ME σ (pI σ a k v) := ⟨fun b _ h j => gI_pI_n (Or.inl (by omega)), fun _ _ _ _ _ _ _ _ => gI_pI_n (Or.inl (by omega)), fun j hj => gI_pI_n (Or.inl (by omega)), fun b h1 h2 j hj => gI_pI_n (Or.inr (by omega)), fun _ _ _ => rfl, fun _ _ => rfl⟩
theorem lines_a {b1 : Nat} (hb : b1 = 237 ∨ b1 = 241) : isLines b1 = true := by rcases hb with rfl | rfl <;> decide
theorem byteN : ∀ k, k < 64 → vp_nar .byte (nI k).toInt8.toInt32 = nI k := by decide
theorem LC.ce {σ τ : Mm} {b1 : Nat} {l : Ln} (h : LC σ b1 l) (c : Cf σ τ) (hb : b1 = 237 ∨ b1 = 241) : LC τ b1 l := by
  refine ⟨h.1, by rw [c.1 b1 (by omega) (by omega)]; exact h.2.1, fun k hk => ?_⟩
  rw [c.1 (b1 + 1) (by omega) (by omega), c.1 (b1 + 2) (by omega) (by omega), c.1 (b1 + 3) (by omega) (by omega)]; exact h.2.2 k hk
theorem LR.me {σ τ : Mm} {r : Nat} {l : Ln} (h : LR σ r l) (m : Mf σ τ) : LR τ r l := h.gi (fun a ha k => m.1 a (by omega) k)
theorem s_addLine {σ : Mm} {b1 v a b : Nat} {x y : Int32} {l : Ln} (hl : LC σ b1 l) (hb : b1 = 237 ∨ b1 = 241) (h40 : lM l < 40) (hv : v ≤ 3) (ha : a < 64) (hbb : b < 64) (hx : v ≠ 0 → x = nI a) (hy : v = 1 → y = nI b) :
    ∃ τ, f_X2_add b1 (nI (8 + v)) x y σ = some (0, τ) ∧ CE b1 σ τ ∧ LC τ b1 (adL l v a b) ∧ (∀ k, gI τ 3 k = gI σ 3 k) ∧ (∀ k, gI τ 4 k = gI σ 4 k) ∧ (∀ k, gL τ 4 k = gL σ 4 k) := by
  obtain ⟨h1, h2, h3⟩ := hl
  have c1 : gI σ b1 0 < 40 := by rw [h2]; exact nI_lt (a := lM l) (b := 40) h40 (by omega)
  obtain ⟨m, em⟩ : ∃ m, m = lM l := ⟨_, rfl⟩
  rw [← em] at h2 h3 h40
  have e : f_X2_add b1 (nI (8 + v)) x y σ = some (0, pI (pI (pI (pI σ (b1 + 1) m (vp_nar .byte (nI (8 + v)).toInt8.toInt32)) (b1 + 2) m (vp_nar .byte x.toInt8.toInt32)) (b1 + 3) m (vp_nar .byte y.toInt8.toInt32)) b1 0 (nI (m + 1))) := by
    unfold f_X2_add
    have g1 : ∀ w, gI (pI σ (b1 + 1) m w) b1 0 = nI m := fun w => by rw [gI_pI_n (Or.inl (by omega))]; exact h2
    have g2 : ∀ w u, gI (pI (pI σ (b1 + 1) m w) (b1 + 2) m u) b1 0 = nI m := fun w u => by rw [gI_pI_n (Or.inl (by omega))]; exact g1 w
    have g3 : ∀ w u z, gI (pI (pI (pI σ (b1 + 1) m w) (b1 + 2) m u) (b1 + 3) m z) b1 0 = nI m := fun w u z => by rw [gI_pI_n (Or.inl (by omega))]; exact g2 w u
    rw [ck_t h1, if_pos c1]
    simp only [h2, ck_t (inb_nI (show m < 40 by omega) (by omega)), nI_tn (show m < 2147483648 by omega), bn_e, g1, g2, g3, nI_1]
  refine ⟨_, e, ⟨fun c z1 z2 z3 k => ?_, fun _ _ _ => rfl, fun _ _ => rfl, fun i hi h4 q => ((((q.pI (fb_nar _)).pI (fb_nar _)).pI (fb_nar _)).fr (fun j => gI_pI_n (Or.inl (by omega))))⟩, ⟨h1, ?_, fun k hk => ?_⟩, fun k => ?_, fun k => ?_, fun _ => rfl⟩
  · rw [gI_pI_n (Or.inl (by omega)), gI_pI_n (Or.inl (by omega)), gI_pI_n (Or.inl (by omega)), gI_pI_n (Or.inl (by omega))]
  · rw [gI_pI_s, em]; rfl
  · have hk : k < m + 1 := by rw [em]; exact hk
    have eV : lV (adL l v a b) = updF (lV l) m v := by rw [em]; rfl
    have eF : lF (adL l v a b) = updF (lF l) m a := by rw [em]; rfl
    have eG : lG (adL l v a b) = updF (lG l) m b := by rw [em]; rfl
    rw [eV, eF, eG]
    by_cases z : k = m
    · subst z
      rw [updF_s, updF_s, updF_s]
      refine ⟨?_, fun w => ?_, fun w => ?_⟩
      · rw [gI_pI_n (Or.inl (by omega)), gI_pI_n (Or.inl (by omega)), gI_pI_n (Or.inl (by omega)), gI_pI_s, byteN _ (by omega)]
      · rw [gI_pI_n (Or.inl (by omega)), gI_pI_n (Or.inl (by omega)), gI_pI_s, hx w, byteN _ ha]
      · rw [gI_pI_n (Or.inl (by omega)), gI_pI_s, hy w, byteN _ hbb]
    · rw [updF_n z, updF_n z, updF_n z]
      obtain ⟨q1, q2, q3⟩ := h3 k (by omega)
      refine ⟨?_, fun w => ?_, fun w => ?_⟩
      · rw [gI_pI_n (Or.inl (by omega)), gI_pI_n (Or.inl (by omega)), gI_pI_n (Or.inl (by omega)), gI_pI_n (Or.inr z)]; exact q1
      · rw [gI_pI_n (Or.inl (by omega)), gI_pI_n (Or.inl (by omega)), gI_pI_n (Or.inr z), gI_pI_n (Or.inl (by omega))]; exact q2 w
      · rw [gI_pI_n (Or.inl (by omega)), gI_pI_n (Or.inr z), gI_pI_n (Or.inl (by omega)), gI_pI_n (Or.inl (by omega))]; exact q3 w
  · rw [gI_pI_n (Or.inl (by omega)), gI_pI_n (Or.inl (by omega)), gI_pI_n (Or.inl (by omega)), gI_pI_n (Or.inl (by omega))]
  · rw [gI_pI_n (Or.inl (by omega)), gI_pI_n (Or.inl (by omega)), gI_pI_n (Or.inl (by omega)), gI_pI_n (Or.inl (by omega))]
theorem adL_ok {P W v a b : Nat} {l : Ln} (h : LnOq P W l) (h40 : lM l < 40) (hv : v ≤ 3) (h1 : v = 1 → a < P ∧ b < P) (h2 : 2 ≤ v → a < W) : LnOq P W (adL l v a b) := by
  refine ⟨by show lM l + 1 ≤ 40; omega, fun k hk => ?_⟩
  have hk : k < lM l + 1 := hk
  show updF (lV l) (lM l) v k ≤ 3 ∧ (updF (lV l) (lM l) v k = 1 → updF (lF l) (lM l) a k < P ∧ updF (lG l) (lM l) b k < P) ∧ (2 ≤ updF (lV l) (lM l) v k → updF (lF l) (lM l) a k < W)
  by_cases z : k = lM l
  · subst z; rw [updF_s, updF_s, updF_s]; exact ⟨hv, h1, h2⟩
  · rw [updF_n z, updF_n z, updF_n z]; exact h.2 k (by omega)
/-- the end of a line -/
theorem e_fin {σ μ : Mm} {s : Nat → Nat} {n q b1 P W v a b : Nat} {x y : Int32} {l : Ln} (h : Rd σ μ s n q) (f0 : gI σ 3 1 = 0) (hl : LC σ b1 l) (hb : b1 = 237 ∨ b1 = 241) (ok : LnOq P W l) (h40 : lM l < 40) (hm : LR μ 5 l) (g29 : gI μ 29 (200 + lM l) = nI v) (g30 : v ≠ 0 → gI μ 30 (200 + lM l) = nI a) (g31 : v = 1 → gI μ 31 (200 + lM l) = nI b) (hv : v ≤ 3) (ha : a < 64) (hbb : b < 64) (hx : v ≠ 0 → x = nI a) (hy : v = 1 → y = nI b) (h1 : v = 1 → a < P ∧ b < P) (h2 : 2 ≤ v → a < W) :
    (∃ σ' μ', cl (f_X6_readSign (59 : Int32) σ) (fun r159 σ159 => (if r159 = 0 then some ((0 : Int32), σ159) else cl (f_X2_add b1 (nI (8 + v)) x y σ159) (fun _ σ171 => some (0, σ171)))) = some (0, σ') ∧ cl (f_X12_closes (pI μ 28 5 (gI μ 28 5 + 1))) (fun r207 σ207 => some (r207, σ207)) = some (1, μ') ∧ CE b1 σ σ' ∧ ME μ μ' ∧ gI σ' 3 1 = 0 ∧ Rd σ' μ' s n (tkE s n q) ∧ q < tkE s n q ∧ LC σ' b1 (adL l v a b) ∧ LR μ' 5 (adL l v a b) ∧ LnOq P W (adL l v a b)) ∨ (∃ σ' μ', cl (f_X6_readSign (59 : Int32) σ) (fun r159 σ159 => (if r159 = 0 then some ((0 : Int32), σ159) else cl (f_X2_add b1 (nI (8 + v)) x y σ159) (fun _ σ171 => some (0, σ171)))) = some (0, σ') ∧ cl (f_X12_closes (pI μ 28 5 (gI μ 28 5 + 1))) (fun r207 σ207 => some (r207, σ207)) = some (0, μ') ∧ CE b1 σ σ' ∧ ME μ μ' ∧ Bad σ' μ') := by
  have hr : Rd σ (pI μ 28 5 (gI μ 28 5 + 1)) s n q := h.cm (fun k => gI_pI_n (Or.inl (by decide))) (fun j hj => gI_pI_n (Or.inl (by decide))) rfl
  rcases r_close hr f0 with ⟨sg, σ1, μ1, a1, a2, a3, a4, a5, a6⟩ | ⟨σ1, μ1, a1, a2, a3, a4, a5⟩
  · left
    obtain ⟨τ, t1, t2, t3, t4, t5, t6⟩ := s_addLine (hl.ce a3 hb) hb h40 hv ha hbb hx hy
    refine ⟨τ, μ1, ?_, ?_, a3.ce.tr t2, ME.p28.tr a4.me, by rw [t4]; exact a5, ?_, sg_lt h.2.2.2.1 sg, t3, ?_, adL_ok ok h40 hv h1 h2⟩
    · rw [cl_of _ a1, if_neg one0, cl_of _ t1]
    · rw [cl_of _ a2]
    · refine a6.cg (fun c hc k => ?_) (fun c hc k => by rcases hc with rfl | rfl; exact t6 k; exact t2.2.1 5 (by decide) k) (fun _ => rfl) (fun _ _ => rfl) rfl
      rcases hc with rfl | rfl | rfl
      · exact t2.1 1 (by decide) (by decide) (by omega) k
      · exact t2.1 2 (by decide) (by decide) (by omega) k
      · exact t5 k
    · refine LR.me ?_ a4
      refine ⟨?_, fun k hk => ?_⟩
      · rw [gI_pI_s, hm.1, nI_1]; rfl
      · have hk : k < lM l + 1 := hk
        rw [gI_pI_n (Or.inl (by decide)), gI_pI_n (Or.inl (by decide)), gI_pI_n (Or.inl (by decide))]
        show gI μ 29 (40 * 5 + k) = nI (updF (lV l) (lM l) v k) ∧ (updF (lV l) (lM l) v k ≠ 0 → gI μ 30 (40 * 5 + k) = nI (updF (lF l) (lM l) a k)) ∧ (updF (lV l) (lM l) v k = 1 → gI μ 31 (40 * 5 + k) = nI (updF (lG l) (lM l) b k))
        by_cases z : k = lM l
        · subst z; rw [updF_s, updF_s, updF_s]; exact ⟨g29, g30, g31⟩
        · rw [updF_n z, updF_n z, updF_n z]; exact hm.2 k (by omega)
  · right
    refine ⟨σ1, μ1, ?_, ?_, a3.ce, ME.p28.tr a4.me, a5⟩
    · rw [cl_of _ a1, if_pos rfl]
    · rw [cl_of _ a2]
