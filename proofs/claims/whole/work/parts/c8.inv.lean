/-! all that both sides hold, side by side -/
theorem LC.fr {σ τ : Mm} {a : Nat} {l : Ln} (h : LC σ a l) (e : ∀ b, a ≤ b → b ≤ a + 3 → ∀ k, gI τ b k = gI σ b k) : LC τ a l := by
  obtain ⟨h1, h2, h3⟩ := h
  refine ⟨h1, by rw [e a (by omega) (by omega)]; exact h2, fun k hk => ?_⟩
  rw [e (a + 1) (by omega) (by omega), e (a + 2) (by omega) (by omega), e (a + 3) (by omega) (by omega)]
  exact h3 k hk
theorem WC.fr {σ τ : Mm} {a : Nat} {w : Wt} (h : WC σ a w) (e : ∀ b, a ≤ b → b ≤ a + 3 → ∀ k, gI τ b k = gI σ b k) : WC τ a w := by
  obtain ⟨h1, h2, h3⟩ := h
  refine ⟨h1, by rw [e a (by omega) (by omega)]; exact h2, fun k hk => ?_⟩
  rw [e (a + 1) (by omega) (by omega), e (a + 2) (by omega) (by omega), e (a + 3) (by omega) (by omega)]
  exact h3 k hk
theorem RC.fr {σ τ : Mm} {n W : Nat} {N : Nt} (h : RC σ n W N) (e : ∀ b, n ≤ b → b ≤ n + 5 → ∀ k, gI τ b k = gI σ b k) : RC τ n W N := by
  obtain ⟨h1, h2, h3, h4, h5, h6⟩ := h
  refine ⟨h1, by rw [e n (by omega) (by omega)]; exact h2, by rw [e n (by omega) (by omega)]; exact h3, by rw [e n (by omega) (by omega)]; exact h4, fun k hk => ?_, fun w hw => ?_⟩
  · rw [e (n + 1) (by omega) (by omega)]; exact h5 k hk
  · rw [e (n + 2) (by omega) (by omega), e (n + 3) (by omega) (by omega), e (n + 4) (by omega) (by omega), e (n + 5) (by omega) (by omega)]; exact h6 w hw
theorem LR.fr {σ τ : Mm} {r : Nat} {l : Ln} (h : LR σ r l) (hl : lM l ≤ 40) (e0 : gI τ 28 r = gI σ 28 r) (e : ∀ b, 29 ≤ b → b ≤ 31 → ∀ k, 40 * r ≤ k → k < 40 * r + 40 → gI τ b k = gI σ b k) : LR τ r l := by
  obtain ⟨h1, h2⟩ := h
  refine ⟨e0.trans h1, fun k hk => ?_⟩
  rw [e 29 (by omega) (by omega) _ (by omega) (by omega), e 30 (by omega) (by omega) _ (by omega) (by omega), e 31 (by omega) (by omega) _ (by omega) (by omega)]
  exact h2 k hk
theorem WR.fr {σ τ : Mm} {r : Nat} {w : Wt} (h : WR σ r w) (hl : wM w ≤ 6) (e0 : gI τ 32 r = gI σ 32 r) (e : ∀ b, 33 ≤ b → b ≤ 35 → ∀ k, 6 * r ≤ k → k < 6 * r + 6 → gI τ b k = gI σ b k) : WR τ r w := by
  obtain ⟨h1, h2⟩ := h
  refine ⟨e0.trans h1, fun k hk => ?_⟩
  rw [e 33 (by omega) (by omega) _ (by omega) (by omega), e 34 (by omega) (by omega) _ (by omega) (by omega), e 35 (by omega) (by omega) _ (by omega) (by omega)]
  exact h2 k hk
theorem TC.fr {σ τ : Mm} {t : Nat} {T : Tw} (h : TC σ t T) (e : ∀ b, t ≤ b → b ≤ t + 14 → b ≠ t + 3 → ∀ k, gI τ b k = gI σ b k) : TC τ t T := by
  obtain ⟨h1, h2, h3, h4, h5, h6, h7, h8, h9⟩ := h
  have e0 : ∀ i, i ≤ 14 → i ≠ 3 → ∀ k, gI τ (t + i) k = gI σ (t + i) k := fun i h1 h2 k => e (t + i) (by omega) (by omega) (by omega) k
  refine ⟨h1, (e0 0 (by omega) (by omega) 0).trans h2, (e0 0 (by omega) (by omega) 1).trans h3, (e0 0 (by omega) (by omega) 2).trans h4, (e0 0 (by omega) (by omega) 3).trans h5, fun k hk => ?_, fun w hw => ?_, fun a b ha hb => ?_, fun υ e1 e2 => h9 υ (fun k => (e1 k).trans (e0 1 (by omega) (by omega) k)) (fun k => (e2 k).trans (e0 2 (by omega) (by omega) k))⟩
  · rw [e0 5 (by omega) (by omega), e0 6 (by omega) (by omega), e0 7 (by omega) (by omega)]; exact h6 k hk
  · rw [e0 9 (by omega) (by omega), e0 10 (by omega) (by omega), e0 11 (by omega) (by omega), e0 12 (by omega) (by omega)]; exact h7 w hw
  · rw [e0 14 (by omega) (by omega)]; exact h8 a b ha hb
/-- the past: the class's ring, the reference's rows; H 0 is the newest -/
def RgI (σ μ : Mm) (T : Tw) : Prop := ∃ (m tp : Nat) (H : Nat → Nt), m ≤ 16 ∧ tp < 16 ∧ gI σ 13 1 = nI m ∧ gI σ 13 2 = nI tp ∧ gI μ 0 55 = nI m ∧ ∀ i, i < m → NtOk T (H i) ∧ RC σ (nightAt ((tp + 15 - i) % 16)) (tW T) (H i) ∧ RP μ 40 (41 * (m - 1 - i)) T (H i)
/-- a mark -/
def MkI (σ μ : Mm) (T : Tw) (i : Nat) : Prop := (gI σ (markAt i) 0 = 0 ∧ gI μ 41 i = 0) ∨ (gI σ (markAt i) 0 = 1 ∧ gI μ 41 i = 1 ∧ ∃ N l w, NtOk T N ∧ LnOk T l ∧ WtOk T w ∧ RC σ (markAt i + 1) (tW T) N ∧ LC σ (markAt i + 8) l ∧ WC σ (markAt i + 12) w ∧ RP μ 39 (41 * i) T N ∧ LR μ (1 + i) l ∧ WR μ (1 + i) w)
def IT (σ μ : Mm) (t : Nat) (T : Tw) (D : Nat → Nat → Nat) : Prop := TwOk T ∧ gR σ 0 7 = t ∧ gR σ 0 8 = 429 - t ∧ TC σ t T ∧ TMr μ T ∧ NmP σ μ t 0 (tP T) ∧ NmW σ μ t 0 (tW T) ∧ WyL σ μ t (tP T) D
def IN (σ μ : Mm) (T : Tw) (N : Nt) : Prop := NtOk T N ∧ RC σ 6 (tW T) N ∧ RP μ 36 0 T N ∧ gI μ 0 56 = 0 ∧ gI μ 0 57 = 63
def IL (σ μ : Mm) (T : Tw) (a : Nat) (l : Ln) : Prop := (a = 237 ∨ a = 241) ∧ gR σ 0 9 = a ∧ gR σ 0 10 = 478 - a ∧ LnOk T l ∧ LC σ a l ∧ LR μ 0 l
def IA (σ μ : Mm) (T : Tw) (w : Wt) : Prop := WtOk T w ∧ WC σ 127 w ∧ WR μ 0 w
def ID (σ : Mm) (T : Tw) (N : Nt) : Prop := ¬ gI σ 196 3 = 0 → BC σ T N (RW T N (tW T))
/-- the rows of lines hold bytes -/
def FbA (σ : Mm) : Prop := ∀ a, isLines a = true → ∀ i, i < 3 → Fb σ (a + 1 + i)
theorem lines_in {a : Nat} (h : isLines a = true) : a = 140 ∨ a = 156 ∨ a = 172 ∨ a = 188 ∨ a = 237 ∨ a = 241 := by
  simp only [isLines, List.contains_eq_mem, List.mem_cons, List.not_mem_nil, or_false, decide_eq_true_eq] at h
  exact h
theorem FbA.fr {σ τ : Mm} (h : FbA σ) (e : ∀ b, (132 ≤ b ∧ b ≤ 195) ∨ 237 ≤ b → ∀ k, gI τ b k = gI σ b k) : FbA τ := fun a ha i hi => (h a ha i hi).fr (fun j => e _ (by have := lines_in ha; omega) j)
def IW (σ μ : Mm) (s : Nat → Nat) (n : Nat) : Prop := KwC σ ∧ FbA σ ∧ TapeR σ μ s n
def Iv (σ μ : Mm) : Prop := ∃ t T D N a l w s n, IT σ μ t T D ∧ IN σ μ T N ∧ IL σ μ T a l ∧ IA σ μ T w ∧ ID σ T N ∧ IW σ μ s n ∧ RgI σ μ T ∧ ∀ i, i < 4 → MkI σ μ T i
theorem IT.bo {σ μ : Mm} {t : Nat} {T : Tw} {D : Nat → Nat → Nat} {N : Nt} (h : IT σ μ t T D) (g : IN σ μ T N) : Bo σ μ t T N := ⟨h.1, g.1, ⟨h.2.1, h.2.2.2.1, g.2.1⟩, ⟨h.2.2.2.2.1.tm, g.2.2.1, g.2.2.2⟩⟩
theorem IT.fr {σ μ σ' μ' : Mm} {t : Nat} {T : Tw} {D : Nat → Nat → Nat} (h : IT σ μ t T D) (e : ∀ b, t ≤ b → b ≤ t + 14 → b ≠ t + 3 → ∀ k, gI σ' b k = gI σ b k) (eL : ∀ b, t ≤ b → b ≤ t + 14 → ∀ k, gL σ' b k = gL σ b k) (e7 : gR σ' 0 7 = gR σ 0 7) (e8 : gR σ' 0 8 = gR σ 0 8) (r : Rw0 μ μ') (rL : ∀ a, a = 3 ∨ a = 4 → ∀ k, k < 6 → gL μ' a k = gL μ a k) : IT σ' μ' t T D := by
  obtain ⟨h1, h2, h3, h4, h5, ⟨p1, p2, p3, p4, p5, p6⟩, ⟨w1, w2, w3, w4, w5, w6⟩, h8⟩ := h
  refine ⟨h1, e7.trans h2, e8.trans h3, h4.fr e, h5.fr r, ⟨p1, p2, p3, by rw [e t (by omega) (by omega) (by omega)]; exact p4, by rw [r.1 2 (by omega) (by omega) _ (by decide)]; exact p5, fun k hk => ?_⟩, ⟨w1, w2, w3, by rw [e t (by omega) (by omega) (by omega)]; exact w4, by rw [r.1 2 (by omega) (by omega) _ (by decide)]; exact w5, fun k hk => ?_⟩, fun x b hx hb => ?_⟩
  · rw [eL (t + 4) (by omega) (by omega), rL 3 (Or.inl rfl) _ (by omega)]; exact p6 k hk
  · rw [eL (t + 8) (by omega) (by omega), rL 4 (Or.inr rfl) _ (by omega)]; exact w6 k hk
  · have h6 := h1.1
    rw [e (t + 13) (by omega) (by omega) (by omega), r.2 _ (by omega)]; exact h8 x b hx hb
theorem IN.fr {σ μ σ' μ' : Mm} {T : Tw} {N : Nt} (hT : TwOk T) (h : IN σ μ T N) (e : ∀ b, 6 ≤ b → b ≤ 11 → ∀ k, gI σ' b k = gI σ b k) (m : ∀ j, j < 41 → gI μ' 36 j = gI μ 36 j) (m6 : gI μ' 0 56 = gI μ 0 56) (m7 : gI μ' 0 57 = gI μ 0 57) : IN σ' μ' T N := ⟨h.1, h.2.1.fr e, h.2.2.1.copy hT.2.2.1 (fun j hj => by rw [Nat.zero_add]; exact m j hj), m6.trans h.2.2.2.1, m7.trans h.2.2.2.2⟩
theorem IL.fr {σ μ σ' μ' : Mm} {T : Tw} {a : Nat} {l : Ln} (h : IL σ μ T a l) (e : ∀ b, a ≤ b → b ≤ a + 3 → ∀ k, gI σ' b k = gI σ b k) (e9 : gR σ' 0 9 = gR σ 0 9) (e10 : gR σ' 0 10 = gR σ 0 10) (m0 : gI μ' 28 0 = gI μ 28 0) (m : ∀ b, 29 ≤ b → b ≤ 31 → ∀ k, k < 40 → gI μ' b k = gI μ b k) : IL σ' μ' T a l := ⟨h.1, e9.trans h.2.1, e10.trans h.2.2.1, h.2.2.2.1, h.2.2.2.2.1.fr e, h.2.2.2.2.2.fr h.2.2.2.1.1 m0 (fun b h1 h2 k _ h3 => m b h1 h2 k (by omega))⟩
theorem IA.fr {σ μ σ' μ' : Mm} {T : Tw} {w : Wt} (h : IA σ μ T w) (e : ∀ b, 127 ≤ b → b ≤ 130 → ∀ k, gI σ' b k = gI σ b k) (m0 : gI μ' 32 0 = gI μ 32 0) (m : ∀ b, 33 ≤ b → b ≤ 35 → ∀ k, k < 6 → gI μ' b k = gI μ b k) : IA σ' μ' T w := ⟨h.1, h.2.1.fr e, h.2.2.fr h.1.1 m0 (fun b h1 h2 k _ h3 => m b h1 h2 k (by omega))⟩
theorem ID.fr {σ σ' : Mm} {T : Tw} {N : Nt} (h : ID σ T N) (e : ∀ k, gI σ' 196 k = gI σ 196 k) (e2 : ∀ k, gI σ' 206 k = gI σ 206 k) : ID σ' T N := fun z => (h (by rw [← e]; exact z)).congr (e _) (e _) e2
theorem IW.fr {σ μ σ' μ' : Mm} {s : Nat → Nat} {n : Nat} (h : IW σ μ s n) (eL : ∀ k, gL σ' 5 k = gL σ 5 k) (e1 : gI σ' 1 1 = gI σ 1 1) (e2 : ∀ k, gI σ' 2 k = gI σ 2 k) (m0 : gI μ' 0 1 = gI μ 0 1) (m1 : ∀ k, gI μ' 1 k = gI μ 1 k) (eF : ∀ b, (132 ≤ b ∧ b ≤ 195) ∨ 237 ≤ b → ∀ k, gI σ' b k = gI σ b k) : IW σ' μ' s n := ⟨fun i hi => (eL i).trans (h.1 i hi), h.2.1.fr eF, h.2.2.1, e1.trans h.2.2.2.1, m0.trans h.2.2.2.2.1, fun k hk => by rw [e2, m1]; exact h.2.2.2.2.2 k hk⟩
theorem IW.zero {σ μ : Mm} (kw : KwC σ) (fb : FbA σ) (e1 : gI σ 1 1 = 0) (m0 : gI μ 0 1 = 0) : IW σ μ (fun _ => 0) 0 := ⟨kw, fb, by omega, e1, m0, fun k hk => absurd hk (Nat.not_lt_zero k)⟩
theorem RgI.fr {σ μ σ' μ' : Mm} {T : Tw} (hT : TwOk T) (h : RgI σ μ T) (e : ∀ b, 13 ≤ b → b ≤ 126 → ∀ k, gI σ' b k = gI σ b k) (m0 : gI μ' 0 55 = gI μ 0 55) (m : ∀ k, gI μ' 40 k = gI μ 40 k) : RgI σ' μ' T := by
  obtain ⟨mm, tp, H, h1, h2, h3, h4, h5, h6⟩ := h
  refine ⟨mm, tp, H, h1, h2, by rw [e 13 (by omega) (by omega)]; exact h3, by rw [e 13 (by omega) (by omega)]; exact h4, m0.trans h5, fun i hi => ⟨(h6 i hi).1, (h6 i hi).2.1.fr (fun b hb1 hb2 k => e b ?_ ?_ k), (h6 i hi).2.2.copy hT.2.2.1 (fun j _ => m _)⟩⟩
  · unfold nightAt at hb1; omega
  · unfold nightAt at hb2
    have : (tp + 15 - i) % 16 < 16 := Nat.mod_lt _ (by omega)
    omega
theorem RgI.zero {σ μ : Mm} {T : Tw} {tp : Nat} (h : tp < 16) (e1 : gI σ 13 1 = 0) (e2 : gI σ 13 2 = nI tp) (m : gI μ 0 55 = 0) : RgI σ μ T := ⟨0, tp, fun _ => beginN T, by omega, h, e1, e2, m, fun i hi => absurd hi (Nat.not_lt_zero i)⟩
theorem RgI.top {σ μ : Mm} {T : Tw} (h : RgI σ μ T) : ∃ tp, tp < 16 ∧ gI σ 13 2 = nI tp := by
  obtain ⟨mm, tp, H, h1, h2, h3, h4, h5, h6⟩ := h
  exact ⟨tp, h2, h4⟩
theorem MkI.fr {σ μ σ' μ' : Mm} {T : Tw} {i : Nat} (hT : TwOk T) (hi : i < 4) (h : MkI σ μ T i) (e : ∀ b, markAt i ≤ b → b ≤ markAt i + 15 → ∀ k, gI σ' b k = gI σ b k) (m41 : gI μ' 41 i = gI μ 41 i) (m39 : ∀ k, 41 * i ≤ k → k < 41 * i + 41 → gI μ' 39 k = gI μ 39 k) (ml : gI μ' 28 (1 + i) = gI μ 28 (1 + i)) (ml2 : ∀ b, 29 ≤ b → b ≤ 31 → ∀ k, 40 * (1 + i) ≤ k → k < 40 * (1 + i) + 40 → gI μ' b k = gI μ b k) (mw : gI μ' 32 (1 + i) = gI μ 32 (1 + i)) (mw2 : ∀ b, 33 ≤ b → b ≤ 35 → ∀ k, 6 * (1 + i) ≤ k → k < 6 * (1 + i) + 6 → gI μ' b k = gI μ b k) : MkI σ' μ' T i := by
  rcases h with ⟨a, b⟩ | ⟨a, b, N, l, w, h1, h2, h3, h4, h5, h6, h7, h8, h9⟩
  · exact Or.inl ⟨by rw [e _ (by omega) (by omega)]; exact a, m41.trans b⟩
  · exact Or.inr ⟨by rw [e _ (by omega) (by omega)]; exact a, m41.trans b, N, l, w, h1, h2, h3, h4.fr (fun b hb1 hb2 k => e b (by omega) (by omega) k), h5.fr (fun b hb1 hb2 k => e b (by omega) (by omega) k), h6.fr (fun b hb1 hb2 k => e b (by omega) (by omega) k), h7.copy hT.2.2.1 (fun j hj => m39 _ (by omega) (by omega)), h8.fr h2.1 ml ml2, h9.fr h3.1 mw mw2⟩
/-- what a call answers and leaves, on both sides -/
def AnI (f g : Mm → Option (Int32 × Mm)) (σ μ : Mm) : Prop := ∃ r σ' μ', f σ = some (r, σ') ∧ g μ = some (r, μ') ∧ Iv σ' μ'
theorem iv_q {σ μ σ' μ' : Mm} {t a : Nat} {T : Tw} {D : Nat → Nat → Nat} {N : Nt} {l : Ln} {w : Wt} {s : Nat → Nat} {n : Nat} (hT : IT σ μ t T D) (hN : IN σ μ T N) (hL : IL σ μ T a l) (hA : IA σ μ T w) (hD : ID σ' T N) (hW : IW σ μ s n) (hR : RgI σ μ T) (hM : ∀ i, i < 4 → MkI σ μ T i) (o : ∀ b, b < 196 ∨ 206 < b → b ≠ 210 → b ≠ 225 → ∀ k, gI σ' b k = gI σ b k) (oL : ∀ b k, gL σ' b k = gL σ b k) (oR : ∀ b k, gR σ' b k = gR σ b k) (q : QM μ μ') : Iv σ' μ' := by
  have ta := town_a hT.2.2.2.1.1
  have qm : ∀ x, x ∉ qM → ∀ k, gI μ' x k = gI μ x k := q.1
  have la := hL.1
  refine ⟨t, T, D, N, a, l, w, s, n, hT.fr (fun b h1 h2 h3 k => o b (by omega) (by omega) (by omega) k) (fun b _ _ k => oL b k) (oR _ _) (oR _ _) ⟨fun x h1 h2 k _ => qm x (by simp [qM, lawM]; omega) k, fun k _ => qm 27 (by simp [qM, lawM]) k⟩ (fun x hx k _ => q.2.2.2.1 x k (by omega)), hN.fr hT.1 (fun b h1 h2 k => o b (by omega) (by omega) (by omega) k) q.2.2.1 (q.2.1 56 (by omega) (by omega)) (q.2.1 57 (by omega) (by omega)), hL.fr (fun b h1 h2 k => o b (by omega) (by omega) (by omega) k) (oR _ _) (oR _ _) (qm 28 (by simp [qM, lawM]) _) (fun b h1 h2 k _ => qm b (by simp [qM, lawM]; omega) k), hA.fr (fun b h1 h2 k => o b (by omega) (by omega) (by omega) k) (qm 32 (by simp [qM, lawM]) _) (fun b h1 h2 k _ => qm b (by simp [qM, lawM]; omega) k), hD, hW.fr (oL 5) (o 1 (by omega) (by omega) (by omega) 1) (o 2 (by omega) (by omega) (by omega)) (q.2.1 1 (by omega) (by omega)) (qm 1 (by simp [qM, lawM])) (fun b h1 k => o b (by omega) (by omega) (by omega) k), hR.fr hT.1 (fun b h1 h2 k => o b (by omega) (by omega) (by omega) k) (q.2.1 55 (by omega) (by omega)) (qm 40 (by simp [qM, lawM])), fun i hi => (hM i hi).fr hT.1 hi (fun b h1 h2 k => o b (by unfold markAt at h2; omega) (by unfold markAt at h2; omega) (by unfold markAt at h2; omega) k) (qm 41 (by simp [qM, lawM]) _) (fun k _ _ => qm 39 (by simp [qM, lawM]) k) (qm 28 (by simp [qM, lawM]) _) (fun b h1 h2 k _ _ => qm b (by simp [qM, lawM]; omega) k) (qm 32 (by simp [qM, lawM]) _) (fun b h1 h2 k _ _ => qm b (by simp [qM, lawM]; omega) k)⟩
theorem iv_an {f g : Mm → Option (Int32 × Mm)} {σ μ : Mm} (h : Iv σ μ) (q : ∀ t T D N a l w, IT σ μ t T D → IN σ μ T N → IL σ μ T a l → IA σ μ T w → An f g σ μ) : AnI f g σ μ := by
  obtain ⟨t, T, D, N, a, l, w, s, n, hT, hN, hL, hA, hD, hW, hR, hM⟩ := h
  obtain ⟨r, σ', μ', e1, e2, o, qq⟩ := q t T D N a l w hT hN hL hA
  have oo : ∀ b, b ∉ qC → ∀ k, gI σ' b k = gI σ b k := o.1
  exact ⟨r, σ', μ', e1, e2, iv_q hT hN hL hA (hD.fr (oo 196 (by simp [qC])) (oo 206 (by simp [qC]))) hW hR hM (fun b h1 h2 h3 k => oo b (by simp [qC]; omega) k) o.2.1 o.2.2 qq⟩
theorem v_darks {σ μ : Mm} (h : Iv σ μ) (x : Int32) : AnI (f_X11_darks x) (f_X12_darks x) σ μ := iv_an h (fun t T D N a l w hT hN hL hA => q_darks (hT.bo hN) x)
theorem v_home {σ μ : Mm} (h : Iv σ μ) (x : Int32) : AnI (f_X11_home x) (f_X12_home x) σ μ := iv_an h (fun t T D N a l w hT hN hL hA => q_home (hT.bo hN) x)
theorem v_glow {σ μ : Mm} (h : Iv σ μ) : AnI f_X11_glow f_X12_glow σ μ := iv_an h (fun t T D N a l w hT hN hL hA => q_glow (hT.bo hN))
theorem v_oil {σ μ : Mm} (h : Iv σ μ) : AnI f_X11_oil f_X12_oil σ μ := iv_an h (fun t T D N a l w hT hN hL hA => q_oil (hT.bo hN))
theorem v_blind {σ μ : Mm} (h : Iv σ μ) : AnI f_X11_blind f_X12_blind σ μ := iv_an h (fun t T D N a l w hT hN hL hA => q_blind (hT.bo hN))
theorem v_burns {σ μ : Mm} (h : Iv σ μ) (x y : Int32) : AnI (f_X11_burns x y) (f_X12_burns x y) σ μ := iv_an h (fun t T D N a l w hT hN hL hA => q_burns (hT.bo hN) x y)
theorem v_meet {σ μ : Mm} (h : Iv σ μ) (x y : Int32) : AnI (f_X11_meet x y) (f_X12_meet x y) σ μ := iv_an h (fun t T D N a l w hT hN hL hA => q_meet (hT.bo hN) x y)
theorem v_longer {σ μ : Mm} (h : Iv σ μ) (x : Int32) : AnI (f_X11_longer x) (f_X12_longer x) σ μ := iv_an h (fun t T D N a l w hT hN hL hA => q_longer (hT.bo hN) x)
theorem v_boys {σ μ : Mm} (h : Iv σ μ) : AnI f_X11_boys f_X12_boys σ μ := iv_an h (fun t T D N a l w hT hN hL hA => q_boys (hT.bo hN))
theorem v_alarm {σ μ : Mm} (h : Iv σ μ) : AnI f_X11_alarm f_X12_alarm σ μ := iv_an h (fun t T D N a l w hT hN hL hA => q_alarm (hT.bo hN))
theorem v_next {σ μ : Mm} (h : Iv σ μ) (x : Int32) : AnI (f_X11_next x) (f_X12_next x) σ μ := iv_an h (fun t T D N a l w hT hN hL hA => q_next (hT.bo hN) x)
theorem v_lane {σ μ : Mm} (h : Iv σ μ) (x y : Int32) : AnI (f_X11_lane x y) (f_X12_lane x y) σ μ := iv_an h (fun t T D N a l w hT hN hL hA => q_lane (hT.bo hN) x y)
theorem v_walker {σ μ : Mm} (h : Iv σ μ) (x y : Int32) : AnI (f_X11_walker x y) (f_X12_walker x y) σ μ := iv_an h (fun t T D N a l w hT hN hL hA => q_walker (hT.bo hN) x y)
theorem v_thief {σ μ : Mm} (h : Iv σ μ) : AnI f_X11_thief f_X12_thief σ μ := iv_an h (fun t T D N a l w hT hN hL hA => q_thief (hT.bo hN))
theorem v_sets {σ μ : Mm} (h : Iv σ μ) (x : Int32) : AnI (f_X11_sets x) (f_X12_sets x) σ μ := iv_an h (fun t T D N a l w hT hN hL hA => q_sets (hT.bo hN) hA.1 hA.2.1 hA.2.2 x)
theorem v_look {σ μ : Mm} (h : Iv σ μ) (x : Int32) : AnI (f_X11_look x) (f_X12_look x) σ μ := iv_an h (fun t T D N a l w hT hN hL hA => q_look (hT.bo hN) hA.1 hA.2.1 hA.2.2 x)
theorem v_nights {σ μ : Mm} (h : Iv σ μ) (x y z : Int32) : AnI (f_X11_nights x y z) (f_X12_nights x y z) σ μ := iv_an h (fun t T D N a l w hT hN hL hA => q_nights (hT.bo hN) x y z)
theorem v_judged {σ μ : Mm} (h : Iv σ μ) (x : Int32) : AnI (f_X11_judged x) (f_X12_judged x) σ μ := iv_an h (fun t T D N a l w hT hN hL hA => q_judged (hT.bo hN) hL.2.2.2.1 hL.2.1 hL.1 hL.2.2.2.2.1 hL.2.2.2.2.2 x)
theorem v_way {σ μ : Mm} (h : Iv σ μ) (x y : Int32) : AnI (f_X11_way x y) (f_X12_way x y) σ μ := iv_an h (fun t T D N a l w hT hN hL hA => by
  obtain ⟨r, e1, e2⟩ := q_way (hT.bo hN) hT.2.2.2.2.2.2.2 x y
  exact ⟨r, _, _, e1, e2, Off.rf, QM.z μ 0⟩)
theorem v_delay {σ μ : Mm} (h : Iv σ μ) (x : Int32) : AnI (f_X11_delay x) (f_X12_delay x) σ μ := by
  obtain ⟨t, T, D, N, a, l, w, s, n, hT, hN, hL, hA, hD, hW, hR, hM⟩ := h
  obtain ⟨r, σ', μ', e1, e2, o, qq, bc⟩ := q_delay (hT.bo hN) hD x
  have ta := town_a hT.2.2.2.1.1
  have oo : ∀ b, b ∉ dlC t → ∀ k, gI σ' b k = gI σ b k := o.1
  exact ⟨r, σ', μ', e1, e2, iv_q hT hN hL hA bc hW hR hM (fun b h1 h2 h3 k => oo b (by simp [dlC, tryC]; omega) k) o.2.1 o.2.2 qq⟩
