def WV (τ : Mm) (t P b : Nat) (ln : Nat → Nat → Option Nat) (D : Nat → Nat → Nat) (x m : Nat) : Prop := gI τ (t + 13) (6 * x + b) = (if D x b ≤ m then nI (D x b) else -1) ∧ gI τ (t + 14) (6 * x + b) = (if D x b ≤ m then oI (nxL ln D P x b) else -1)
theorem WV.e {τ : Mm} {t P b : Nat} {ln : Nat → Nat → Option Nat} {D : Nat → Nat → Nat} {x m m' : Nat} (h : WV τ t P b ln D x m) (e : m = m') : WV τ t P b ln D x m' := by rw [← e]; exact h
theorem s_waysOf {σ τ : Mm} {t P b L : Nat} {ln : Nat → Nat → Option Nat} {D : Nat → Nat → Nat} (h : WyH σ t P ln D) (o : Off [t + 13, t + 14] σ τ) (hb : b < P) (hL : 0 < L) (hL6 : L < 7) (w : WQ τ t P b ln D (fun _ => L - 1)) : ∃ τ', f_X9_findWaysOfLength t (nI L) (nI b) τ = some (0, τ') ∧ Off [t + 13, t + 14] σ τ' ∧ WQ τ' t P b ln D (fun _ => L) ∧ ∀ a x c, c < 6 → c ≠ b → gI τ' a (6 * x + c) = gI τ a (6 * x + c) := by
  have hh := h
  obtain ⟨ht, h6, hP, hln, l8, lp, ds, h99⟩ := h
  unfold f_X9_findWaysOfLength
  rw [ck_t ht, jn_e2]
  have q := lq2_inv (F := F_X9_findWaysOfLength_2 t (nI L) (nI b) (fun σ_68 => some (0, σ_68))) (fun i => nI i) (fun i c => Off [t + 13, t + 14] σ c ∧ WQ c t P b ln D (fun x => if x < i then L else L - 1) ∧ ∀ a x e, e < 6 → e ≠ b → gI c a (6 * x + e) = gI τ a (6 * x + e)) P (fun σ_68 => some (0, σ_68)) ?_ ?_ (n := 1000000) (b0 := τ) ⟨o, fun x hx => WV.e (m := L - 1) (w x hx) (if_neg (Nat.not_lt_zero x)).symm, fun _ _ _ _ _ => rfl⟩ (by omega)
  · obtain ⟨c, ⟨c1, c2, c3⟩, e⟩ := q
    exact ⟨c, e, c1, fun x hx => WV.e (m := if x < P then L else L - 1) (c2 x hx) (if_pos hx), c3⟩
  · intro rec i c hi hc
    obtain ⟨c1, c2, c3⟩ := hc
    have hPc : gI c t 0 = nI P := by rw [c1.1 t (by simp)]; exact hP
    have k1 : nI i < gI c t 0 := by rw [hPc]; exact nI_lt hi (by omega)
    have wi : WV c t P b ln D i (L - 1) := WV.e (m := if i < i then L else L - 1) (c2 i hi) (if_neg (Nat.lt_irrefl i))
    unfold WV at wi
    have d9 := h99 i b (by omega) (by omega)
    have grow : ∀ (c' : Mm), (∀ x, x ≠ i → gI c' (t + 13) (6 * x + b) = gI c (t + 13) (6 * x + b) ∧ gI c' (t + 14) (6 * x + b) = gI c (t + 14) (6 * x + b)) → (gI c' (t + 13) (6 * i + b) = (if D i b ≤ L then nI (D i b) else -1) ∧ gI c' (t + 14) (6 * i + b) = (if D i b ≤ L then oI (nxL ln D P i b) else -1)) → WQ c' t P b ln D (fun x => if x < i + 1 then L else L - 1) := fun c' g1 g2 x hx => by
      by_cases z : x = i
      · subst z; exact WV.e (m := L) g2 (if_pos (Nat.lt_succ_self x)).symm
      · have v : WV c t P b ln D x (if x < i then L else L - 1) := c2 x hx
        have v2 : WV c t P b ln D x (if x < i + 1 then L else L - 1) := by
          by_cases y : x < i
          · rw [if_pos y] at v; rw [if_pos (by omega)]; exact v
          · rw [if_neg y] at v; rw [if_neg (by omega)]; exact v
        unfold WV at v2
        rw [(g1 x z).1, (g1 x z).2]
        exact v2
    have hd : ∀ rec, F_X9_findWaysOfLength_2 t (nI L) (nI b) (fun σ_68 => some (0, σ_68)) rec (nI i) c = (if gI c (t + 13) (6 * i + b) = -1 then cl (f_X9_laneNearer t (nI i) (nI b) (nI (L - 1)) c) (fun r26 _ => if r26 = -1 then rec (nI (i + 1)) c else rec (nI (i + 1)) (pI (pI c (t + 13) (6 * i + b) (nI L)) (t + 14) (6 * i + b) r26)) else rec (nI (i + 1)) c) := fun rec => by
      unfold F_X9_findWaysOfLength_2
      simp only [if_pos k1, cl_of _ (s_way ht hPc h6 hi hb), jn_e2, nI_1, show nI L - 1 = nI (L - 1) by rw [show (1 : Int32) = nI 1 from rfl, pk_sub (by omega)], show nI i * 6 + nI b = nI (6 * i + b) by rw [show (6 : Int32) = nI 6 from rfl, pk_mul, nI_add, Nat.mul_comm], ck_t (inb_nI (show 6 * i + b < 36 by omega) (by omega)), nI_tn (show 6 * i + b < 2147483648 by omega), bn_e]
    by_cases z : D i b ≤ L - 1
    · rw [if_pos z, if_pos z] at wi
      refine ⟨c, ⟨c1, grow c (fun x _ => ⟨rfl, rfl⟩) ?_, c3⟩, ?_⟩
      · rw [if_pos (by omega), if_pos (by omega)]; exact wi
      · rw [hd, wi.1, if_neg (nI_ne _ (by omega))]
    · rw [if_neg z, if_neg z] at wi
      have ne := s_nearer (x := i) (L := L) hh c1 hb hi hL hL6 c2 (fun y => by show L - 1 ≤ (if y < i then L else L - 1); split <;> omega)
      have nx := nx_iff (x := i) (L := L) hh hb hi hL hL6 (by omega)
      by_cases y : D i b = L
      · obtain ⟨v, k, n1, n2, n3⟩ := nx.1 y
        have k8 := l8 _ _ k n3
        rw [n1] at ne
        have ne : f_X9_laneNearer t (nI i) (nI b) (nI (L - 1)) c = some (oI (ln i v), c) := ne
        rw [n3, oI_some] at ne
        refine ⟨pI (pI c (t + 13) (6 * i + b) (nI L)) (t + 14) (6 * i + b) (nI k), ⟨c1.tr ((Off.pI (by simp)).tr (Off.pI (by simp))), grow _ (fun x hx => ⟨?_, ?_⟩) ⟨?_, ?_⟩, fun a x e he hne => ?_⟩, ?_⟩
        · rw [gI_pI_n (Or.inl (by omega)), gI_pI_n (Or.inr (by omega))]
        · rw [gI_pI_n (Or.inr (by omega)), gI_pI_n (Or.inl (by omega))]
        · rw [gI_pI_n (Or.inl (by omega)), gI_pI_s, if_pos (by omega), y]
        · rw [gI_pI_s, if_pos (by omega)]
          unfold nxL
          rw [n2]
          show _ = oI (ln i v)
          rw [n3]; rfl
        · rw [gI_pI_n (Or.inr (by omega)), gI_pI_n (Or.inr (by omega))]; exact c3 a x e he hne
        · rw [hd, wi.1, if_pos rfl, cl_of _ ne, if_neg (nI_ne k (by omega))]
      · rw [nx.2 y] at ne
        have ne : f_X9_laneNearer t (nI i) (nI b) (nI (L - 1)) c = some (-1, c) := ne
        refine ⟨c, ⟨c1, grow c (fun x _ => ⟨rfl, rfl⟩) ?_, c3⟩, ?_⟩
        · rw [if_neg (by omega), if_neg (by omega)]; exact wi
        · rw [hd, wi.1, if_pos rfl, cl_of _ ne, if_pos rfl]
  · intro rec c hc
    have hPc : gI c t 0 = nI P := by rw [hc.1.1 t (by simp)]; exact hP
    unfold F_X9_findWaysOfLength_2
    rw [hPc, if_neg (fun z => Int32.lt_irrefl z)]
