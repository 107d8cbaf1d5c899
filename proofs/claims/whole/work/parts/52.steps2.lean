theorem nights_apart {n m : Nat} (hn : isNight n = true) (hm : isNight m = true) (h : n ≠ m) : n + 7 ≤ m ∨ m + 7 ≤ n := by
  have hn : n ∈ ([6, 15, 22, 29, 36, 43, 50, 57, 64, 71, 78, 85, 92, 99, 106, 113, 120, 133, 149, 165, 181, 197] : List Nat) := List.contains_iff_mem.mp hn
  have hm : m ∈ ([6, 15, 22, 29, 36, 43, 50, 57, 64, 71, 78, 85, 92, 99, 106, 113, 120, 133, 149, 165, 181, 197] : List Nat) := List.contains_iff_mem.mp hm
  have key : ∀ a ∈ ([6, 15, 22, 29, 36, 43, 50, 57, 64, 71, 78, 85, 92, 99, 106, 113, 120, 133, 149, 165, 181, 197] : List Nat), ∀ b ∈ ([6, 15, 22, 29, 36, 43, 50, 57, 64, 71, 78, 85, 92, 99, 106, 113, 120, 133, 149, 165, 181, 197] : List Nat), a ≠ b → a + 7 ≤ b ∨ b + 7 ≤ a := by decide
  exact key n hn m hm h
theorem Off.pC {S : List Nat} {σ : Mm} {s sp d dp n : Nat} (h : d ∈ S) : Off S σ (pC σ s sp d dp n) := ⟨fun b hb j => by rw [gI_pC, if_neg (fun q => hb (by rw [q.1]; exact h))], fun _ _ => rfl, fun _ _ => rfl⟩
theorem gI_pC_n {σ : Mm} {s sp d dp n b j : Nat} (h : b ≠ d) : gI (pC σ s sp d dp n) b j = gI σ b j := by rw [gI_pC, if_neg (fun q => h q.1)]
theorem gI_pC_s {σ : Mm} {s d n j : Nat} (h : j < n) : gI (pC σ s 0 d 0 n) d j = gI σ s j := by rw [gI_pC, if_pos ⟨rfl, Nat.zero_le _, by omega⟩]; congr 1; omega
theorem RC.off {σ τ : Mm} {n W : Nat} {N : Nt} {S : List Nat} (r : RC σ n W N) (o : Off S σ τ) (hs : ∀ a, a ∈ S → a < n ∨ n + 5 < a) : RC τ n W N := by
  obtain ⟨r1, r2, r3, r4, r5, r6⟩ := r
  have q : ∀ j, j ≤ 5 → ∀ k, gI τ (n + j) k = gI σ (n + j) k := fun j hj k => o.1 _ (fun hm => by have := hs _ hm; omega) k
  have q0 : ∀ k, gI τ n k = gI σ n k := fun k => q 0 (by omega) k
  refine ⟨r1, by rw [q0]; exact r2, by rw [q0]; exact r3, by rw [q0]; exact r4, fun k hk => by rw [q 1 (by omega)]; exact r5 k hk, fun w hw => ?_⟩
  rw [q 2 (by omega), q 3 (by omega), q 4 (by omega), q 5 (by omega)]
  exact r6 w hw
/-- a night is written over another -/
theorem s_copyFrom {σ : Mm} {n m W : Nat} {N : Nt} (hn : isNight n = true) (h : n ≠ m) (hW : W ≤ 6) (r : RC σ m W N) :
    ∃ τ, f_X4_copyFrom n m σ = some (0, τ) ∧ RC τ n W N ∧ Off [n, n + 1, n + 2, n + 3, n + 4, n + 5] σ τ ∧ (∀ j, 3 ≤ j → gI τ n j = gI σ n j) := by
  obtain ⟨r1, r2, r3, r4, r5, r6⟩ := id r
  have ap := nights_apart hn r1 h
  unfold f_X4_copyFrom
  simp only [ck_t hn, ck_t r1, bn_e]
  refine ⟨_, rfl, ⟨hn, ?_, ?_, ?_, fun j hj => ?_, fun w hw => ⟨?_, ?_, ?_, ?_⟩⟩, ?_, fun j hj => ?_⟩
  · rw [gI_pC_n (by omega), gI_pC_n (by omega), gI_pC_n (by omega), gI_pC_n (by omega), gI_pC_n (by omega), gI_pI_n (Or.inr (by decide)), gI_pI_n (Or.inr (by decide)), gI_pI_s]; exact r2
  · rw [gI_pC_n (by omega), gI_pC_n (by omega), gI_pC_n (by omega), gI_pC_n (by omega), gI_pC_n (by omega), gI_pI_n (Or.inr (by decide)), gI_pI_s, gI_pI_n (Or.inl (by omega))]; exact r3
  · rw [gI_pC_n (by omega), gI_pC_n (by omega), gI_pC_n (by omega), gI_pC_n (by omega), gI_pC_n (by omega), gI_pI_s, gI_pI_n (Or.inl (by omega)), gI_pI_n (Or.inl (by omega))]; exact r4
  · rw [gI_pC_n (by omega), gI_pC_n (by omega), gI_pC_n (by omega), gI_pC_n (by omega), gI_pC_s hj, gI_pI_n (Or.inl (by omega)), gI_pI_n (Or.inl (by omega)), gI_pI_n (Or.inl (by omega))]; exact r5 j hj
  · rw [gI_pC_n (by omega), gI_pC_n (by omega), gI_pC_n (by omega), gI_pC_s (by omega), gI_pC_n (by omega), gI_pI_n (Or.inl (by omega)), gI_pI_n (Or.inl (by omega)), gI_pI_n (Or.inl (by omega))]; exact (r6 w hw).1
  · rw [gI_pC_n (by omega), gI_pC_n (by omega), gI_pC_s (by omega), gI_pC_n (by omega), gI_pC_n (by omega), gI_pI_n (Or.inl (by omega)), gI_pI_n (Or.inl (by omega)), gI_pI_n (Or.inl (by omega))]; exact (r6 w hw).2.1
  · rw [gI_pC_n (by omega), gI_pC_s (by omega), gI_pC_n (by omega), gI_pC_n (by omega), gI_pC_n (by omega), gI_pI_n (Or.inl (by omega)), gI_pI_n (Or.inl (by omega)), gI_pI_n (Or.inl (by omega))]; exact (r6 w hw).2.2.1
  · rw [gI_pC_s (by omega), gI_pC_n (by omega), gI_pC_n (by omega), gI_pC_n (by omega), gI_pC_n (by omega), gI_pI_n (Or.inl (by omega)), gI_pI_n (Or.inl (by omega)), gI_pI_n (Or.inl (by omega))]; exact (r6 w hw).2.2.2
  · exact (Off.pI (by simp)).tr ((Off.pI (by simp)).tr ((Off.pI (by simp)).tr ((Off.pC (by simp)).tr ((Off.pC (by simp)).tr ((Off.pC (by simp)).tr ((Off.pC (by simp)).tr (Off.pC (by simp))))))))
  · rw [gI_pC_n (by omega), gI_pC_n (by omega), gI_pC_n (by omega), gI_pC_n (by omega), gI_pC_n (by omega), gI_pI_n (Or.inr (by omega)), gI_pI_n (Or.inr (by omega)), gI_pI_n (Or.inr (by omega))]
theorem s_begin17 {n : Nat} (σ : Mm) (kx : Mm → Option (Int32 × Mm)) :
    ∃ τ, lq2 (F_X4_begin_17 n kx) 1000000 (0 : Int32) σ = kx τ ∧ Off [n + 1] σ τ ∧ ∀ j, j < 8 → gI τ (n + 1) j = 0 := by
  have q := lq2_inv (F := F_X4_begin_17 n kx) (fun i => nI i) (fun i b => Off [n + 1] σ b ∧ ∀ j, j < i → gI b (n + 1) j = 0) 8 kx ?_ ?_ (n := 1000000) (b0 := σ) ?_ (by omega)
  · obtain ⟨b, hb, e⟩ := q
    exact ⟨b, e, hb.1, hb.2⟩
  · intro rec i b hi hb
    have c1 : nI i < 8 := nI_lt (a := i) (b := 8) hi (by omega)
    refine ⟨pI b (n + 1) i 0, ⟨hb.1.tr (Off.pI (by simp)), fun j hj => ?_⟩, ?_⟩
    · by_cases z : j = i
      · subst z; rw [gI_pI_s]
      · rw [gI_pI_n (Or.inr z)]; exact hb.2 j (by omega)
    · simp only [F_X4_begin_17, if_pos c1, ck_t (inb_nI (show i < 8 by omega) (by omega)), bn_e, nI_tn (show i < 2147483648 by omega), nI_1]
  · intro rec b hb
    have c1 : ¬ nI 8 < 8 := by decide
    simp only [F_X4_begin_17, if_neg c1]
  · exact ⟨Off.rf, fun j hj => absurd hj (Nat.not_lt_zero j)⟩
theorem begin_e (n t : Nat) (σ : Mm) : f_X4_begin n t σ = ck (isNight n) (ck (isTown t) (lq2 (F_X4_begin_17 n (fun σ_36 => lq2 (F_X4_begin_38 n t (fun σ_95 => some (0, σ_95))) 1000000 (0 : Int32) σ_36)) 1000000 (0 : Int32) (pI (pI (pI σ n 0 0) n 1 0) n 2 0))) := by
  unfold f_X4_begin
  simp only [jn_e2, bn_e]
theorem s_begin {σ : Mm} {t n : Nat} {T : Tw} (h : TC σ t T) (hT : TwOk T) (hn : isNight n = true) :
    ∃ τ, f_X4_begin n t σ = some (0, τ) ∧ RC τ n (tW T) (beginN T) ∧ Off [n, n + 1, n + 2, n + 3, n + 4, n + 5] σ τ := by
  have hW := hT.2.2.1
  have tn := town_night h.1 hn
  rw [begin_e, ck_t hn, ck_t h.1]
  obtain ⟨σ1, e1⟩ : ∃ z, z = pI (pI (pI σ n 0 0) n 1 0) n 2 0 := ⟨_, rfl⟩
  rw [← e1]
  have o1 : Off [n] σ σ1 := by rw [e1]; exact (Off.pI (by simp)).tr ((Off.pI (by simp)).tr (Off.pI (by simp)))
  obtain ⟨σ2, l2, o2, f2⟩ := s_begin17 σ1 (fun σ_36 => lq2 (F_X4_begin_38 n t (fun σ_95 => some (0, σ_95))) 1000000 (0 : Int32) σ_36)
  rw [l2]
  have o12 : Off [n, n + 1, n + 2, n + 3, n + 4, n + 5] σ σ2 := (o1.mono (by simp)).tr (o2.mono (by simp))
  have q := lq2_inv (F := F_X4_begin_38 n t (fun σ_95 => some (0, σ_95))) (fun i => nI i) (fun i b => Off [n + 2, n + 3, n + 4, n + 5] σ2 b ∧ ∀ w, w < i → gI b (n + 2) w = nI (tS T w) ∧ gI b (n + 3) w = nI (tG T w) ∧ gI b (n + 4) w = tM T w ∧ gI b (n + 5) w = 0) (tW T) (fun σ_95 => some (0, σ_95)) ?_ ?_ (n := 1000000) (b0 := σ2) ?_ (by omega)
  · obtain ⟨b, hb, e⟩ := q
    have g : ∀ a, a ≠ n + 2 → a ≠ n + 3 → a ≠ n + 4 → a ≠ n + 5 → ∀ j, gI b a j = gI σ2 a j := fun a z1 z2 z3 z4 j => hb.1.1 a (by simp; omega) j
    refine ⟨b, e, ⟨hn, ?_, ?_, ?_, fun k hk => ?_, fun w hw => hb.2 w hw⟩, o12.tr (hb.1.mono (by simp))⟩
    · rw [g n (by omega) (by omega) (by omega) (by omega), o2.1 n (by simp), e1, gI_pI_n (Or.inr (by decide)), gI_pI_n (Or.inr (by decide)), gI_pI_s]; rfl
    · rw [g n (by omega) (by omega) (by omega) (by omega), o2.1 n (by simp), e1, gI_pI_n (Or.inr (by decide)), gI_pI_s]; rfl
    · rw [g n (by omega) (by omega) (by omega) (by omega), o2.1 n (by simp), e1, gI_pI_s]; rfl
    · rw [g (n + 1) (by omega) (by omega) (by omega) (by omega), f2 k hk]; rfl
  · intro rec i b hi hb
    have hTb := h.off (o12.tr (hb.1.mono (by simp))) (fun a ha => by simp only [List.mem_cons, List.not_mem_nil, or_false] at ha; omega)
    have c1 : nI i < gI b t 2 := by rw [hTb.2.2.2.1]; exact nI_lt hi (by omega)
    obtain ⟨w1, w2, w3, w4⟩ := hTb.2.2.2.2.2.2.1 i hi
    have v1 : ∀ x, gI (pI b (n + 2) i x) (t + 11) i = nI (tG T i) := fun x => by rw [gI_pI_n (Or.inl (by omega))]; exact w3
    have v2 : ∀ x y, gI (pI (pI b (n + 2) i x) (n + 3) i y) (t + 12) i = tM T i := fun x y => by rw [gI_pI_n (Or.inl (by omega)), gI_pI_n (Or.inl (by omega))]; exact w4
    refine ⟨pI (pI (pI (pI b (n + 2) i (nI (tS T i))) (n + 3) i (nI (tG T i))) (n + 4) i (tM T i)) (n + 5) i 0, ⟨hb.1.tr ((Off.pI (by simp)).tr ((Off.pI (by simp)).tr ((Off.pI (by simp)).tr (Off.pI (by simp))))), fun w hw => ?_⟩, ?_⟩
    · by_cases z : w = i
      · subst z
        refine ⟨?_, ?_, ?_, ?_⟩
        · rw [gI_pI_n (Or.inl (by omega)), gI_pI_n (Or.inl (by omega)), gI_pI_n (Or.inl (by omega)), gI_pI_s]
        · rw [gI_pI_n (Or.inl (by omega)), gI_pI_n (Or.inl (by omega)), gI_pI_s]
        · rw [gI_pI_n (Or.inl (by omega)), gI_pI_s]
        · rw [gI_pI_s]
      · have u : ∀ a x1 x2 x3 x4, gI (pI (pI (pI (pI b (n + 2) i x1) (n + 3) i x2) (n + 4) i x3) (n + 5) i x4) a w = gI b a w := fun a x1 x2 x3 x4 => by rw [gI_pI_n (Or.inr z), gI_pI_n (Or.inr z), gI_pI_n (Or.inr z), gI_pI_n (Or.inr z)]
        rw [u, u, u, u]; exact hb.2 w (by omega)
    · simp only [F_X4_begin_38, if_pos c1, ck_t (inb_nI (show i < 6 by omega) (by omega)), bn_e, nI_tn (show i < 2147483648 by omega), nI_1, w2, v1, v2]
  · intro rec b hb
    have hTb := h.off (o12.tr (hb.1.mono (by simp))) (fun a ha => by simp only [List.mem_cons, List.not_mem_nil, or_false] at ha; omega)
    have c1 : ¬ nI (tW T) < gI b t 2 := by rw [hTb.2.2.2.1]; exact nI_nlt (Nat.le_refl _) (by omega)
    simp only [F_X4_begin_38, if_neg c1]
  · exact ⟨Off.rf, fun w hw => absurd hw (Nat.not_lt_zero w)⟩
