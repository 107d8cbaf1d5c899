/-! the told town's law moves to where the standing town's law lies -/
theorem rnE_shift {x : Vx} {g g' : Nat → Int32} {m i : Nat} : ∀ {k S}, (∀ j, i ≤ j → j < i + k → g' j = g (m + j)) → rnE x g' i k S = rnE x g (m + i) k S
  | 0, _, _ => rfl
  | k + 1, S, h => by
    show stepE x (g' (i + k)) (rnE x g' i k S) = stepE x (g (m + i + k)) (rnE x g (m + i) k S)
    rw [rnE_shift (fun j h1 h2 => h j h1 (by omega)), h (i + k) (by omega) (by omega), Nat.add_assoc]
theorem lkS_shift {g g' : Nat → Int32} {m c d : Nat} {o : Nat → Bool} {E : Vx → Int32} (h : LkS 0 g m (m + c) d o E) (e : ∀ j, j < c → g' j = g (m + j)) : LkS 0 g' 0 c d o E := by
  have r : ∀ x k S, k ≤ c → rnE x g' 0 k S = rnE x g m k S := fun x k S hk => rnE_shift (m := m) (i := 0) (fun j _ h2 => e j (by omega))
  have q : m + c - m = c := by omega
  obtain ⟨h1, h2⟩ := h
  have h1 : L0Sem g m (m + c) d o E := h1
  have t1 : L0Sem g' 0 c d o E := fun x f a1 a2 a3 a4 a5 a6 => by
    obtain ⟨f', b1, b2, b3⟩ := h1 x f a1 a2 a3 a4 a5 a6
    rw [q] at b1
    exact ⟨f', by rw [Nat.sub_zero, r x c _ (Nat.le_refl _)]; exact b1, b2, b3⟩
  refine ⟨t1, fun x f hf => ?_⟩
  obtain ⟨p1, p2, p3⟩ := h2 x f hf
  rw [q] at p1 p2 p3
  refine ⟨fun i hi => ?_, ?_, ?_⟩
  · rw [Nat.sub_zero] at hi
    rw [r x i _ hi, Nat.zero_add, Nat.sub_zero]
    refine ⟨(p1 i hi).1, fun z => ?_⟩
    rw [e i z]
    exact (p1 i hi).2 z
  · rw [Nat.sub_zero, r x c _ (Nat.le_refl _)]; exact p2
  · rw [Nat.sub_zero, r x c _ (Nat.le_refl _)]; exact p3
theorem lwT_B {σ μ : Mm} {t : Nat} (h : LwT σ μ t) : ∃ E, ∀ υ : Mm, (∀ k, k < 1000 → gI υ 14 k = gI μ 14 (1000 + k)) → gI υ 12 0 = gI μ 12 1 - 1000 → gI υ 13 0 = gI μ 13 1 - 1000 → LwB σ υ t E := by
  obtain ⟨h1, h2⟩ := h
  have z : nI 1000 - 1000 = nI 0 := by decide
  rcases h2 with ⟨a, b, _⟩ | ⟨len, c, E, a1, a2, a3, a4, a5, a6, a7, a8⟩
  · exact ⟨_, fun υ e14 e12 e13 => Or.inl ⟨a, by rw [e12, e13, h1, b], rfl⟩⟩
  · refine ⟨E, fun υ e14 e12 e13 => Or.inr ⟨len, 0, c - 1000, a1, a2, a3, by rw [e12, h1, z], ?_, by omega, by omega, a7, ?_⟩⟩
    · rw [e13, a4, show (1000 : Int32) = nI 1000 from rfl, pk_sub (by omega)]
    · rw [show c = 1000 + (c - 1000) by omega] at a8
      exact lkS_shift a8 (fun j hj => e14 j (by omega))
/-- the reference's rows that stand are alike -/
def Rw0 (μ ν : Mm) : Prop := (∀ a, 2 ≤ a → a ≤ 14 → ∀ k, k < r0M a → gI ν a k = gI μ a k) ∧ ∀ k, k < 36 → gI ν 27 k = gI μ 27 k
def TMr (μ : Mm) (T : Tw) : Prop := ∀ ν, Rw0 μ ν → TM ν T
theorem Rw0.rf {μ : Mm} : Rw0 μ μ := ⟨fun _ _ _ _ _ => rfl, fun _ _ => rfl⟩
theorem Rw0.tr {μ ν ξ : Mm} (h : Rw0 μ ν) (g : Rw0 ν ξ) : Rw0 μ ξ := ⟨fun a h1 h2 k hk => (g.1 a h1 h2 k hk).trans (h.1 a h1 h2 k hk), fun k hk => (g.2 k hk).trans (h.2 k hk)⟩
theorem TMr.tm {μ : Mm} {T : Tw} (h : TMr μ T) : TM μ T := h μ Rw0.rf
theorem TMr.fr {μ ν : Mm} {T : Tw} (h : TMr μ T) (r : Rw0 μ ν) : TMr ν T := fun ξ g => h ξ (r.tr g)
