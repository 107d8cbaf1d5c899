/-! ways: walks over lanes, and the shortest of them -/
def Wk (adj : Nat → Nat → Prop) : Nat → Nat → Nat → Prop
  | 0, a, b => a = b
  | n + 1, a, b => ∃ c, adj a c ∧ Wk adj n c b
/-- a walk that steps only on places below k on its way -/
def Wi (adj : Nat → Nat → Prop) (k : Nat) : Nat → Nat → Nat → Prop
  | 0, a, b => a = b
  | n + 1, a, b => ∃ c, adj a c ∧ (c < k ∨ n = 0) ∧ Wi adj k n c b
theorem wi_split {adj : Nat → Nat → Prop} {k : Nat} : ∀ {L a b}, Wi adj (k + 1) L a b → Wi adj k L a b ∨ ∃ L1 L2, L1 + L2 = L ∧ 0 < L1 ∧ Wi adj k L1 a k ∧ Wi adj (k + 1) L2 k b
  | 0, a, b, h => Or.inl h
  | L + 1, a, b, ⟨c, h1, h2, h3⟩ => by
    by_cases z : L = 0
    · subst z
      exact Or.inl ⟨c, h1, Or.inr rfl, h3⟩
    · have hc : c < k + 1 := h2.resolve_right z
      by_cases y : c = k
      · subst y
        exact Or.inr ⟨1, L, by omega, by omega, ⟨c, h1, Or.inr rfl, rfl⟩, h3⟩
      · rcases wi_split h3 with q | ⟨L1, L2, q1, q2, q3, q4⟩
        · exact Or.inl ⟨c, h1, Or.inl (by omega), q⟩
        · exact Or.inr ⟨L1 + 1, L2, by omega, by omega, ⟨c, h1, Or.inl (by omega), q3⟩, q4⟩
theorem wi_last {adj : Nat → Nat → Prop} {k b : Nat} : ∀ N L, L ≤ N → Wi adj (k + 1) L k b → ∃ L3, L3 ≤ L ∧ Wi adj k L3 k b := by
  intro N
  induction N with
  | zero =>
    intro L hL h
    have : L = 0 := by omega
    subst this
    exact ⟨0, Nat.le_refl _, h⟩
  | succ N ih =>
    intro L hL h
    rcases wi_split h with q | ⟨L1, L2, q1, q2, q3, q4⟩
    · exact ⟨L, Nat.le_refl _, q⟩
    · obtain ⟨L3, w1, w2⟩ := ih L2 (by omega) q4
      exact ⟨L3, by omega, w2⟩
theorem wk_wi {adj : Nat → Nat → Prop} {k : Nat} (hk : ∀ a b, adj a b → b < k) : ∀ {L a b}, Wk adj L a b → Wi adj k L a b
  | 0, _, _, h => h
  | _ + 1, _, _, ⟨c, h1, h2⟩ => ⟨c, h1, Or.inl (hk _ _ h1), wk_wi hk h2⟩
def CmpW (adj : Nat → Nat → Prop) (k : Nat) (D : Nat → Nat → Nat) : Prop := ∀ L a b, a < 6 → b < 6 → Wi adj k L a b → D a b ≤ L
theorem cmp_0 {adj : Nat → Nat → Prop} {D : Nat → Nat → Nat} (h0 : ∀ a, a < 6 → D a a = 0) (h1 : ∀ a b, a < 6 → b < 6 → adj a b → D a b ≤ 1) : CmpW adj 0 D := by
  intro L a b ha hb h
  cases L with
  | zero =>
    have : a = b := h
    subst this
    rw [h0 a ha]; exact Nat.le_refl _
  | succ L =>
    obtain ⟨c, q1, q2, q3⟩ := h
    have : L = 0 := q2.resolve_left (by omega)
    subst this
    have : c = b := q3
    subst this
    have := h1 a c ha hb q1
    omega
theorem cmp_s {adj : Nat → Nat → Prop} {k : Nat} {D D' : Nat → Nat → Nat} (hk : k < 6) (h : CmpW adj k D) (h1 : ∀ a b, a < 6 → b < 6 → D' a b ≤ D a b) (h2 : ∀ a b, a < 6 → b < 6 → D' a b ≤ D a k + D k b) : CmpW adj (k + 1) D' := by
  intro L a b ha hb w
  rcases wi_split w with q | ⟨L1, L2, q1, q2, q3, q4⟩
  · have := h L a b ha hb q
    have := h1 a b ha hb
    omega
  · obtain ⟨L3, w1, w2⟩ := wi_last L2 L2 (Nat.le_refl _) q4
    have a1 := h L1 a k ha hk q3
    have a2 := h L3 k b hk hb w2
    have := h2 a b ha hb
    omega
theorem wk_cat {adj : Nat → Nat → Prop} : ∀ {L1 L2 a b c}, Wk adj L1 a b → Wk adj L2 b c → Wk adj (L1 + L2) a c
  | 0, L2, a, b, c, h, g => by have : a = b := h; subst this; rw [Nat.zero_add]; exact g
  | L1 + 1, L2, a, b, c, ⟨d, h1, h2⟩, g => by
    rw [Nat.add_right_comm]
    exact ⟨d, h1, wk_cat h2 g⟩
/-- holes and doves -/
theorem pigeon : ∀ (P m : Nat) (f : Nat → Nat), (∀ v, v ≤ m → f v < P) → (∀ u v, u ≤ m → v ≤ m → f u = f v → u = v) → m < P
  | 0, m, f, h, _ => absurd (h 0 (Nat.zero_le _)) (Nat.not_lt_zero _)
  | P + 1, 0, f, _, _ => Nat.succ_pos P
  | P + 1, m + 1, f, h, hi => by
    have key := pigeon P m (fun v => if f v = P then f (m + 1) else f v) (fun v hv => by
      show (if f v = P then f (m + 1) else f v) < P
      by_cases z : f v = P
      · rw [if_pos z]
        have a := h (m + 1) (Nat.le_refl _)
        have b : f (m + 1) ≠ P := fun e => by have := hi v (m + 1) (by omega) (Nat.le_refl _) (by rw [z, e]); omega
        omega
      · rw [if_neg z]; have := h v (by omega); omega) (fun u v hu hv e => by
      have e : (if f u = P then f (m + 1) else f u) = (if f v = P then f (m + 1) else f v) := e
      by_cases z : f u = P
      · rw [if_pos z] at e
        by_cases y : f v = P
        · exact hi u v (by omega) (by omega) (by rw [z, y])
        · rw [if_neg y] at e
          have := hi (m + 1) v (Nat.le_refl _) (by omega) e
          omega
      · rw [if_neg z] at e
        by_cases y : f v = P
        · rw [if_pos y] at e
          have := hi u (m + 1) (by omega) (Nat.le_refl _) e
          omega
        · rw [if_neg y] at e
          exact hi u v (by omega) (by omega) e)
    omega
/-- lengths of shortest ways: what both sides must agree on -/
def Dst (adj : Nat → Nat → Prop) (P : Nat) (D : Nat → Nat → Nat) : Prop := (∀ a, a < P → D a a = 0) ∧ (∀ a b, a < P → b < P → D a b < 99 → Wk adj (D a b) a b) ∧ (∀ a b L, a < P → b < P → Wk adj L a b → D a b ≤ L)
theorem Dst.step {adj : Nat → Nat → Prop} {P : Nat} {D : Nat → Nat → Nat} (h : Dst adj P D) (ha : ∀ a b, adj a b → a < P ∧ b < P) {a b m : Nat} (h1 : a < P) (h2 : b < P) (hm : D a b = m + 1) (h9 : m + 1 < 99) : ∃ c, adj a c ∧ c < P ∧ D c b = m := by
  have w := h.2.1 a b h1 h2 (by omega)
  rw [hm] at w
  obtain ⟨c, q1, q2⟩ := w
  have hc := (ha _ _ q1).2
  have u := h.2.2 c b m hc h2 q2
  refine ⟨c, q1, hc, ?_⟩
  have v := h.2.2 a b (D c b + 1) h1 h2 ⟨c, q1, h.2.1 c b hc h2 (by omega)⟩
  omega
theorem Dst.tri {adj : Nat → Nat → Prop} {P : Nat} {D : Nat → Nat → Nat} (h : Dst adj P D) (ha : ∀ a b, adj a b → a < P ∧ b < P) {a b c : Nat} (h2 : b < P) (h1 : adj a c) (h9 : D c b < 99) : D a b ≤ D c b + 1 := h.2.2 a b _ (ha _ _ h1).1 h2 ⟨c, h1, h.2.1 c b (ha _ _ h1).2 h2 h9⟩
theorem Dst.all {adj : Nat → Nat → Prop} {P : Nat} {D : Nat → Nat → Nat} (h : Dst adj P D) (ha : ∀ a b, adj a b → a < P ∧ b < P) {b : Nat} (h2 : b < P) : ∀ m a, a < P → D a b = m → m < 99 → ∀ v, v ≤ m → ∃ x, x < P ∧ D x b = v := by
  intro m
  induction m with
  | zero => intro a h1 hm _ v hv; exact ⟨a, h1, by omega⟩
  | succ m ih =>
    intro a h1 hm h9 v hv
    by_cases z : v = m + 1
    · exact ⟨a, h1, by omega⟩
    · obtain ⟨c, _, q1, q2⟩ := h.step ha h1 h2 hm h9
      exact ih c q1 q2 (by omega) v (by omega)
theorem Dst.short {adj : Nat → Nat → Prop} {P : Nat} {D : Nat → Nat → Nat} (h : Dst adj P D) (ha : ∀ a b, adj a b → a < P ∧ b < P) {a b : Nat} (h1 : a < P) (h2 : b < P) (h9 : D a b < 99) : D a b < P := by
  have al := h.all ha h2 (D a b) a h1 rfl h9
  refine pigeon P (D a b) (fun v => if hv : v ≤ D a b then (al v hv).choose else 0) (fun v hv => ?_) (fun u v hu hv e => ?_)
  · show (if hv : v ≤ D a b then (al v hv).choose else 0) < P
    rw [dif_pos hv]; exact (al v hv).choose_spec.1
  · have e : (if hv : u ≤ D a b then (al u hv).choose else 0) = (if hv : v ≤ D a b then (al v hv).choose else 0) := e
    rw [dif_pos hu, dif_pos hv] at e
    have p := (al u hu).choose_spec.2
    have q := (al v hv).choose_spec.2
    rw [e] at p
    omega
