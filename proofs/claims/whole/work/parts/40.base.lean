/-! the images: how they are unfolded -/
theorem bn_e {α β : Type} (v : α) (f : α → β) : bn v f = f v := rfl
theorem jn_e {α β : Type} (K : α) (B : α → β) : jn K B = B K := rfl
theorem ck_t {β : Type} {b : Bool} {E : Option β} (h : b = true) : ck b E = E := by subst h; rfl
theorem ck_T {β : Type} {E : Option β} : ck true E = E := rfl
theorem cl_s {β γ : Type} (r : Int32) (u : γ) (k : Int32 → γ → Option β) : cl (some (r, u)) k = k r u := rfl
theorem cl_of {β γ : Type} {o : Option (Int32 × γ)} {r : Int32} {u : γ} (k : Int32 → γ → Option β) (h : o = some (r, u)) : cl o k = k r u := by subst h; rfl
/-! memory -/
theorem gI_pI (σ : Mm) (a k b j : Nat) (v : Int32) : gI (pI σ a k v) b j = if b = a ∧ j = k then v else gI σ b j := by
  simp only [gI, pI]
  by_cases h : b = a
  · subst h
    by_cases h2 : j = k
    · simp [upd, h2]
    · simp [upd, h2]
  · simp [h]
theorem gI_pI_s (σ : Mm) (a k : Nat) (v : Int32) : gI (pI σ a k v) a k = v := by simp [gI_pI]
theorem gI_pI_n {σ : Mm} {a k b j : Nat} {v : Int32} (h : b ≠ a ∨ j ≠ k) : gI (pI σ a k v) b j = gI σ b j := by
  rw [gI_pI, if_neg]
  rintro ⟨h1, h2⟩
  rcases h with h | h
  · exact h h1
  · exact h h2
theorem gL_pL (σ : Mm) (a k b j : Nat) (v : Int64) : gL (pL σ a k v) b j = if b = a ∧ j = k then v else gL σ b j := by
  simp only [gL, pL]
  by_cases h : b = a
  · subst h
    by_cases h2 : j = k
    · simp [vp_updL, h2]
    · simp [vp_updL, h2]
  · simp [h]
theorem gR_pR (σ : Mm) (a k b j : Nat) (v : Nat) : gR (pR σ a k v) b j = if b = a ∧ j = k then v else gR σ b j := by
  simp only [gR, pR]
  by_cases h : b = a
  · subst h
    by_cases h2 : j = k
    · simp [h2]
    · simp [h2]
  · simp [h]
theorem gI_pL (σ : Mm) (a k b j : Nat) (v : Int64) : gI (pL σ a k v) b j = gI σ b j := rfl
theorem gI_pR (σ : Mm) (a k b j : Nat) (v : Nat) : gI (pR σ a k v) b j = gI σ b j := rfl
theorem gL_pI (σ : Mm) (a k b j : Nat) (v : Int32) : gL (pI σ a k v) b j = gL σ b j := rfl
theorem gL_pR (σ : Mm) (a k b j : Nat) (v : Nat) : gL (pR σ a k v) b j = gL σ b j := rfl
theorem gR_pI (σ : Mm) (a k b j : Nat) (v : Int32) : gR (pI σ a k v) b j = gR σ b j := rfl
theorem gR_pL (σ : Mm) (a k b j : Nat) (v : Int64) : gR (pL σ a k v) b j = gR σ b j := rfl
theorem gI_pC (σ : Mm) (src sp dst dp n b j : Nat) : gI (pC σ src sp dst dp n) b j = if b = dst ∧ dp ≤ j ∧ j < dp + n then gI σ src (sp + (j - dp)) else gI σ b j := by
  simp only [gI, pC]
  by_cases h : b = dst
  · subst h
    simp [va_cpy]
  · simp [h]
theorem gL_pC (σ : Mm) (src sp dst dp n b j : Nat) : gL (pC σ src sp dst dp n) b j = gL σ b j := rfl
theorem gR_pC (σ : Mm) (src sp dst dp n b j : Nat) : gR (pC σ src sp dst dp n) b j = gR σ b j := rfl
/-- two memories that hold the same are one -/
theorem Mm_ext {σ τ : Mm} (h1 : ∀ a k, gI σ a k = gI τ a k) (h2 : ∀ a k, gL σ a k = gL τ a k) (h3 : ∀ a k, gR σ a k = gR τ a k) : σ = τ := by
  obtain ⟨i, l, r⟩ := σ
  obtain ⟨i', l', r'⟩ := τ
  have e1 : i = i' := by funext a k; exact h1 a k
  have e2 : l = l' := by funext a k; exact h2 a k
  have e3 : r = r' := by funext a k; exact h3 a k
  subst e1; subst e2; subst e3; rfl
/-! numbers -/
theorem nI_tn {n : Nat} (h : n < 2147483648) : (nI n).toNatClampNeg = n := nI_clamp h
theorem inb_nI {n N : Nat} (h : n < N) (hN : N < 2147483648) : inb (nI n) N = true := by
  have := vp_in_nI h hN
  simpa [inb, vp_in] using this
theorem inb_iff {x : Int32} {N : Nat} : inb x N = true ↔ 0 ≤ x.toInt ∧ x.toInt < N := by
  rw [← vp_in_iff]
  simp [inb, vp_in]
theorem inb_nat {x : Int32} {N : Nat} (h : inb x N = true) (hN : N < 2147483648) : ∃ n, n < N ∧ x = nI n := by
  have h2 := inb_in h
  exact vp_in_of h2 hN
/-! loops: the states that a loop goes through, and its end -/
theorem lq1_run {α ω : Type} {F : (α → Option ω) → α → Option ω} (s1 : Nat → α) (M : Nat) (out : Option ω) (hs : ∀ rec i, i < M → F rec (s1 i) = rec (s1 (i + 1))) (hx : ∀ rec, F rec (s1 M) = out) {n : Nat} (hn : M < n) : lq1 F n (s1 0) = out := by
  have key : ∀ d i n, i + d = M → d < n → lq1 F n (s1 i) = out := by
    intro d
    induction d with
    | zero =>
      intro i n hi hn
      obtain ⟨n, rfl⟩ : ∃ k, n = k + 1 := ⟨n - 1, by omega⟩
      have : i = M := by omega
      subst this
      exact hx _
    | succ d ih =>
      intro i n hi hn
      obtain ⟨n, rfl⟩ : ∃ k, n = k + 1 := ⟨n - 1, by omega⟩
      show F (lq1 F n) (s1 i) = out
      rw [hs _ i (by omega)]
      exact ih (i + 1) n (by omega) (by omega)
  exact key M 0 n (by omega) hn
theorem lq2_run {α β ω : Type} {F : (α → β → Option ω) → α → β → Option ω} (s1 : Nat → α) (s2 : Nat → β) (M : Nat) (out : Option ω) (hs : ∀ rec i, i < M → F rec (s1 i) (s2 i) = rec (s1 (i + 1)) (s2 (i + 1))) (hx : ∀ rec, F rec (s1 M) (s2 M) = out) {n : Nat} (hn : M < n) : lq2 F n (s1 0) (s2 0) = out := by
  have key : ∀ d i n, i + d = M → d < n → lq2 F n (s1 i) (s2 i) = out := by
    intro d
    induction d with
    | zero =>
      intro i n hi hn
      obtain ⟨n, rfl⟩ : ∃ k, n = k + 1 := ⟨n - 1, by omega⟩
      have : i = M := by omega
      subst this
      exact hx _
    | succ d ih =>
      intro i n hi hn
      obtain ⟨n, rfl⟩ : ∃ k, n = k + 1 := ⟨n - 1, by omega⟩
      show F (lq2 F n) (s1 i) (s2 i) = out
      rw [hs _ i (by omega)]
      exact ih (i + 1) n (by omega) (by omega)
  exact key M 0 n (by omega) hn
theorem lq3_run {α β γ ω : Type} {F : (α → β → γ → Option ω) → α → β → γ → Option ω} (s1 : Nat → α) (s2 : Nat → β) (s3 : Nat → γ) (M : Nat) (out : Option ω) (hs : ∀ rec i, i < M → F rec (s1 i) (s2 i) (s3 i) = rec (s1 (i + 1)) (s2 (i + 1)) (s3 (i + 1))) (hx : ∀ rec, F rec (s1 M) (s2 M) (s3 M) = out) {n : Nat} (hn : M < n) : lq3 F n (s1 0) (s2 0) (s3 0) = out := by
  have key : ∀ d i n, i + d = M → d < n → lq3 F n (s1 i) (s2 i) (s3 i) = out := by
    intro d
    induction d with
    | zero =>
      intro i n hi hn
      obtain ⟨n, rfl⟩ : ∃ k, n = k + 1 := ⟨n - 1, by omega⟩
      have : i = M := by omega
      subst this
      exact hx _
    | succ d ih =>
      intro i n hi hn
      obtain ⟨n, rfl⟩ : ∃ k, n = k + 1 := ⟨n - 1, by omega⟩
      show F (lq3 F n) (s1 i) (s2 i) (s3 i) = out
      rw [hs _ i (by omega)]
      exact ih (i + 1) n (by omega) (by omega)
  exact key M 0 n (by omega) hn
theorem lq4_run {α β γ δ ω : Type} {F : (α → β → γ → δ → Option ω) → α → β → γ → δ → Option ω} (s1 : Nat → α) (s2 : Nat → β) (s3 : Nat → γ) (s4 : Nat → δ) (M : Nat) (out : Option ω) (hs : ∀ rec i, i < M → F rec (s1 i) (s2 i) (s3 i) (s4 i) = rec (s1 (i + 1)) (s2 (i + 1)) (s3 (i + 1)) (s4 (i + 1))) (hx : ∀ rec, F rec (s1 M) (s2 M) (s3 M) (s4 M) = out) {n : Nat} (hn : M < n) : lq4 F n (s1 0) (s2 0) (s3 0) (s4 0) = out := by
  have key : ∀ d i n, i + d = M → d < n → lq4 F n (s1 i) (s2 i) (s3 i) (s4 i) = out := by
    intro d
    induction d with
    | zero =>
      intro i n hi hn
      obtain ⟨n, rfl⟩ : ∃ k, n = k + 1 := ⟨n - 1, by omega⟩
      have : i = M := by omega
      subst this
      exact hx _
    | succ d ih =>
      intro i n hi hn
      obtain ⟨n, rfl⟩ : ∃ k, n = k + 1 := ⟨n - 1, by omega⟩
      show F (lq4 F n) (s1 i) (s2 i) (s3 i) (s4 i) = out
      rw [hs _ i (by omega)]
      exact ih (i + 1) n (by omega) (by omega)
  exact key M 0 n (by omega) hn
/-! a first place with a property -/
def fst1 (p : Nat → Bool) : Nat → Nat → Option Nat
  | _, 0 => none
  | i, d + 1 => if p i then some i else fst1 p (i + 1) d
theorem fst1_some {p : Nat → Bool} : ∀ {d i k : Nat}, fst1 p i d = some k → i ≤ k ∧ k < i + d ∧ p k = true ∧ ∀ j, i ≤ j → j < k → p j = false := by
  intro d
  induction d with
  | zero => intro i k h; cases h
  | succ d ih =>
    intro i k h
    simp only [fst1] at h
    by_cases hp : p i = true
    · simp only [hp, if_true, Option.some.injEq] at h
      subst h
      exact ⟨Nat.le_refl _, by omega, hp, fun j h1 h2 => by omega⟩
    · simp only [hp] at h
      obtain ⟨h1, h2, h3, h4⟩ := ih h
      refine ⟨by omega, by omega, h3, fun j h5 h6 => ?_⟩
      by_cases e : j = i
      · subst e; simpa using hp
      · exact h4 j (by omega) h6
theorem fst1_none {p : Nat → Bool} : ∀ {d i : Nat}, fst1 p i d = none → ∀ j, i ≤ j → j < i + d → p j = false := by
  intro d
  induction d with
  | zero => intro i _ j h1 h2; omega
  | succ d ih =>
    intro i h j h1 h2
    simp only [fst1] at h
    by_cases hp : p i = true
    · simp [hp] at h
    · simp only [hp] at h
      by_cases e : j = i
      · subst e; simpa using hp
      · exact ih h j (by omega) (by omega)
theorem fst1_congr {p q : Nat → Bool} : ∀ {d i : Nat}, (∀ j, i ≤ j → j < i + d → p j = q j) → fst1 p i d = fst1 q i d := by
  intro d
  induction d with
  | zero => intro i _; rfl
  | succ d ih =>
    intro i h
    simp only [fst1]
    rw [h i (Nat.le_refl _) (by omega), ih (fun j h1 h2 => h j (by omega) (by omega))]
/-- a loop that looks for a place -/
theorem lq1_fst {ω : Type} {F : (Int32 → Option ω) → Int32 → Option ω} (p : Nat → Bool) (b M : Nat) (found : Nat → Option ω) (out : Option ω) (hf : ∀ rec i, b ≤ i → i < b + M → p i = true → F rec (nI i) = found i) (hs : ∀ rec i, b ≤ i → i < b + M → p i = false → F rec (nI i) = rec (nI (i + 1))) (hx : ∀ rec, F rec (nI (b + M)) = out) {n : Nat} (hn : M < n) : lq1 F n (nI b) = (match fst1 p b M with | some k => found k | none => out) := by
  have key : ∀ d i n, i + d = b + M → b ≤ i → d < n → lq1 F n (nI i) = (match fst1 p i d with | some k => found k | none => out) := by
    intro d
    induction d with
    | zero =>
      intro i n hi hb hn
      obtain ⟨n, rfl⟩ : ∃ k, n = k + 1 := ⟨n - 1, by omega⟩
      have : i = b + M := by omega
      subst this
      exact hx _
    | succ d ih =>
      intro i n hi hb hn
      obtain ⟨n, rfl⟩ : ∃ k, n = k + 1 := ⟨n - 1, by omega⟩
      show F (lq1 F n) (nI i) = _
      simp only [fst1]
      by_cases hp : p i = true
      · rw [hf _ i hb (by omega) hp]; simp [hp]
      · have hp : p i = false := by simpa using hp
        rw [hs _ i hb (by omega) hp, ih (i + 1) n (by omega) (by omega) (by omega)]
        simp [hp]
  exact key M b n rfl (Nat.le_refl _) hn
