theorem fst1_succ_some {p : Nat → Bool} {n k : Nat} (h : fst1 p 0 n = some k) : fst1 p 0 (n + 1) = some k := by
  obtain ⟨-, h2, h3, h4⟩ := fst1_some h
  cases e : fst1 p 0 (n + 1) with
  | none => have := fst1_none e k (Nat.zero_le _) (by omega); rw [h3] at this; cases this
  | some c =>
    obtain ⟨-, e2, e3, e4⟩ := fst1_some e
    rcases Nat.lt_trichotomy c k with z | z | z
    · have := h4 c (Nat.zero_le _) z; rw [e3] at this; cases this
    · rw [z]
    · have := e4 k (Nat.zero_le _) z; rw [h3] at this; cases this
theorem fst1_succ_none {p : Nat → Bool} {n : Nat} (h : fst1 p 0 n = none) : fst1 p 0 (n + 1) = if p n then some n else none := by
  have h0 := fst1_none h
  cases e : fst1 p 0 (n + 1) with
  | none => have := fst1_none e n (Nat.zero_le _) (by omega); rw [this]; rfl
  | some c =>
    obtain ⟨-, e2, e3, e4⟩ := fst1_some e
    rcases Nat.lt_or_ge c n with z | z
    · have := h0 c (Nat.zero_le _) (by omega); rw [e3] at this; cases this
    · have : c = n := by omega
      subst this
      rw [e3]; rfl
def wlG (T : Tw) (lg : Int32) (N : Nt) (n k : Nat) : Bool := (fst1 (fun i => wkN T (itN T lg N i) k) 0 n).isSome
theorem wlG_s (T : Tw) (lg : Int32) (N : Nt) (n k : Nat) : wlG T lg N (n + 1) k = (wlG T lg N n k || wkN T (itN T lg N n) k) := by
  unfold wlG
  cases e : fst1 (fun i => wkN T (itN T lg N i) k) 0 n with
  | none => rw [fst1_succ_none e]; cases wkN T (itN T lg N n) k <;> rfl
  | some c => rw [fst1_succ_some e]; rfl
def oilN (T : Tw) (lg : Int32) (N : Nt) (n : Nat) : Nat := sm (fun i => cnt (brN (itN T lg N (i + 1))) (tL T)) n
def ghM : List Nat := 0 :: 36 :: 42 :: 43 :: 44 :: 45 :: 46 :: lawM
/-- the reference, i minutes on its way home -/
def Gm (σ : Mm) (T : Tw) (lg : Int32) (N : Nt) (i : Nat) (b : Mm) : Prop := Off ghM σ b ∧ (∀ j, j < 60 ∨ 63 < j → gI b 0 j = gI σ 0 j) ∧ RM b T (itN T lg N i) ∧ gI b 0 60 = nI i ∧ gI b 0 61 = nI (dsN T lg N i) ∧ gI b 0 62 = nI (oilN T lg N i) ∧ gI b 0 63 = nI (bts (wlG T lg N i) (tL T)) ∧ (∀ w, w < tW T → gI b 44 w = nI (sm (fun j => (dkN T (itN T lg N j) w).toNat) i) ∧ gI b 45 w = oI (fst1 (fun j => homeN T (itN T lg N j) w) 0 (i + 1))) ∧ ∀ j, j ≤ i → gI b 46 j = nI (bts (brN (itN T lg N j)) (tL T))
