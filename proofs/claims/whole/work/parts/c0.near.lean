/-! the class's shortest ways -/
def nxY (ln : Nat → Nat → Option Nat) (D : Nat → Nat → Nat) (P x b : Nat) : Option Nat := fst1 (fun y => decide (D y b + 1 = D x b) && (ln x y).isSome) 0 P
def nxL (ln : Nat → Nat → Option Nat) (D : Nat → Nat → Nat) (P x b : Nat) : Option Nat := match nxY ln D P x b with | some y => ln x y | none => none
/-- what the class's search stands on -/
def WyH (σ : Mm) (t P : Nat) (ln : Nat → Nat → Option Nat) (D : Nat → Nat → Nat) : Prop := isTown t = true ∧ P ≤ 6 ∧ gI σ t 0 = nI P ∧ (∀ τ : Mm, Off [t + 13, t + 14] σ τ → ∀ a b, a < 6 → b < 6 → f_X9_laneBetween t (nI a) (nI b) τ = some (oI (ln a b), τ)) ∧ (∀ a b k, ln a b = some k → k < 8) ∧ (∀ a b, ln a b ≠ none → a < P ∧ b < P ∧ a ≠ b) ∧ Dst (adjL ln) 6 D ∧ ∀ a b, a < 6 → b < 6 → D a b ≤ 99
theorem s_way {σ : Mm} {t P x b : Nat} (ht : isTown t = true) (hP : gI σ t 0 = nI P) (h6 : P ≤ 6) (hx : x < P) (hb : b < P) : f_X9_lanesOfWay t (nI x) (nI b) σ = some (gI σ (t + 13) (6 * x + b), σ) := by
  have h1 : f_X9_hasPlace t (nI x) σ = some (1, σ) := by rw [(s_has ht (nI x)).1, hP, if_pos ⟨nI_pos (by omega), nI_lt hx (by omega)⟩]
  have h2 : f_X9_hasPlace t (nI b) σ = some (1, σ) := by rw [(s_has ht (nI b)).1, hP, if_pos ⟨nI_pos (by omega), nI_lt hb (by omega)⟩]
  unfold f_X9_lanesOfWay
  rw [ck_t ht, cl_of _ h1, jn_e2, if_neg one0, cl_of _ h2, if_neg one0, show nI x * 6 + nI b = nI (6 * x + b) by rw [show (6 : Int32) = nI 6 from rfl, pk_mul, nI_add, Nat.mul_comm], bn_e, ck_t (inb_nI (show 6 * x + b < 36 by omega) (by omega)), nI_tn (show 6 * x + b < 2147483648 by omega)]
def WQ (τ : Mm) (t P b : Nat) (ln : Nat → Nat → Option Nat) (D : Nat → Nat → Nat) (f : Nat → Nat) : Prop := ∀ x, x < P → gI τ (t + 13) (6 * x + b) = (if D x b ≤ f x then nI (D x b) else -1) ∧ gI τ (t + 14) (6 * x + b) = (if D x b ≤ f x then oI (nxL ln D P x b) else -1)
theorem s_nearer {σ τ : Mm} {t P b x L : Nat} {ln : Nat → Nat → Option Nat} {D : Nat → Nat → Nat} {f : Nat → Nat} (h : WyH σ t P ln D) (o : Off [t + 13, t + 14] σ τ) (hb : b < P) (hx : x < P) (hL : 0 < L) (hL6 : L < 7) (w : WQ τ t P b ln D f) (hf : ∀ y, L - 1 ≤ f y) : f_X9_laneNearer t (nI x) (nI b) (nI (L - 1)) τ = some (match fst1 (fun y => decide (D y b = L - 1) && (ln x y).isSome) 0 P with | some y => oI (ln x y) | none => -1, τ) := by
  obtain ⟨ht, h6, hP, hln, l8, _, _, h99⟩ := h
  have hPt : gI τ t 0 = nI P := by rw [o.1 t (by simp)]; exact hP
  unfold f_X9_laneNearer
  rw [ck_t ht, jn_e2]
  have q := lq1_fst (F := F_X9_laneNearer_3 t (nI x) (nI b) (nI (L - 1)) τ (some (-1, τ))) (fun y => decide (D y b = L - 1) && (ln x y).isSome) 0 P (fun y => some (oI (ln x y), τ)) (some (-1, τ)) ?_ ?_ ?_ (n := 1000000) (by omega)
  · refine Eq.trans q ?_
    cases fst1 (fun y => decide (D y b = L - 1) && (ln x y).isSome) 0 P <;> rfl
  · intro rec y _ hy hp
    have hy : y < P := by omega
    have hp : (decide (D y b = L - 1) && (ln x y).isSome) = true := hp
    rw [Bool.and_eq_true] at hp
    have e1 := of_decide_eq_true hp.1
    have lb := hln τ o x y (by omega) (by omega)
    have v1 : (if D y b ≤ f y then nI (D y b) else -1) = nI (L - 1) := by rw [if_pos (by have := hf y; omega), e1]
    unfold F_X9_laneNearer_3
    rw [hPt, if_pos (nI_lt hy (by omega)), cl_of _ (s_way ht hPt h6 hy hb), jn_e2, (w y hy).1, if_pos v1, cl_of _ lb]
    cases e : ln x y with
    | none => rw [e] at hp; cases hp.2
    | some k => have := l8 _ _ k e; rw [oI_some, if_neg (nI_ne k (by omega))]
  · intro rec y _ hy hp
    have hy : y < P := by omega
    have hp : (decide (D y b = L - 1) && (ln x y).isSome) = false := hp
    have lb := hln τ o x y (by omega) (by omega)
    have d9 := h99 y b (by omega) (by omega)
    unfold F_X9_laneNearer_3
    rw [hPt, if_pos (nI_lt hy (by omega)), cl_of _ (s_way ht hPt h6 hy hb), jn_e2, (w y hy).1, nI_1]
    by_cases z : D y b = L - 1
    · have v1 : (if D y b ≤ f y then nI (D y b) else -1) = nI (L - 1) := by rw [if_pos (by have := hf y; omega), z]
      rw [if_pos v1, cl_of _ lb]
      cases e : ln x y with
      | none => rw [oI_none, if_pos rfl]
      | some k => rw [e, decide_eq_true z] at hp; cases hp
    · have : ¬ (if D y b ≤ f y then nI (D y b) else -1) = nI (L - 1) := fun q => by
        by_cases v : D y b ≤ f y
        · rw [if_pos v] at q; exact z ((nI_eq (by omega) (by omega)).mp q)
        · rw [if_neg v] at q; exact nI_ne (L - 1) (by omega) q.symm
      rw [if_neg this]
  · intro rec
    unfold F_X9_laneNearer_3
    rw [hPt, Nat.zero_add, if_neg (fun z => Int32.lt_irrefl z)]
/-- a step further: who stands that far has a lane to who stands one nearer, and only they -/
theorem nx_iff {σ : Mm} {t P b x L : Nat} {ln : Nat → Nat → Option Nat} {D : Nat → Nat → Nat} (h : WyH σ t P ln D) (hb : b < P) (hx : x < P) (hL : 0 < L) (hL6 : L < 7) (hD : L ≤ D x b) : (D x b = L → ∃ y k, fst1 (fun y => decide (D y b = L - 1) && (ln x y).isSome) 0 P = some y ∧ nxY ln D P x b = some y ∧ ln x y = some k) ∧ (¬ D x b = L → fst1 (fun y => decide (D y b = L - 1) && (ln x y).isSome) 0 P = none) := by
  obtain ⟨ht, h6, hP, hln, l8, lp, ds, h99⟩ := h
  have ad : ∀ a b, adjL ln a b → a < 6 ∧ b < 6 := fun a b q => ⟨q.1, q.2.1⟩
  refine ⟨fun e => ?_, fun ne => ?_⟩
  · have cg : fst1 (fun y => decide (D y b = L - 1) && (ln x y).isSome) 0 P = nxY ln D P x b := by
      unfold nxY
      refine fst1_congr (fun y _ _ => ?_)
      show (decide (D y b = L - 1) && (ln x y).isSome) = (decide (D y b + 1 = D x b) && (ln x y).isSome)
      rw [decide_eq_decide.mpr (show D y b = L - 1 ↔ D y b + 1 = D x b by omega)]
    obtain ⟨c, q1, q2, q3⟩ := ds.step ad (a := x) (b := b) (m := L - 1) (by omega) (by omega) (by omega) (by omega)
    have cP := (lp x c q1.2.2.2).2.1
    cases e2 : fst1 (fun y => decide (D y b = L - 1) && (ln x y).isSome) 0 P with
    | none =>
      have := fst1_none e2 c (Nat.zero_le _) (by omega)
      have : (decide (D c b = L - 1) && (ln x c).isSome) = false := this
      rw [decide_eq_true q3] at this
      cases e3 : ln x c with
      | none => exact absurd e3 q1.2.2.2
      | some k => rw [e3] at this; cases this
    | some y =>
      obtain ⟨_, _, p3, _⟩ := fst1_some e2
      have p3 : (decide (D y b = L - 1) && (ln x y).isSome) = true := p3
      rw [Bool.and_eq_true] at p3
      cases e3 : ln x y with
      | none => rw [e3] at p3; cases p3.2
      | some k => exact ⟨y, k, rfl, by rw [← cg]; exact e2, e3⟩
  · cases e2 : fst1 (fun y => decide (D y b = L - 1) && (ln x y).isSome) 0 P with
    | none => rfl
    | some y =>
      obtain ⟨_, p2, p3, _⟩ := fst1_some e2
      have p3 : (decide (D y b = L - 1) && (ln x y).isSome) = true := p3
      rw [Bool.and_eq_true] at p3
      have p4 := of_decide_eq_true p3.1
      have nn : ln x y ≠ none := fun z => by rw [z] at p3; cases p3.2
      have lq := lp x y nn
      have := ds.tri ad (a := x) (b := b) (c := y) (by omega) ⟨by omega, by omega, lq.2.2, nn⟩ (by omega)
      omega
