/-! numbers by letters -/
def encF (B : Nat) (f : Nat → Nat) : Nat → Nat
  | 0 => 0
  | i + 1 => encF B f i * B + f i
theorem encF_congr {B : Nat} {f g : Nat → Nat} : ∀ {n}, (∀ i, i < n → f i = g i) → encF B f n = encF B g n
  | 0, _ => rfl
  | n + 1, h => by
    show encF B f n * B + f n = encF B g n * B + g n
    rw [encF_congr (fun i hi => h i (by omega)), h n (by omega)]
theorem encF_lt {B : Nat} {f : Nat → Nat} (h : ∀ i, f i < B) : ∀ n, encF B f n < B ^ n
  | 0 => by show 0 < 1; omega
  | n + 1 => by
    have ih := encF_lt h n
    have := h n
    show encF B f n * B + f n < B ^ n * B
    have e : (encF B f n + 1) * B ≤ B ^ n * B := Nat.mul_le_mul_right B ih
    rw [Nat.succ_mul] at e
    omega
theorem encF_lt' {B : Nat} {f : Nat → Nat} {n : Nat} (h : ∀ i, i < n → f i < B) (hB : 0 < B) : encF B f n < B ^ n := by
  have e : encF B f n = encF B (fun i => if i < n then f i else 0) n := encF_congr (fun i hi => by rw [if_pos hi])
  rw [e]
  refine encF_lt (fun i => ?_) n
  by_cases z : i < n
  · rw [if_pos z]; exact h i z
  · rw [if_neg z]; exact hB
theorem encF_inj {B : Nat} {f g : Nat → Nat} : ∀ {n m : Nat}, (∀ i, i < n → 0 < f i ∧ f i < B) → (∀ i, i < m → 0 < g i ∧ g i < B) → encF B f n = encF B g m → n = m ∧ ∀ i, i < n → f i = g i
  | 0, 0, _, _, _ => ⟨rfl, fun i hi => absurd hi (Nat.not_lt_zero i)⟩
  | 0, m + 1, _, hg, e => by
    have := hg m (Nat.lt_succ_self m)
    have e : 0 = encF B g m * B + g m := e
    omega
  | n + 1, 0, hf, _, e => by
    have := hf n (Nat.lt_succ_self n)
    have e : encF B f n * B + f n = 0 := e
    omega
  | n + 1, m + 1, hf, hg, e => by
    have h1 := hf n (Nat.lt_succ_self n)
    have h2 := hg m (Nat.lt_succ_self m)
    have e : encF B f n * B + f n = encF B g m * B + g m := e
    have e1 : f n = g m := by
      have a := congrArg (· % B) e
      simp only [Nat.mul_add_mod_self_right, Nat.mod_eq_of_lt h1.2, Nat.mod_eq_of_lt h2.2] at a
      exact a
    have e2 : encF B f n = encF B g m := by
      have : encF B f n * B = encF B g m * B := by omega
      exact Nat.eq_of_mul_eq_mul_right (by omega) this
    obtain ⟨q1, q2⟩ := encF_inj (fun i hi => hf i (by omega)) (fun i hi => hg i (by omega)) e2
    subst q1
    refine ⟨rfl, fun i hi => ?_⟩
    by_cases z : i = n
    · rw [z]; exact e1
    · exact q2 i (by omega)
/-! the words that are kept -/
def kwL : List (List Nat) := [[16, 12, 1, 3, 5], [12, 1, 14, 5], [2, 21, 18, 14, 19], [23, 1, 12, 11, 5, 18], [6, 18, 15, 13], [20, 15], [1, 20], [2, 15, 25], [13, 9, 14, 21, 20, 5], [19, 5, 14, 4], [23, 1, 9, 20], [2, 1, 3, 11], [16, 12, 1, 9, 14], [12, 1, 13, 16], [2, 12, 9, 14, 4], [4, 18, 21, 14, 11], [14, 15, 20], [1, 14, 4], [15, 18], [20, 15, 12, 4], [12, 5, 6, 20], [6, 5, 5, 20], [12, 1, 20, 5]]
def kwM (i : Nat) : Nat := (kwL.getD i []).length
def kwF (i j : Nat) : Nat := (kwL.getD i []).getD j 0
def kw32 (i : Nat) : Nat := encF 32 (kwF i) (kwM i)
def kw27 (i : Nat) : Nat := encF 27 (kwF i) (kwM i)
theorem kw_ok : ∀ i, i < 23 → kwM i ≤ 8 ∧ ∀ j, j < kwM i → 0 < kwF i j ∧ kwF i j < 27 := by decide
theorem kw_27 : (List.range 23).map kw27 = [8740067, 237308, 1489744, 330800670, 131638, 555, 47, 1888, 191610176, 378004, 453701, 40187, 8740238, 237292, 1306021, 2495756, 10631, 1111, 423, 404923, 240023, 121898, 237470] := by decide
theorem kw_inj : ∀ i, i < 23 → ∀ j, j < 23 → kw32 i = kw32 j → i = j := by decide
/-- the number of a word among them -/
def wxF (c : Nat) : Nat → Option Nat
  | 0 => none
  | i + 1 => if kw32 i = c then some i else wxF c i
theorem wxF_some {c : Nat} : ∀ {n i : Nat}, wxF c n = some i → i < n ∧ kw32 i = c
  | 0, i, h => by cases h
  | n + 1, i, h => by
    unfold wxF at h
    by_cases z : kw32 n = c
    · rw [if_pos z] at h; cases h; exact ⟨Nat.lt_succ_self n, z⟩
    · rw [if_neg z] at h; have := wxF_some h; exact ⟨by omega, this.2⟩
theorem wxF_none {c : Nat} : ∀ {n : Nat}, wxF c n = none → ∀ i, i < n → kw32 i ≠ c
  | 0, _, i, hi => absurd hi (Nat.not_lt_zero i)
  | n + 1, h, i, hi => by
    unfold wxF at h
    by_cases z : kw32 n = c
    · rw [if_pos z] at h; cases h
    · rw [if_neg z] at h
      by_cases y : i = n
      · rw [y]; exact z
      · exact wxF_none h i (by omega)
theorem wxF_iff {c i : Nat} (hi : i < 23) : wxF c 23 = some i ↔ kw32 i = c := by
  constructor
  · intro h; exact (wxF_some h).2
  · intro h
    cases e : wxF c 23 with
    | none => exact absurd h (wxF_none e i hi)
    | some j =>
      obtain ⟨j1, j2⟩ := wxF_some e
      rw [kw_inj j j1 i hi (by rw [j2, h])]
/-! the tape, and the token at a place -/
def sOk (c : Nat) : Prop := c = 10 ∨ (32 ≤ c ∧ c ≤ 126)
def blk (c : Nat) : Bool := decide (c = 10 ∨ c = 32)
def ltr (c : Nat) : Bool := decide (97 ≤ c ∧ c ≤ 122)
def dgt (c : Nat) : Bool := decide (48 ≤ c ∧ c ≤ 57)
def sgn (c : Nat) : Bool := decide (c = 40 ∨ c = 41 ∨ c = 60 ∨ c = 61 ∨ c = 43 ∨ c = 45 ∨ c = 42 ∨ c = 59)
def runE (p : Nat → Bool) (n b : Nat) : Nat := (fst1 (fun i => !p i) b (n - b)).getD n
theorem runE_le {p : Nat → Bool} {n b : Nat} (h : b ≤ n) : b ≤ runE p n b ∧ runE p n b ≤ n := by
  unfold runE
  cases e : fst1 (fun i => !p i) b (n - b) with
  | none => exact ⟨h, Nat.le_refl _⟩
  | some k => have := fst1_some e; exact ⟨this.1, by show k ≤ n; omega⟩
theorem runE_in {p : Nat → Bool} {n b i : Nat} (h1 : b ≤ i) (h2 : i < runE p n b) (hb : b ≤ n) : p i = true := by
  unfold runE at h2
  cases e : fst1 (fun i => !p i) b (n - b) with
  | none =>
    rw [e] at h2
    have h2 : i < n := h2
    have := fst1_none e i h1 (by omega)
    simpa using this
  | some k =>
    rw [e] at h2
    have := (fst1_some e).2.2.2 i h1 h2
    simpa using this
theorem runE_at {p : Nat → Bool} {n b : Nat} (h : runE p n b < n) : p (runE p n b) = false := by
  unfold runE at h ⊢
  cases e : fst1 (fun i => !p i) b (n - b) with
  | none => rw [e] at h; exact absurd h (Nat.lt_irrefl n)
  | some k => have := (fst1_some e).2.2.1; simpa using this
def tkB (s : Nat → Nat) (n p : Nat) : Nat := runE (fun i => blk (s i)) n p
def tkE (s : Nat → Nat) (n p : Nat) : Nat := if tkB s n p = n then n else if ltr (s (tkB s n p)) then runE (fun i => ltr (s i)) n (tkB s n p) else if dgt (s (tkB s n p)) then runE (fun i => dgt (s i)) n (tkB s n p) else tkB s n p + 1
def tkK (s : Nat → Nat) (n p : Nat) : Nat := if tkB s n p = n then 1 else if ltr (s (tkB s n p)) then (if tkE s n p - tkB s n p ≤ 8 then 2 else 0) else if dgt (s (tkB s n p)) then (if tkE s n p - tkB s n p ≤ 4 then 3 else 0) else if sgn (s (tkB s n p)) then 4 else 0
def tkF (s : Nat → Nat) (n p : Nat) : Nat → Nat := fun i => s (tkB s n p + i) - 96
def tkM (s : Nat → Nat) (n p : Nat) : Nat := tkE s n p - tkB s n p
def tk32 (s : Nat → Nat) (n p : Nat) : Nat := encF 32 (tkF s n p) (tkM s n p)
def tk27 (s : Nat → Nat) (n p : Nat) : Nat := encF 27 (tkF s n p) (tkM s n p)
def tkV (s : Nat → Nat) (n p : Nat) : Nat := encF 10 (fun i => s (tkB s n p + i) - 48) (tkM s n p)
def TPc (σ : Mm) (s : Nat → Nat) (n : Nat) : Prop := n ≤ 1000 ∧ gI σ 1 1 = nI n ∧ ∀ k, k < n → gI σ 2 k = nI (s k) ∧ sOk (s k)
def TPm (μ : Mm) (s : Nat → Nat) (n : Nat) : Prop := n ≤ 1000 ∧ gI μ 0 3 = nI n ∧ ∀ k, k < n → gI μ 1 k = nI (s k) ∧ sOk (s k)
def KwC (σ : Mm) : Prop := ∀ i, i < 23 → gL σ 5 i = lN (kw32 i)
/-- what the tokens' own cells are for -/
def Fx (a : Nat) (σ τ : Mm) : Prop := (∀ b, b ≠ a → ∀ k, gI τ b k = gI σ b k) ∧ (∀ b, b ≠ a → ∀ k, gL τ b k = gL σ b k) ∧ (∀ b k, gR τ b k = gR σ b k)
theorem Fx.rf {a : Nat} {σ : Mm} : Fx a σ σ := ⟨fun _ _ _ => rfl, fun _ _ _ => rfl, fun _ _ => rfl⟩
theorem Fx.tr {a : Nat} {σ τ υ : Mm} (h : Fx a σ τ) (g : Fx a τ υ) : Fx a σ υ := ⟨fun b hb k => (g.1 b hb k).trans (h.1 b hb k), fun b hb k => (g.2.1 b hb k).trans (h.2.1 b hb k), fun b k => (g.2.2 b k).trans (h.2.2 b k)⟩
theorem Fx.pI {a k : Nat} {σ : Mm} {v : Int32} : Fx a σ (pI σ a k v) := ⟨fun b hb j => gI_pI_n (Or.inl hb), fun _ _ _ => rfl, fun _ _ => rfl⟩
theorem Fx.pL {a k : Nat} {σ : Mm} {v : Int64} : Fx a σ (pL σ a k v) := ⟨fun b hb j => rfl, fun b hb j => by rw [gL_pL, if_neg (fun z => hb z.1)], fun _ _ => rfl⟩
theorem TPc.fx {σ τ : Mm} {s : Nat → Nat} {n : Nat} (h : TPc σ s n) (f : Fx 4 σ τ) : TPc τ s n := ⟨h.1, by rw [f.1 1 (by decide)]; exact h.2.1, fun k hk => by rw [f.1 2 (by decide)]; exact h.2.2 k hk⟩
theorem KwC.fx {σ τ : Mm} (h : KwC σ) (f : Fx 4 σ τ) : KwC τ := fun i hi => by rw [f.2.1 5 (by decide)]; exact h i hi
theorem gL_pL_s (σ : Mm) (a k : Nat) (v : Int64) : gL (pL σ a k v) a k = v := by rw [gL_pL, if_pos ⟨rfl, rfl⟩]
theorem gL_pL_n {σ : Mm} {a k b j : Nat} {v : Int64} (h : b ≠ a ∨ j ≠ k) : gL (pL σ a k v) b j = gL σ b j := by
  rw [gL_pL, if_neg]
  rintro ⟨h1, h2⟩
  rcases h with h | h
  · exact h h1
  · exact h h2
/-- signs: is one among these -/
theorem s_indexOf {c : Nat} (h1 : 32 ≤ c) (h2 : c ≤ 126) (σ : Mm) : ∃ r, f_J0_indexOf_0f7a4 1000002 (nI c) σ = some (r, σ) ∧ (r < 0 ↔ sgn c = false) := by
  have i8 : (nI c).toInt8.toInt32 = nI c := by
    have : ∀ c, c ≤ 126 → (nI c).toInt8.toInt32 = nI c := by decide +kernel
    exact this c h2
  have q := lq1_fst (F := F_J1_indexOfChar_4cfef_7 1000003 (nI c) 8 σ (some (-1, σ))) (fun k => decide (strB 1000003 k = nI c)) 0 8 (fun k => some (nI k, σ)) (some (-1, σ)) ?_ ?_ ?_ (n := 1000000) (by omega)
  · have k1 : ¬ nI c < 0 := nI_pos (by omega)
    have k2 : ¬ (255 : Int32) < nI c := fun z => by have := (nI_ltI (a := 255) (b := c) (by omega) (by omega)).mp z; omega
    have e : f_J0_indexOf_0f7a4 1000002 (nI c) σ = some (oI (fst1 (fun k => decide (strB 1000003 k = nI c)) 0 8), σ) := by
      have z2 : (Int32.ofNat (strN 1000003)) >>> ((0 : Int32) &&& 31) = 8 := by decide
      have z3 : imn 8 (Int32.ofNat (strN 1000003)) = 8 := by decide
      unfold f_J0_indexOf_0f7a4 f_J0_indexOf_7cf53 f_J0_isLatin1_aae02 f_J0_length_8abf5 f_J0_coder_7d493 f_J1_indexOf_4cfef f_J1_canEncode_9a6ad f_J1_indexOfChar_4cfef
      simp only [ck_t (show isStr 1000002 = true by decide), ck_t (show isSB 1000003 = true by decide), jn_e2, if_neg one0, if_true, cl_s, Nat.reduceAdd, z2, if_neg k1, if_neg k2, bn_e, z3, show imx (0 : Int32) 0 = 0 by decide, if_pos (show (0 : Int32) < 8 by decide)]
      have q : lq1 (F_J1_indexOfChar_4cfef_7 1000003 (nI c) 8 σ (some (-1, σ))) 1000000 0 = _ := q
      rw [q]
      cases fst1 (fun k => decide (strB 1000003 k = nI c)) 0 8 <;> rfl
    refine ⟨_, e, ?_⟩
    have fin : ∀ c, c ≤ 126 → (oI (fst1 (fun k => decide (strB 1000003 k = nI c)) 0 8) < 0 ↔ sgn c = false) := by decide +kernel
    exact fin c h2
  · intro rec k _ hk hp
    have hp := of_decide_eq_true hp
    have c1 : nI k < 8 := nI_lt (a := k) (b := 8) (by omega) (by omega)
    have s8 : strN 1000003 = 8 := by decide
    have kn : k < strN 1000003 := by omega
    simp only [F_J1_indexOfChar_4cfef_7, if_pos c1, ck_t (inb_nI kn (show strN 1000003 < 2147483648 by decide)), nI_tn (show k < 2147483648 by omega), i8, if_pos hp]
  · intro rec k _ hk hp
    have hp := of_decide_eq_false hp
    have c1 : nI k < 8 := nI_lt (a := k) (b := 8) (by omega) (by omega)
    have s8 : strN 1000003 = 8 := by decide
    have kn : k < strN 1000003 := by omega
    simp only [F_J1_indexOfChar_4cfef_7, if_pos c1, ck_t (inb_nI kn (show strN 1000003 < 2147483648 by decide)), nI_tn (show k < 2147483648 by omega), i8, if_neg hp, nI_1]
  · intro rec
    have c1 : ¬ nI (0 + 8) < 8 := by decide
    simp only [F_J1_indexOfChar_4cfef_7, if_neg c1]
