/-! the law, worked: the class's stack -/
abbrev Vx : Type := Int32 × Int32 × Int32 × Int32
def valS (x : Vx) (c : Int32) : Int32 := if c = 8 then x.1 else if c = 9 then x.2.1 else if c = 10 then x.2.2.1 else if c = 11 then x.2.2.2 else c - 12
def jnS (c a b : Int32) : Int32 := if c = 1 then (if a ≠ 0 ∧ b ≠ 0 then 1 else 0) else if c = 2 then (if a ≠ 0 ∨ b ≠ 0 then 1 else 0) else if c = 3 then (if a < b then 1 else 0) else if c = 4 then (if a = b then 1 else 0) else if c = 5 then a + b else if c = 6 then a - b else a * b
def ntS (a : Int32) : Int32 := if a = 0 then 1 else 0
def stepS (x : Vx) (c : Int32) (st : List Int32) : List Int32 := if c < 8 then (if c = 0 then (match st with | a :: r => ntS a :: r | [] => []) else (match st with | b :: a :: r => jnS c a b :: r | r => r)) else (if st.length < 32 then valS x c :: st else st)
def runS (x : Vx) (f : Nat → Int32) (i : Nat) : Nat → List Int32 → List Int32
  | 0, st => st
  | k + 1, st => stepS x (f (i + k)) (runS x f i k st)
theorem runS_add (x : Vx) (f : Nat → Int32) (i a : Nat) : ∀ b st, runS x f i (a + b) st = runS x f (i + a) b (runS x f i a st)
  | 0, _ => rfl
  | b + 1, st => by
    show stepS x (f (i + (a + b))) (runS x f i (a + b) st) = stepS x (f (i + a + b)) (runS x f (i + a) b (runS x f i a st))
    rw [runS_add x f i a b st, Nat.add_assoc]
theorem runS_congr {x : Vx} {f g : Nat → Int32} {i : Nat} : ∀ {k st}, (∀ j, i ≤ j → j < i + k → f j = g j) → runS x f i k st = runS x g i k st
  | 0, _, _ => rfl
  | k + 1, st, h => by
    show stepS x (f (i + k)) (runS x f i k st) = stepS x (g (i + k)) (runS x g i k st)
    rw [runS_congr (fun j h1 h2 => h j h1 (by omega)), h (i + k) (by omega) (by omega)]
def SemC (f : Nat → Int32) (i j h : Nat) (E : Vx → Int32) : Prop := ∀ x st, st.length ≤ h → runS x f i (j - i) st = E x :: st
theorem SemC.congr {f g : Nat → Int32} {i j h : Nat} {E : Vx → Int32} (s : SemC f i j h E) (e : ∀ k, i ≤ k → k < j → g k = f k) : SemC g i j h E := fun x st hs => by
  rw [runS_congr (g := f) (fun k h1 h2 => e k h1 (by omega))]; exact s x st hs
theorem semC_leaf {f : Nat → Int32} {i h : Nat} (hv : ¬ f i < 8) (hh : h ≤ 31) : SemC f i (i + 1) h (fun x => valS x (f i)) := fun x st hs => by
  rw [Nat.add_sub_cancel_left]
  show stepS x (f (i + 0)) st = _
  unfold stepS
  rw [Nat.add_zero, if_neg hv, if_pos (by omega)]
theorem semC_not {f : Nat → Int32} {i j h : Nat} {E : Vx → Int32} (hij : i ≤ j) (s : SemC f i j h E) (hc : f j = 0) : SemC f i (j + 1) h (fun x => ntS (E x)) := fun x st hs => by
  rw [show j + 1 - i = (j - i) + 1 by omega]
  show stepS x (f (i + (j - i))) (runS x f i (j - i) st) = _
  rw [s x st hs, show i + (j - i) = j by omega, hc]
  rfl
theorem semC_bin {f : Nat → Int32} {i j k h : Nat} {E1 E2 : Vx → Int32} {c : Int32} (hij : i ≤ j) (hjk : j ≤ k) (s1 : SemC f i j (h + 1) E1) (s2 : SemC f j k (h + 1) E2) (hc : f k = c) (h8 : c < 8) (h0 : ¬ c = 0) : SemC f i (k + 1) h (fun x => jnS c (E1 x) (E2 x)) := fun x st hs => by
  rw [show k + 1 - i = (j - i + (k - j)) + 1 by omega]
  show stepS x (f (i + (j - i + (k - j)))) (runS x f i (j - i + (k - j)) st) = _
  rw [runS_add, s1 x st (by omega), show i + (j - i) = j by omega, s2 x (E1 x :: st) (by show st.length + 1 ≤ h + 1; omega), show i + (j - i + (k - j)) = k by omega, hc]
  unfold stepS
  rw [if_pos h8, if_neg h0]
theorem SemC.mono {f : Nat → Int32} {i j h h' : Nat} {E : Vx → Int32} (s : SemC f i j h E) (hh : h' ≤ h) : SemC f i j h' E := fun x st hs => s x st (by omega)
/-! the reference's rows -/
abbrev Es : Type := Nat × (Nat → Nat → Int32)
def upE (f : Nat → Nat → Int32) (a j : Nat) (v : Int32) : Nat → Nat → Int32 := fun b k => if b = a ∧ k = j then v else f b k
theorem upE_s (f : Nat → Nat → Int32) (a j : Nat) (v : Int32) : upE f a j v a j = v := by unfold upE; rw [if_pos ⟨rfl, rfl⟩]
theorem upE_n {f : Nat → Nat → Int32} {a j b k : Nat} {v : Int32} (h : b ≠ a ∨ k ≠ j) : upE f a j v b k = f b k := by
  unfold upE
  rw [if_neg]
  rintro ⟨h1, h2⟩
  rcases h with h | h
  · exact h h1
  · exact h h2
def sumV (f : Nat → Nat → Int32) (d : Nat) : Int32 := if f 22 d = 21 then f 21 d - f 23 d else f 21 d + f 23 d
def tstV (f : Nat → Nat → Int32) (d : Nat) : Int32 := if f 20 d = 25 then (if f 19 d = sumV f d then 1 else 0) else if f 20 d = 24 then (if f 19 d < sumV f d then 1 else 0) else sumV f d
def eV (f : Nat → Nat → Int32) (d : Nat) : Int32 := if f 18 d = 27 then (if f 17 d ≠ 0 ∨ (if f 18 d = 26 then (if f 17 d ≠ 0 ∧ tstV f d ≠ 0 then 1 else 0) else tstV f d) ≠ 0 then 1 else 0) else (if f 18 d = 26 then (if f 17 d ≠ 0 ∧ tstV f d ≠ 0 then 1 else 0) else tstV f d)
def opensE (f : Nat → Nat → Int32) (d : Nat) : Nat → Nat → Int32 := upE (upE (upE (upE (upE f 18 d 0) 20 d 0) 21 d 0) 22 d 20) 24 d 0
def sumsE (f : Nat → Nat → Int32) (d : Nat) : Nat → Nat → Int32 := upE (upE f 21 d (sumV f d)) 24 d 0
def testsE (f : Nat → Nat → Int32) (d : Nat) : Nat → Nat → Int32 := upE (upE (upE (upE (sumsE f d) 17 d (eV f d)) 20 d 0) 21 d 0) 22 d 20
def popE (f : Nat → Nat → Int32) : Nat → Int32 → Nat × Int32
  | 0, v => (0, v)
  | d + 1, v => if f 25 (d + 1) = 1 then popE f d (ntS v) else (d + 1, v)
def finE (f : Nat → Nat → Int32) (d : Nat) (v : Int32) : Es := ((popE f d v).1, upE f 23 (popE f d v).1 (if f 24 (popE f d v).1 = 0 then (popE f d v).2 else f 23 (popE f d v).1 * (popE f d v).2))
def valM (x : Vx) (c : Int32) : Int32 := if ¬ c < 100 then c - 100 else if c = 1 then x.1 else if c = 2 then x.2.1 else if c = 3 then x.2.2.1 else if c = 4 then x.2.2.2 else 0
def stepE (x : Vx) (c : Int32) (S : Es) : Es :=
  if c = 28 ∨ c = 30 then (S.1 + 1, opensE (upE S.2 25 (S.1 + 1) (if c = 30 then 1 else 0)) (S.1 + 1))
  else if c = 20 ∨ c = 21 then (S.1, upE (sumsE S.2 S.1) 22 S.1 c)
  else if c = 22 then (S.1, upE S.2 24 S.1 c)
  else if c = 24 ∨ c = 25 then (S.1, upE (upE (upE (upE (sumsE S.2 S.1) 19 S.1 (sumV S.2 S.1)) 20 S.1 c) 21 S.1 0) 22 S.1 20)
  else if c = 26 ∨ c = 27 then (S.1, upE (testsE S.2 S.1) 18 S.1 c)
  else if c = 29 then finE (testsE S.2 S.1) (S.1 - 1) (eV S.2 S.1)
  else finE S.2 S.1 (valM x c)
def rnE (x : Vx) (g : Nat → Int32) (i : Nat) : Nat → Es → Es
  | 0, S => S
  | k + 1, S => stepE x (g (i + k)) (rnE x g i k S)
theorem rnE_add (x : Vx) (g : Nat → Int32) (i a : Nat) : ∀ b S, rnE x g i (a + b) S = rnE x g (i + a) b (rnE x g i a S)
  | 0, _ => rfl
  | b + 1, S => by
    show stepE x (g (i + (a + b))) (rnE x g i (a + b) S) = stepE x (g (i + a + b)) (rnE x g (i + a) b (rnE x g i a S))
    rw [rnE_add x g i a b S, Nat.add_assoc]
theorem rnE_congr {x : Vx} {f g : Nat → Int32} {i : Nat} : ∀ {k S}, (∀ j, i ≤ j → j < i + k → f j = g j) → rnE x f i k S = rnE x g i k S
  | 0, _, _ => rfl
  | k + 1, S, h => by
    show stepE x (f (i + k)) (rnE x f i k S) = stepE x (g (i + k)) (rnE x g i k S)
    rw [rnE_congr (fun j h1 h2 => h j h1 (by omega)), h (i + k) (by omega) (by omega)]
/-- a run in two, with a step between -/
theorem rnE_mid {x : Vx} {g : Nat → Int32} {i j k : Nat} (hij : i ≤ j) (hjk : j < k) (S : Es) : rnE x g i (k - i) S = rnE x g (j + 1) (k - (j + 1)) (stepE x (g j) (rnE x g i (j - i) S)) := by
  rw [show k - i = (j - i + 1) + (k - (j + 1)) by omega, rnE_add, show i + (j - i + 1) = j + 1 by omega]
  show rnE x g (j + 1) (k - (j + 1)) (stepE x (g (i + (j - i))) (rnE x g i (j - i) S)) = _
  rw [show i + (j - i) = j by omega]
theorem rnE_1 {x : Vx} {g : Nat → Int32} {i : Nat} (S : Es) : rnE x g i (i + 1 - i) S = stepE x (g i) S := by
  rw [Nat.add_sub_cancel_left]; rfl
def popD (o : Nat → Bool) : Nat → Nat
  | 0 => 0
  | d + 1 => if o (d + 1) then popD o d else d + 1
theorem popD_le (o : Nat → Bool) : ∀ d, popD o d ≤ d
  | 0 => Nat.le_refl _
  | d + 1 => by
    have := popD_le o d
    unfold popD
    split <;> omega
theorem popD_congr {o o' : Nat → Bool} : ∀ {d}, (∀ j, 0 < j → j ≤ d → o j = o' j) → popD o d = popD o' d
  | 0, _ => rfl
  | d + 1, h => by
    unfold popD
    rw [h (d + 1) (by omega) (by omega), popD_congr (fun j h1 h2 => h j h1 (by omega))]
def nots : Nat → Int32 → Int32
  | 0, v => v
  | k + 1, v => nots k (ntS v)
def BnOk (f : Nat → Nat → Int32) (o : Nat → Bool) (d : Nat) : Prop := ∀ j, 0 < j → j ≤ d → (f 25 j = 1 ↔ o j = true)
theorem popE_D {f : Nat → Nat → Int32} {o : Nat → Bool} : ∀ {d v}, BnOk f o d → popE f d v = (popD o d, nots (d - popD o d) v)
  | 0, v, _ => rfl
  | d + 1, v, h => by
    unfold popE popD
    have q := h (d + 1) (by omega) (by omega)
    cases e : o (d + 1)
    · rw [if_neg (fun z => by rw [q.mp z] at e; cases e), if_neg (by decide), Nat.sub_self]; rfl
    · rw [if_pos (q.mpr e), if_pos rfl, popE_D (fun j h1 h2 => h j h1 (by omega))]
      have := popD_le o d
      rw [show d + 1 - popD o d = (d - popD o d) + 1 by omega]
      rfl
theorem BnOk.mono {f : Nat → Nat → Int32} {o : Nat → Bool} {d e : Nat} (h : BnOk f o d) (he : e ≤ d) : BnOk f o e := fun j h1 h2 => h j h1 (by omega)
def PartSem (g : Nat → Int32) (c c' d : Nat) (o : Nat → Bool) (E : Vx → Int32) : Prop := ∀ x f, BnOk f o d → ∃ f', rnE x g c (c' - c) (d, f) = (popD o d, f') ∧ (∀ a j, j ≤ popD o d → (a ≠ 23 ∨ j ≠ popD o d) → f' a j = f a j) ∧ f' 23 (popD o d) = (if f 24 (popD o d) = 0 then nots (d - popD o d) (E x) else f 23 (popD o d) * nots (d - popD o d) (E x))
theorem fin_sem {f : Nat → Nat → Int32} {o : Nat → Bool} {d : Nat} (v : Int32) (h : BnOk f o d) : ∃ f', finE f d v = (popD o d, f') ∧ (∀ a j, (a ≠ 23 ∨ j ≠ popD o d) → f' a j = f a j) ∧ f' 23 (popD o d) = (if f 24 (popD o d) = 0 then nots (d - popD o d) v else f 23 (popD o d) * nots (d - popD o d) v) := by
  unfold finE
  rw [popE_D h]
  exact ⟨_, rfl, fun a j hj => upE_n hj, upE_s _ _ _ _⟩
/-- a number or a fact -/
def isV (c : Int32) : Prop := c = 1 ∨ c = 2 ∨ c = 3 ∨ c = 4 ∨ ¬ c < 100
theorem step_v {x : Vx} {c : Int32} {S : Es} (h : isV c) : stepE x c S = finE S.2 S.1 (valM x c) := by
  unfold stepE
  have n : ∀ k : Int32, k < 100 → ¬ k = 1 → ¬ k = 2 → ¬ k = 3 → ¬ k = 4 → ¬ c = k := by
    intro k k1 k2 k3 k4 k5 e
    subst e
    rcases h with h | h | h | h | h
    · exact k2 h
    · exact k3 h
    · exact k4 h
    · exact k5 h
    · exact h k1
  rw [if_neg (fun z => by rcases z with z | z; exact n 28 (by decide) (by decide) (by decide) (by decide) (by decide) z; exact n 30 (by decide) (by decide) (by decide) (by decide) (by decide) z),
    if_neg (fun z => by rcases z with z | z; exact n 20 (by decide) (by decide) (by decide) (by decide) (by decide) z; exact n 21 (by decide) (by decide) (by decide) (by decide) (by decide) z),
    if_neg (n 22 (by decide) (by decide) (by decide) (by decide) (by decide)),
    if_neg (fun z => by rcases z with z | z; exact n 24 (by decide) (by decide) (by decide) (by decide) (by decide) z; exact n 25 (by decide) (by decide) (by decide) (by decide) (by decide) z),
    if_neg (fun z => by rcases z with z | z; exact n 26 (by decide) (by decide) (by decide) (by decide) (by decide) z; exact n 27 (by decide) (by decide) (by decide) (by decide) (by decide) z),
    if_neg (n 29 (by decide) (by decide) (by decide) (by decide) (by decide))]
theorem psem_leaf {g : Nat → Int32} {c d : Nat} {o : Nat → Bool} (h : isV (g c)) : PartSem g c (c + 1) d o (fun x => valM x (g c)) := fun x f hf => by
  rw [rnE_1, step_v h]
  obtain ⟨f', q1, q2, q3⟩ := fin_sem (valM x (g c)) hf
  exact ⟨f', q1, fun a j _ hj => q2 a j hj, q3⟩
theorem opens_lt {f : Nat → Nat → Int32} {d a j : Nat} {v : Int32} (h : j ≠ d) : opensE (upE f 25 d v) d a j = f a j := by
  unfold opensE
  rw [upE_n (Or.inr h), upE_n (Or.inr h), upE_n (Or.inr h), upE_n (Or.inr h), upE_n (Or.inr h), upE_n (Or.inr h)]
theorem opens_25 {f : Nat → Nat → Int32} {d : Nat} {v : Int32} : opensE (upE f 25 d v) d 25 d = v := by
  unfold opensE
  rw [upE_n (Or.inl (by decide)), upE_n (Or.inl (by decide)), upE_n (Or.inl (by decide)), upE_n (Or.inl (by decide)), upE_n (Or.inl (by decide)), upE_s]
theorem step_o {x : Vx} {c : Int32} {S : Es} (h : c = 28 ∨ c = 30) : stepE x c S = (S.1 + 1, opensE (upE S.2 25 (S.1 + 1) (if c = 30 then 1 else 0)) (S.1 + 1)) := by
  unfold stepE
  rw [if_pos h]
theorem psem_not {g : Nat → Int32} {c c' d : Nat} {o o' : Nat → Bool} {E : Vx → Int32} (hc : c < c') (hg : g c = 30) (ho : o' (d + 1) = true) (hoo : ∀ j, 0 < j → j ≤ d → o' j = o j) (h : PartSem g (c + 1) c' (d + 1) o' E) : PartSem g c c' d o (fun x => ntS (E x)) := fun x f hf => by
  have pd : popD o' (d + 1) = popD o d := by
    have : popD o' (d + 1) = popD o' d := by show (if o' (d + 1) = true then popD o' d else d + 1) = _; rw [if_pos ho]
    rw [this, popD_congr hoo]
  have ple := popD_le o d
  obtain ⟨f1, e1⟩ : ∃ y, y = opensE (upE f 25 (d + 1) 1) (d + 1) := ⟨_, rfl⟩
  have b1 : BnOk f1 o' (d + 1) := fun j h1 h2 => by
    by_cases z : j = d + 1
    · subst z; rw [e1, opens_25]; exact ⟨fun _ => ho, fun _ => rfl⟩
    · rw [e1, opens_lt z, hoo j h1 (by omega)]; exact hf j h1 (by omega)
  obtain ⟨f', q1, q2, q3⟩ := h x f1 b1
  rw [pd] at q1 q2 q3
  refine ⟨f', ?_, fun a j h1 h2 => ?_, ?_⟩
  · rw [rnE_mid (j := c) (Nat.le_refl _) hc, Nat.sub_self]
    show rnE x g (c + 1) (c' - (c + 1)) (stepE x (g c) (d, f)) = _
    rw [hg, step_o (Or.inr rfl)]
    show rnE x g (c + 1) (c' - (c + 1)) (d + 1, opensE (upE f 25 (d + 1) (if (30 : Int32) = 30 then 1 else 0)) (d + 1)) = _
    rw [if_pos rfl, ← e1]; exact q1
  · rw [q2 a j h1 h2, e1, opens_lt (by omega)]
  · rw [q3, e1, opens_lt (by omega), opens_lt (by omega), show d + 1 - popD o d = (d - popD o d) + 1 by omega]
    rfl
def Lw (f' f : Nat → Nat → Int32) (d : Nat) : Prop := (∀ a j, j < d → f' a j = f a j) ∧ f' 25 d = f 25 d
def L3Sem (g : Nat → Int32) (c c' d : Nat) (o : Nat → Bool) (E : Vx → Int32) : Prop := ∀ x f, BnOk f o d → f 24 d = 0 → ∃ f', rnE x g c (c' - c) (d, f) = (d, f') ∧ Lw f' f d ∧ (∀ a, a ≠ 23 → a ≠ 24 → f' a d = f a d) ∧ f' 23 d = E x
def L2Sem (g : Nat → Int32) (c c' d : Nat) (o : Nat → Bool) (E : Vx → Int32) : Prop := ∀ x f, BnOk f o d → f 24 d = 0 → f 21 d = 0 → f 22 d = 20 → ∃ f', rnE x g c (c' - c) (d, f) = (d, f') ∧ Lw f' f d ∧ (∀ a, (a < 21 ∨ 24 < a) → f' a d = f a d) ∧ sumV f' d = E x
def L1Sem (g : Nat → Int32) (c c' d : Nat) (o : Nat → Bool) (E : Vx → Int32) : Prop := ∀ x f, BnOk f o d → f 24 d = 0 → f 21 d = 0 → f 22 d = 20 → f 20 d = 0 → ∃ f', rnE x g c (c' - c) (d, f) = (d, f') ∧ Lw f' f d ∧ (∀ a, (a < 19 ∨ 24 < a) → f' a d = f a d) ∧ tstV f' d = E x
def L0Sem (g : Nat → Int32) (c c' d : Nat) (o : Nat → Bool) (E : Vx → Int32) : Prop := ∀ x f, BnOk f o d → f 24 d = 0 → f 21 d = 0 → f 22 d = 20 → f 20 d = 0 → f 18 d = 0 → ∃ f', rnE x g c (c' - c) (d, f) = (d, f') ∧ Lw f' f d ∧ eV f' d = E x
theorem bn_lw {f' f : Nat → Nat → Int32} {o : Nat → Bool} {d : Nat} (h : BnOk f o d) (l : Lw f' f d) : BnOk f' o d := fun j h1 h2 => by
  by_cases z : j = d
  · subst z; rw [l.2]; exact h j h1 h2
  · rw [l.1 25 j (by omega)]; exact h j h1 h2
theorem l3_part {g : Nat → Int32} {c c' d : Nat} {o : Nat → Bool} {E : Vx → Int32} (hp : popD o d = d) (h : PartSem g c c' d o E) : L3Sem g c c' d o E := fun x f hf h24 => by
  obtain ⟨f', q1, q2, q3⟩ := h x f hf
  rw [hp] at q1 q2 q3
  rw [h24, if_pos rfl, Nat.sub_self] at q3
  exact ⟨f', q1, ⟨fun a j hj => q2 a j (by omega) (Or.inr (by omega)), q2 25 d (by omega) (Or.inl (by decide))⟩, fun a h1 _ => q2 a d (by omega) (Or.inl h1), q3⟩
theorem l3_mul {g : Nat → Int32} {c c1 c2 d : Nat} {o : Nat → Bool} {E1 E2 : Vx → Int32} (hc : c ≤ c1) (hc2 : c1 < c2) (hp : popD o d = d) (h1 : L3Sem g c c1 d o E1) (hg : g c1 = 22) (h2 : PartSem g (c1 + 1) c2 d o E2) : L3Sem g c c2 d o (fun x => jnS 7 (E1 x) (E2 x)) := fun x f hf h24 => by
  obtain ⟨f1, q1, q2, q3, q4⟩ := h1 x f hf h24
  obtain ⟨f2, e2⟩ : ∃ y, y = upE f1 24 d 22 := ⟨_, rfl⟩
  have l2 : Lw f2 f d := ⟨fun a j hj => by rw [e2, upE_n (Or.inr (by omega))]; exact q2.1 a j hj, by rw [e2, upE_n (Or.inl (by decide))]; exact q2.2⟩
  obtain ⟨f3, w1, w2, w3⟩ := h2 x f2 (bn_lw hf l2)
  rw [hp] at w1 w2 w3
  have e24 : ¬ f2 24 d = 0 := by rw [e2, upE_s]; decide
  rw [if_neg e24, Nat.sub_self] at w3
  refine ⟨f3, ?_, ⟨fun a j hj => by rw [w2 a j (by omega) (Or.inr (by omega))]; exact l2.1 a j hj, by rw [w2 25 d (by omega) (Or.inl (by decide))]; exact l2.2⟩, fun a a1 a2 => by rw [w2 a d (by omega) (Or.inl a1), e2, upE_n (Or.inl a2)]; exact q3 a a1 a2, ?_⟩
  · rw [rnE_mid hc hc2, q1, hg]
    show rnE x g (c1 + 1) (c2 - (c1 + 1)) (d, upE f1 24 d 22) = _
    rw [← e2]; exact w1
  · rw [w3, e2, upE_n (Or.inl (by decide)), q4]; rfl
theorem l2_l3 {g : Nat → Int32} {c c' d : Nat} {o : Nat → Bool} {E : Vx → Int32} (h : L3Sem g c c' d o E) : L2Sem g c c' d o E := fun x f hf h24 h21 h22 => by
  obtain ⟨f1, q1, q2, q3, q4⟩ := h x f hf h24
  refine ⟨f1, q1, q2, fun a ha => q3 a (by omega) (by omega), ?_⟩
  unfold sumV
  rw [q3 22 (by decide) (by decide), h22, if_neg (by decide), q3 21 (by decide) (by decide), h21, q4]
  simp
theorem l2_sum {g : Nat → Int32} {c c1 c2 d : Nat} {o : Nat → Bool} {E1 E2 : Vx → Int32} {op : Int32} (hop : op = 20 ∨ op = 21) (hc : c ≤ c1) (hc2 : c1 < c2) (h1 : L2Sem g c c1 d o E1) (hg : g c1 = op) (h2 : L3Sem g (c1 + 1) c2 d o E2) : L2Sem g c c2 d o (fun x => jnS (if op = 20 then 5 else 6) (E1 x) (E2 x)) := fun x f hf h24 h21 h22 => by
  obtain ⟨f1, q1, q2, q3, q4⟩ := h1 x f hf h24 h21 h22
  obtain ⟨f2, e2⟩ : ∃ y, y = upE (sumsE f1 d) 22 d op := ⟨_, rfl⟩
  have n2 : ∀ a j, (j ≠ d ∨ (a ≠ 21 ∧ a ≠ 22 ∧ a ≠ 24)) → f2 a j = f1 a j := fun a j hj => by rw [e2]; unfold sumsE; rw [upE_n (by omega), upE_n (by omega), upE_n (by omega)]
  have l2 : Lw f2 f d := ⟨fun a j hj => by rw [n2 a j (by omega)]; exact q2.1 a j hj, by rw [n2 25 d (by omega)]; exact q2.2⟩
  have e24 : f2 24 d = 0 := by rw [e2]; unfold sumsE; rw [upE_n (Or.inl (by decide)), upE_s]
  have e21 : f2 21 d = E1 x := by rw [e2]; unfold sumsE; rw [upE_n (Or.inl (by decide)), upE_n (Or.inl (by decide)), upE_s]; exact q4
  have e22 : f2 22 d = op := by rw [e2, upE_s]
  obtain ⟨f3, w1, w2, w3, w4⟩ := h2 x f2 (bn_lw hf l2) e24
  refine ⟨f3, ?_, ⟨fun a j hj => (w2.1 a j hj).trans (l2.1 a j hj), w2.2.trans l2.2⟩, fun a ha => by rw [w3 a (by omega) (by omega), n2 a d (by omega)]; exact q3 a ha, ?_⟩
  · rw [rnE_mid hc hc2, q1, hg]
    have : stepE x op (d, f1) = (d, f2) := by
      unfold stepE
      rw [if_neg (by rcases hop with rfl | rfl <;> decide), if_pos hop, e2]
    rw [this]; exact w1
  · unfold sumV
    rw [w3 22 (by decide) (by decide), w3 21 (by decide) (by decide), w4, e22, e21]
    rcases hop with rfl | rfl
    · rfl
    · rfl
theorem l1_l2 {g : Nat → Int32} {c c' d : Nat} {o : Nat → Bool} {E : Vx → Int32} (h : L2Sem g c c' d o E) : L1Sem g c c' d o E := fun x f hf h24 h21 h22 h20 => by
  obtain ⟨f1, q1, q2, q3, q4⟩ := h x f hf h24 h21 h22
  refine ⟨f1, q1, q2, fun a ha => q3 a (by omega), ?_⟩
  unfold tstV
  rw [q3 20 (by omega), h20, if_neg (by decide), if_neg (by decide), q4]
theorem l1_cmp {g : Nat → Int32} {c c1 c2 d : Nat} {o : Nat → Bool} {E1 E2 : Vx → Int32} {op : Int32} (hop : op = 24 ∨ op = 25) (hc : c ≤ c1) (hc2 : c1 < c2) (h1 : L2Sem g c c1 d o E1) (hg : g c1 = op) (h2 : L2Sem g (c1 + 1) c2 d o E2) : L1Sem g c c2 d o (fun x => jnS (if op = 24 then 3 else 4) (E1 x) (E2 x)) := fun x f hf h24 h21 h22 h20 => by
  obtain ⟨f1, q1, q2, q3, q4⟩ := h1 x f hf h24 h21 h22
  obtain ⟨f2, e2⟩ : ∃ y, y = upE (upE (upE (upE (sumsE f1 d) 19 d (sumV f1 d)) 20 d op) 21 d 0) 22 d 20 := ⟨_, rfl⟩
  have n2 : ∀ a j, (j ≠ d ∨ a < 19 ∨ 24 < a) → f2 a j = f1 a j := fun a j hj => by rw [e2]; unfold sumsE; rw [upE_n (by omega), upE_n (by omega), upE_n (by omega), upE_n (by omega), upE_n (by omega), upE_n (by omega)]
  have l2 : Lw f2 f d := ⟨fun a j hj => by rw [n2 a j (by omega)]; exact q2.1 a j hj, by rw [n2 25 d (by omega)]; exact q2.2⟩
  have e24 : f2 24 d = 0 := by rw [e2]; unfold sumsE; rw [upE_n (Or.inl (by decide)), upE_n (Or.inl (by decide)), upE_n (Or.inl (by decide)), upE_n (Or.inl (by decide)), upE_s]
  have e21 : f2 21 d = 0 := by rw [e2, upE_n (Or.inl (by decide)), upE_s]
  have e22 : f2 22 d = 20 := by rw [e2, upE_s]
  have e20 : f2 20 d = op := by rw [e2, upE_n (Or.inl (by decide)), upE_n (Or.inl (by decide)), upE_s]
  have e19 : f2 19 d = E1 x := by rw [e2, upE_n (Or.inl (by decide)), upE_n (Or.inl (by decide)), upE_n (Or.inl (by decide)), upE_s]; exact q4
  obtain ⟨f3, w1, w2, w3, w4⟩ := h2 x f2 (bn_lw hf l2) e24 e21 e22
  refine ⟨f3, ?_, ⟨fun a j hj => (w2.1 a j hj).trans (l2.1 a j hj), w2.2.trans l2.2⟩, fun a ha => by rw [w3 a (by omega), n2 a d (by omega)]; exact q3 a (by omega), ?_⟩
  · rw [rnE_mid hc hc2, q1, hg]
    have : stepE x op (d, f1) = (d, f2) := by
      unfold stepE
      rw [if_neg (by rcases hop with rfl | rfl <;> decide), if_neg (by rcases hop with rfl | rfl <;> decide), if_neg (by rcases hop with rfl | rfl <;> decide), if_pos hop, e2]
    rw [this]; exact w1
  · unfold tstV
    rw [w3 20 (by omega), w3 19 (by omega), w4, e20, e19]
    rcases hop with rfl | rfl
    · rfl
    · rfl
theorem l0_l1 {g : Nat → Int32} {c c' d : Nat} {o : Nat → Bool} {E : Vx → Int32} (h : L1Sem g c c' d o E) : L0Sem g c c' d o E := fun x f hf h24 h21 h22 h20 h18 => by
  obtain ⟨f1, q1, q2, q3, q4⟩ := h x f hf h24 h21 h22 h20
  refine ⟨f1, q1, q2, ?_⟩
  unfold eV
  rw [q3 18 (by omega), h18, if_neg (by decide), if_neg (by decide), q4]
theorem tests_at {f : Nat → Nat → Int32} {d : Nat} : (∀ a j, (j ≠ d ∨ (a ≠ 17 ∧ a ≠ 20 ∧ a ≠ 21 ∧ a ≠ 22 ∧ a ≠ 24)) → testsE f d a j = f a j) ∧ testsE f d 17 d = eV f d ∧ testsE f d 20 d = 0 ∧ testsE f d 21 d = 0 ∧ testsE f d 22 d = 20 ∧ testsE f d 24 d = 0 := by
  unfold testsE sumsE
  refine ⟨fun a j hj => ?_, ?_, ?_, ?_, ?_, ?_⟩
  · rw [upE_n (by omega), upE_n (by omega), upE_n (by omega), upE_n (by omega), upE_n (by omega), upE_n (by omega)]
  · rw [upE_n (Or.inl (by decide)), upE_n (Or.inl (by decide)), upE_n (Or.inl (by decide)), upE_s]
  · rw [upE_n (Or.inl (by decide)), upE_n (Or.inl (by decide)), upE_s]
  · rw [upE_n (Or.inl (by decide)), upE_s]
  · rw [upE_s]
  · rw [upE_n (Or.inl (by decide)), upE_n (Or.inl (by decide)), upE_n (Or.inl (by decide)), upE_n (Or.inl (by decide)), upE_s]
theorem l0_and {g : Nat → Int32} {c c1 c2 d : Nat} {o : Nat → Bool} {E1 E2 : Vx → Int32} {op : Int32} (hop : op = 26 ∨ op = 27) (hc : c ≤ c1) (hc2 : c1 < c2) (h1 : L0Sem g c c1 d o E1) (hg : g c1 = op) (h2 : L1Sem g (c1 + 1) c2 d o E2) : L0Sem g c c2 d o (fun x => jnS (if op = 26 then 1 else 2) (E1 x) (E2 x)) := fun x f hf h24 h21 h22 h20 h18 => by
  obtain ⟨f1, q1, q2, q4⟩ := h1 x f hf h24 h21 h22 h20 h18
  obtain ⟨f2, e2⟩ : ∃ y, y = upE (testsE f1 d) 18 d op := ⟨_, rfl⟩
  obtain ⟨t1, t2, t3, t4, t5, t6⟩ := tests_at (f := f1) (d := d)
  have n2 : ∀ a, a ≠ 18 → f2 a d = testsE f1 d a d := fun a ha => by rw [e2, upE_n (Or.inl ha)]
  have l2 : Lw f2 f d := ⟨fun a j hj => by rw [e2, upE_n (Or.inr (by omega)), t1 a j (by omega)]; exact q2.1 a j hj, by rw [n2 25 (by decide), t1 25 d (by omega)]; exact q2.2⟩
  obtain ⟨f3, w1, w2, w3, w4⟩ := h2 x f2 (bn_lw hf l2) (by rw [n2 24 (by decide)]; exact t6) (by rw [n2 21 (by decide)]; exact t4) (by rw [n2 22 (by decide)]; exact t5) (by rw [n2 20 (by decide)]; exact t3)
  refine ⟨f3, ?_, ⟨fun a j hj => (w2.1 a j hj).trans (l2.1 a j hj), w2.2.trans l2.2⟩, ?_⟩
  · rw [rnE_mid hc hc2, q1, hg]
    have : stepE x op (d, f1) = (d, f2) := by
      unfold stepE
      rw [if_neg (by rcases hop with rfl | rfl <;> decide), if_neg (by rcases hop with rfl | rfl <;> decide), if_neg (by rcases hop with rfl | rfl <;> decide), if_neg (by rcases hop with rfl | rfl <;> decide), if_pos hop, e2]
    rw [this]; exact w1
  · unfold eV
    rw [w3 18 (by omega), w3 17 (by omega), w4, n2 17 (by decide), t2, q4, e2, upE_s]
    rcases hop with rfl | rfl
    · rfl
    · rfl
theorem psem_par {g : Nat → Int32} {c c1 d : Nat} {o o' : Nat → Bool} {E : Vx → Int32} (hc : c < c1) (hg : g c = 28) (hg1 : g c1 = 29) (ho : o' (d + 1) = false) (hoo : ∀ j, 0 < j → j ≤ d → o' j = o j) (h : L0Sem g (c + 1) c1 (d + 1) o' E) : PartSem g c (c1 + 1) d o E := fun x f hf => by
  have ple := popD_le o d
  obtain ⟨f1, e1⟩ : ∃ y, y = opensE (upE f 25 (d + 1) 0) (d + 1) := ⟨_, rfl⟩
  have b1 : BnOk f1 o' (d + 1) := fun j h1 h2 => by
    by_cases z : j = d + 1
    · subst z; rw [e1, opens_25, ho]; exact ⟨fun y => absurd y (by decide), fun y => by cases y⟩
    · rw [e1, opens_lt z, hoo j h1 (by omega)]; exact hf j h1 (by omega)
  have g24 : f1 24 (d + 1) = 0 := by rw [e1]; unfold opensE; rw [upE_s]
  have g22 : f1 22 (d + 1) = 20 := by rw [e1]; unfold opensE; rw [upE_n (Or.inl (by decide)), upE_s]
  have g21 : f1 21 (d + 1) = 0 := by rw [e1]; unfold opensE; rw [upE_n (Or.inl (by decide)), upE_n (Or.inl (by decide)), upE_s]
  have g20 : f1 20 (d + 1) = 0 := by rw [e1]; unfold opensE; rw [upE_n (Or.inl (by decide)), upE_n (Or.inl (by decide)), upE_n (Or.inl (by decide)), upE_s]
  have g18 : f1 18 (d + 1) = 0 := by rw [e1]; unfold opensE; rw [upE_n (Or.inl (by decide)), upE_n (Or.inl (by decide)), upE_n (Or.inl (by decide)), upE_n (Or.inl (by decide)), upE_s]
  obtain ⟨f2, q1, q2, q4⟩ := h x f1 b1 g24 g21 g22 g20 g18
  obtain ⟨t1, t2, t3, t4, t5, t6⟩ := tests_at (f := f2) (d := d + 1)
  have lo : ∀ a j, j ≤ d → testsE f2 (d + 1) a j = f a j := fun a j hj => by rw [t1 a j (by omega), q2.1 a j (by omega), e1, opens_lt (by omega)]
  obtain ⟨f3, w1, w2, w3⟩ := fin_sem (f := testsE f2 (d + 1)) (o := o) (d := d) (E x) (fun j h1 h2 => by rw [lo 25 j h2]; exact hf j h1 h2)
  refine ⟨f3, ?_, fun a j h1 h2 => by rw [w2 a j h2, lo a j (by omega)], by rw [w3, lo 24 _ ple, lo 23 _ ple]⟩
  rw [rnE_mid (j := c) (Nat.le_refl _) (show c < c1 + 1 by omega), Nat.sub_self]
  show rnE x g (c + 1) (c1 + 1 - (c + 1)) (stepE x (g c) (d, f)) = _
  rw [hg, step_o (Or.inl rfl)]
  show rnE x g (c + 1) (c1 + 1 - (c + 1)) (d + 1, opensE (upE f 25 (d + 1) (if (28 : Int32) = 30 then 1 else 0)) (d + 1)) = _
  rw [if_neg (by decide), ← e1, rnE_mid (j := c1) (by omega) (Nat.lt_succ_self _), q1, Nat.sub_self, hg1]
  show stepE x 29 (d + 1, f2) = _
  unfold stepE
  rw [if_neg (by decide), if_neg (by decide), if_neg (by decide), if_neg (by decide), if_neg (by decide), if_pos rfl]
  show finE (testsE f2 (d + 1)) (d + 1 - 1) (eV f2 (d + 1)) = _
  rw [Nat.add_sub_cancel, q4]; exact w1
