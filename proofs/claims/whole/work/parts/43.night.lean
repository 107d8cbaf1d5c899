/-! a town and a night as plain values -/
abbrev Tw : Type := (Nat × Nat × Nat) × (Nat → Nat) × (Nat → Nat) × (Nat → Int32) × (Nat → Int32) × (Nat → Nat → Option Nat) × (Int32 → Int32 → Int32 → Int32 → Nat) × (Nat → Nat) × (Nat → Nat) × (Nat → Int32) × Int32
def tP (T : Tw) : Nat := T.1.1
def tL (T : Tw) : Nat := T.1.2.1
def tW (T : Tw) : Nat := T.1.2.2
def tA (T : Tw) : Nat → Nat := T.2.1
def tB (T : Tw) : Nat → Nat := T.2.2.1
def tT (T : Tw) : Nat → Int32 := T.2.2.2.1
def tK (T : Tw) : Nat → Int32 := T.2.2.2.2.1
def tF (T : Tw) : Nat → Nat → Option Nat := T.2.2.2.2.2.1
def tE (T : Tw) : Int32 → Int32 → Int32 → Int32 → Nat := T.2.2.2.2.2.2.1
def tS (T : Tw) : Nat → Nat := T.2.2.2.2.2.2.2.1
def tG (T : Tw) : Nat → Nat := T.2.2.2.2.2.2.2.2.1
def tM (T : Tw) : Nat → Int32 := T.2.2.2.2.2.2.2.2.2.1
def tC (T : Tw) : Int32 := T.2.2.2.2.2.2.2.2.2.2
abbrev Nt : Type := (Int32 × Int32 × Int32) × (Nat → Nat) × (Nat → Nat) × (Nat → Nat) × (Nat → Int32) × (Nat → Nat)
def nT (N : Nt) : Int32 := N.1.1
def nP (N : Nt) : Int32 := N.1.2.1
def nD (N : Nt) : Int32 := N.1.2.2
def nL (N : Nt) : Nat → Nat := N.2.1
def nB (N : Nt) : Nat → Nat := N.2.2.1
def nG (N : Nt) : Nat → Nat := N.2.2.2.1
def nS (N : Nt) : Nat → Int32 := N.2.2.2.2.1
def nE (N : Nt) : Nat → Nat := N.2.2.2.2.2
/-- the town is sound -/
def TwOk (T : Tw) : Prop := tP T ≤ 6 ∧ tL T ≤ 8 ∧ tW T ≤ 6 ∧ (∀ k, k < tL T → tA T k < tP T ∧ tB T k < tP T ∧ tA T k ≠ tB T k) ∧ (∀ a b k, a < tP T → b < tP T → tF T a b = some k → k < tL T ∧ (tA T k = a ∨ tB T k = a) ∧ a ≠ b) ∧ (∀ a b c d, tE T a b c d ≤ 30) ∧ (∀ w, w < tW T → tS T w < tP T ∧ tG T w < tP T) ∧ (∀ k, k < tL T → ∃ m, m ≤ 20 ∧ tT T k = nI m)
/-- how much longer the lanes are told to burn -/
def LgOk (lg : Int32) : Prop := ∃ m, m ≤ 9 ∧ lg = nI m
theorem LgOk.z : LgOk 0 := ⟨0, by omega, rfl⟩
/-- the night is sound in that town -/
def NtOk (T : Tw) (N : Nt) : Prop := (∀ k, nL N k ≤ 30) ∧ (∀ w, w < tW T → nB N w < tP T ∧ nG N w < tP T ∧ nE N w < 3 ∧ (0 < nE N w → tK T w = 3 ∧ ∃ k, tF T (nB N w) (nG N w) = some k))
/-- a place or none, as the class tells it -/
def oI (o : Option Nat) : Int32 := match o with
  | some k => nI k
  | none => -1
def othE (T : Tw) (k p : Nat) : Nat := if tA T k = p then tB T k else tA T k
/-- the lane along which one goes in the minute to come -/
def lnA (T : Tw) (N : Nt) (w : Nat) : Option Nat := if nT N < nS N w then none else tF T (nB N w) (nG N w)
def homeN (T : Tw) (N : Nt) (w : Nat) : Bool := (tF T (nB N w) (nG N w)).isNone
def outN (T : Tw) (N : Nt) (w : Nat) : Bool := (lnA T N w).isSome
def dkN (T : Tw) (N : Nt) (w : Nat) : Bool := match lnA T N w with
  | some k => nL N k == 0 && decide (tK T w ≠ 1) && decide (tK T w ≠ 2)
  | none => false
def ftN (T : Tw) (N : Nt) (k : Nat) : Nat := cnt (fun w => lnA T N w == some k) (tW T)
def wkN (T : Tw) (N : Nt) (k : Nat) : Bool := decide (0 < ftN T N k)
/-- whoever goes on to the next lane behind this minute -/
def onN (T : Tw) (N : Nt) (w : Nat) : Bool := decide (tK T w ≠ 3) || decide (2 ≤ nE N w)
def litN (T : Tw) (N : Nt) (lg : Int32) (k : Nat) : Nat := if k < tL T then (if 0 < ftN T N k then max (nL N k - 1) (tE T (tT T k + lg) (nI (nL N k - 1)) (nI (ftN T N k)) (nT N)) else nL N k - 1) else nL N k
def passN (T : Tw) (N : Nt) (lg : Int32) : Nt := ((nT N + 1, nP N, nD N + nI (cnt (dkN T N) (tW T))), litN T N lg, fun w => (match lnA T N w with | some k => if onN T N w then othE T k (nB N w) else nB N w | none => nB N w), nG N, nS N, fun w => (match lnA T N w with | some _ => if onN T N w then 0 else nE N w + 1 | none => nE N w))
/-! what does not change -/
def Off (S : List Nat) (σ τ : Mm) : Prop := (∀ a, a ∉ S → ∀ k, gI τ a k = gI σ a k) ∧ (∀ a k, gL τ a k = gL σ a k) ∧ (∀ a k, gR τ a k = gR σ a k)
theorem Off.rf {S : List Nat} {σ : Mm} : Off S σ σ := ⟨fun _ _ _ => rfl, fun _ _ => rfl, fun _ _ => rfl⟩
theorem Off.tr {S : List Nat} {σ τ υ : Mm} (h1 : Off S σ τ) (h2 : Off S τ υ) : Off S σ υ := ⟨fun a ha k => (h2.1 a ha k).trans (h1.1 a ha k), fun a k => (h2.2.1 a k).trans (h1.2.1 a k), fun a k => (h2.2.2 a k).trans (h1.2.2 a k)⟩
theorem Off.mono {S S' : List Nat} {σ τ : Mm} (h : Off S σ τ) (hs : ∀ a, a ∈ S → a ∈ S') : Off S' σ τ := ⟨fun a ha k => h.1 a (fun q => ha (hs a q)) k, h.2.1, h.2.2⟩
theorem Off.pI {S : List Nat} {σ : Mm} {a k : Nat} {v : Int32} (h : a ∈ S) : Off S σ (pI σ a k v) := ⟨fun b hb j => gI_pI_n (Or.inl (fun e => hb (by rw [e]; exact h))), fun _ _ => rfl, fun _ _ => rfl⟩
/-! a town, a night in the class's memory -/
def TC (σ : Mm) (t : Nat) (T : Tw) : Prop := isTown t = true ∧ gI σ t 0 = nI (tP T) ∧ gI σ t 1 = nI (tL T) ∧ gI σ t 2 = nI (tW T) ∧ gI σ t 3 = tC T ∧ (∀ k, k < tL T → gI σ (t + 5) k = nI (tA T k) ∧ gI σ (t + 6) k = nI (tB T k) ∧ gI σ (t + 7) k = tT T k) ∧ (∀ w, w < tW T → gI σ (t + 9) w = tK T w ∧ gI σ (t + 10) w = nI (tS T w) ∧ gI σ (t + 11) w = nI (tG T w) ∧ gI σ (t + 12) w = tM T w) ∧ (∀ a b, a < tP T → b < tP T → gI σ (t + 14) (6 * a + b) = oI (tF T a b)) ∧ (∀ τ, (∀ k, gI τ (t + 1) k = gI σ (t + 1) k) → (∀ k, gI τ (t + 2) k = gI σ (t + 2) k) → ∀ x1 x2 x3 x4, ¬ x1 < 0 → ∃ υ, f_X1_tells (t + 1) x1 x2 x3 x4 τ = some (nI (tE T x1 x2 x3 x4), υ) ∧ Off [t + 3] τ υ)
def RC (σ : Mm) (n : Nat) (W : Nat) (N : Nt) : Prop := isNight n = true ∧ gI σ n 0 = nT N ∧ gI σ n 1 = nP N ∧ gI σ n 2 = nD N ∧ (∀ k, k < 8 → gI σ (n + 1) k = nI (nL N k)) ∧ (∀ w, w < W → gI σ (n + 2) w = nI (nB N w) ∧ gI σ (n + 3) w = nI (nG N w) ∧ gI σ (n + 4) w = nS N w ∧ gI σ (n + 5) w = nI (nE N w))
/-- a town in the class's memory lies apart from the nights -/
theorem town_night {t n : Nat} (ht : isTown t = true) (hn : isNight n = true) : t ≥ 207 ∧ t ≤ 222 ∧ (t = 207 ∨ t = 222) ∧ n + 6 < 204 := by
  have ht : t ∈ ([207, 222] : List Nat) := List.contains_iff_mem.mp ht
  have hn : n ∈ ([6, 15, 22, 29, 36, 43, 50, 57, 64, 71, 78, 85, 92, 99, 106, 113, 120, 133, 149, 165, 181, 197] : List Nat) := List.contains_iff_mem.mp hn
  simp only [List.mem_cons, List.not_mem_nil, or_false] at ht hn
  omega
theorem TC.off {σ τ : Mm} {t : Nat} {T : Tw} {S : List Nat} (h : TC σ t T) (o : Off S σ τ) (hs : ∀ a, a ∈ S → a < t ∨ a = t + 3 ∨ t + 14 < a) : TC τ t T := by
  obtain ⟨h1, h2, h3, h4, h5, h6, h7, h8, h9⟩ := h
  have q : ∀ j, j ≠ 3 → j ≤ 14 → ∀ k, gI τ (t + j) k = gI σ (t + j) k := fun j hj hj2 k => o.1 _ (fun hm => by have := hs _ hm; omega) k
  have q0 : ∀ k, gI τ t k = gI σ t k := fun k => q 0 (by omega) (by omega) k
  refine ⟨h1, by rw [q0]; exact h2, by rw [q0]; exact h3, by rw [q0]; exact h4, by rw [q0]; exact h5, fun k hk => ?_, fun w hw => ?_, fun a b ha hb => ?_, fun υ e1 e2 => ?_⟩
  · rw [q 5 (by omega) (by omega), q 6 (by omega) (by omega), q 7 (by omega) (by omega)]; exact h6 k hk
  · rw [q 9 (by omega) (by omega), q 10 (by omega) (by omega), q 11 (by omega) (by omega), q 12 (by omega) (by omega)]; exact h7 w hw
  · rw [q 14 (by omega) (by omega)]; exact h8 a b ha hb
  · exact h9 υ (fun k => by rw [e1, q 1 (by omega) (by omega)]) (fun k => by rw [e2, q 2 (by omega) (by omega)])
theorem s_firstLane {σ : Mm} {t : Nat} {T : Tw} (h : TC σ t T) (hT : TwOk T) {a b : Nat} (ha : a < tP T) (hb : b < tP T) : f_X9_firstLane t (nI a) (nI b) σ = some (oI (tF T a b), σ) := by
  obtain ⟨h1, h2, h3, h4, h5, h6, h7, h8, h9⟩ := h
  have hP := hT.1
  have e : nI a * 6 + nI b = nI (6 * a + b) := by rw [show (6 : Int32) = nI 6 from rfl, pk_mul, nI_add, Nat.mul_comm]
  have p1 : ¬ nI a < 0 := nI_pos (by omega)
  have p2 : nI a < gI σ t 0 := by rw [h2]; exact nI_lt ha (by omega)
  have p3 : ¬ nI b < 0 := nI_pos (by omega)
  have p4 : nI b < gI σ t 0 := by rw [h2]; exact nI_lt hb (by omega)
  unfold f_X9_firstLane
  rw [ck_t h1]
  simp only [jn_e, if_neg p1, if_pos p2, if_neg p3, if_pos p4, bn_e, e, ck_t (inb_nI (show 6 * a + b < 36 by omega) (by omega)), nI_tn (show 6 * a + b < 2147483648 by omega), h8 a b ha hb]
  rfl
theorem s_hasLane1 {σ : Mm} {t : Nat} {T : Tw} (h : TC σ t T) (hT : TwOk T) {k : Nat} (hk : k < tL T) : f_X9_hasLane t (nI k) σ = some (1, σ) := by
  have hL := hT.2.1
  have p1 : ¬ nI k < 0 := nI_pos (by omega)
  have p2 : nI k < gI σ t 1 := by rw [h.2.2.1]; exact nI_lt hk (by omega)
  rw [(s_has h.1 (nI k)).2.1, if_pos ⟨p1, p2⟩]
theorem s_hasLane0 {σ : Mm} {t : Nat} {T : Tw} (h : TC σ t T) : f_X9_hasLane t (-1) σ = some (0, σ) := by
  rw [(s_has h.1 (-1)).2.1, if_neg (fun q => q.1 (by decide))]
theorem s_hasWalker1 {σ : Mm} {t : Nat} {T : Tw} (h : TC σ t T) (hT : TwOk T) {w : Nat} (hw : w < tW T) : f_X9_hasWalker t (nI w) σ = some (1, σ) := by
  have hL := hT.2.2.1
  have p1 : ¬ nI w < 0 := nI_pos (by omega)
  have p2 : nI w < gI σ t 2 := by rw [h.2.2.2.1]; exact nI_lt hw (by omega)
  rw [(s_has h.1 (nI w)).2.2, if_pos ⟨p1, p2⟩]
theorem s_otherEnd {σ : Mm} {t : Nat} {T : Tw} (h : TC σ t T) (hT : TwOk T) {k p : Nat} (hk : k < tL T) (hp : p < tP T) : f_X9_otherEnd t (nI k) (nI p) σ = some (nI (othE T k p), σ) := by
  obtain ⟨h1, h2, h3, h4, h5, h6, h7, h8, h9⟩ := h
  have hP := hT.1
  have hL := hT.2.1
  have hab := hT.2.2.2.1 k hk
  have p1 : ¬ nI k < 0 := nI_pos (by omega)
  have p2 : nI k < gI σ t 1 := by rw [h3]; exact nI_lt hk (by omega)
  unfold f_X9_otherEnd
  have hne : ¬ (1 : Int32) = 0 := by decide
  rw [ck_t h1, cl_of _ (s_hasLane1 ⟨h1, h2, h3, h4, h5, h6, h7, h8, h9⟩ hT hk), if_neg hne]
  simp only [ck_t (inb_nI (show k < 8 by omega) (by omega)), nI_tn (show k < 2147483648 by omega), (h6 k hk).1, (h6 k hk).2.1]
  unfold othE
  by_cases e : tA T k = p
  · rw [if_pos (by rw [e]), if_pos e]
  · rw [if_neg (fun q => e ((nI_eq (by omega) (by omega)).mp q)), if_neg e]
theorem s_laneAhead {σ : Mm} {t n : Nat} {T : Tw} {N : Nt} (h : TC σ t T) (hT : TwOk T) (r : RC σ n (tW T) N) (hN : NtOk T N) {w : Nat} (hw : w < tW T) : f_X4_laneAhead n t (nI w) σ = some (oI (lnA T N w), σ) := by
  have hW := hT.2.2.1
  obtain ⟨r1, r2, r3, r4, r5, r6⟩ := r
  obtain ⟨q1, q2, q3, q4⟩ := r6 w hw
  obtain ⟨b1, b2, b3, -⟩ := hN.2 w hw
  unfold f_X4_laneAhead
  rw [ck_t r1, ck_t h.1, ck_t (inb_nI (show w < 6 by omega) (by omega))]
  simp only [nI_tn (show w < 2147483648 by omega), r2, q3, q1, q2, ck_t (inb_nI (show w < 6 by omega) (by omega)), cl_of _ (s_firstLane h hT b1 b2)]
  unfold lnA
  by_cases e : nT N < nS N w
  · rw [if_pos e, if_pos e]; rfl
  · rw [if_neg e, if_neg e]
theorem s_isHome {σ : Mm} {t n : Nat} {T : Tw} {N : Nt} (h : TC σ t T) (hT : TwOk T) (r : RC σ n (tW T) N) (hN : NtOk T N) {w : Nat} (hw : w < tW T) : f_X4_isHome n t (nI w) σ = some ((if homeN T N w then 1 else 0), σ) := by
  have hW := hT.2.2.1
  have hL := hT.2.1
  obtain ⟨r1, r2, r3, r4, r5, r6⟩ := r
  obtain ⟨q1, q2, q3, q4⟩ := r6 w hw
  obtain ⟨b1, b2, b3, -⟩ := hN.2 w hw
  unfold f_X4_isHome
  rw [ck_t r1, ck_t h.1, ck_t (inb_nI (show w < 6 by omega) (by omega)), ck_t (inb_nI (show w < 6 by omega) (by omega))]
  simp only [nI_tn (show w < 2147483648 by omega), q1, q2, cl_of _ (s_firstLane h hT b1 b2)]
  unfold homeN
  cases e : tF T (nB N w) (nG N w) with
  | none => rfl
  | some k =>
    have hk := (hT.2.2.2.2.1 _ _ k b1 b2 e).1
    have : ¬ nI k = -1 := fun q => by
      have := nI_pos (n := k) (by omega)
      rw [q] at this
      exact this (by decide)
    simp only [oI, this, if_false]
    rfl
theorem s_isOut {σ : Mm} {t n : Nat} {T : Tw} {N : Nt} (h : TC σ t T) (hT : TwOk T) (r : RC σ n (tW T) N) (hN : NtOk T N) {w : Nat} (hw : w < tW T) : f_X4_isOut n t (nI w) σ = some ((if outN T N w then 1 else 0), σ) := by
  have hW := hT.2.2.1
  have hh := s_isHome h hT r hN hw
  obtain ⟨r1, r2, r3, r4, r5, r6⟩ := r
  obtain ⟨q1, q2, q3, q4⟩ := r6 w hw
  unfold f_X4_isOut
  rw [ck_t r1, ck_t h.1, ck_t (inb_nI (show w < 6 by omega) (by omega)), jn_e]
  simp only [nI_tn (show w < 2147483648 by omega), r2, q3, cl_of _ hh]
  unfold outN lnA homeN
  by_cases e : nT N < nS N w
  · rw [if_pos e, if_pos e]; rfl
  · rw [if_neg e, if_neg e]
    cases tF T (nB N w) (nG N w) <;> rfl
