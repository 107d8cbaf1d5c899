/-! an evening -/
abbrev Ln : Type := Nat × (Nat → Nat) × (Nat → Nat) × (Nat → Nat)
def lM (l : Ln) : Nat := l.1
def lV (l : Ln) : Nat → Nat := l.2.1
def lF (l : Ln) : Nat → Nat := l.2.2.1
def lG (l : Ln) : Nat → Nat := l.2.2.2
def LnOk (T : Tw) (l : Ln) : Prop := lM l ≤ 40 ∧ ∀ k, k < lM l → lV l k ≤ 3 ∧ (lV l k = 1 → lF l k < tP T ∧ lG l k < tP T) ∧ (2 ≤ lV l k → lF l k < tW T)
def LC (σ : Mm) (a : Nat) (l : Ln) : Prop := isLines a = true ∧ gI σ a 0 = nI (lM l) ∧ ∀ k, k < lM l → gI σ (a + 1) k = nI (8 + lV l k) ∧ (lV l k ≠ 0 → gI σ (a + 2) k = nI (lF l k)) ∧ (lV l k = 1 → gI σ (a + 3) k = nI (lG l k))
def LR (σ : Mm) (r : Nat) (l : Ln) : Prop := gI σ 28 r = nI (lM l) ∧ ∀ k, k < lM l → gI σ 29 (40 * r + k) = nI (lV l k) ∧ (lV l k ≠ 0 → gI σ 30 (40 * r + k) = nI (lF l k)) ∧ (lV l k = 1 → gI σ 31 (40 * r + k) = nI (lG l k))
theorem LC.off {σ τ : Mm} {a : Nat} {l : Ln} {S : List Nat} (h : LC σ a l) (o : Off S σ τ) (hs : ∀ x, x ∈ S → x < a ∨ a + 3 < x) : LC τ a l := by
  have q : ∀ j, j ≤ 3 → ∀ k, gI τ (a + j) k = gI σ (a + j) k := fun j hj k => o.1 _ (fun hm => by have := hs _ hm; omega) k
  refine ⟨h.1, by rw [show gI τ a 0 = gI σ a 0 from q 0 (by omega) 0]; exact h.2.1, fun k hk => ?_⟩
  rw [q 1 (by omega), q 2 (by omega), q 3 (by omega)]; exact h.2.2 k hk
theorem LR.gi {σ τ : Mm} {r : Nat} {l : Ln} (h : LR σ r l) (e : ∀ a, a = 28 ∨ a = 29 ∨ a = 30 ∨ a = 31 → ∀ k, gI τ a k = gI σ a k) : LR τ r l := by
  refine ⟨by rw [e 28 (by omega)]; exact h.1, fun k hk => ?_⟩
  rw [e 29 (by omega), e 30 (by omega), e 31 (by omega)]; exact h.2 k hk
theorem LR.q {σ τ : Mm} {r : Nat} {l : Ln} (h : LR σ r l) (q : QM σ τ) : LR τ r l := h.gi (fun a ha k => q.1 a (by rcases ha with rfl | rfl | rfl | rfl <;> simp [qM, lawM]) k)
/-- the lane between two places -/
def lnO (T : Tw) (a b : Nat) : Option Nat := fst1 (fun k => decide (tA T k = a ∧ tB T k = b ∨ tA T k = b ∧ tB T k = a)) 0 (tL T)
theorem lnO_lt {T : Tw} {a b k : Nat} (h : lnO T a b = some k) : k < tL T := by have := (fst1_some h).2.1; omega
theorem lnB_O {T : Tw} (hT : TwOk T) {F G : Nat → Int32} (hF : ∀ k, k < tL T → F k = nI (tA T k) ∧ G k = nI (tB T k)) {a b : Nat} (ha : a < 2147483648) (hb : b < 2147483648) : lnB F G (tL T) (nI a) (nI b) = oI (lnO T a b) := by
  unfold lnB lnO
  rw [fst1_congr (q := fun k => decide (tA T k = a ∧ tB T k = b ∨ tA T k = b ∧ tB T k = a)) (fun j _ hj => ?_)]
  · cases fst1 (fun k => decide (tA T k = a ∧ tB T k = b ∨ tA T k = b ∧ tB T k = a)) 0 (tL T) <;> rfl
  · have hj : j < tL T := by omega
    obtain ⟨f1, f2⟩ := hF j hj
    have hP := hT.1
    obtain ⟨l1, l2, -⟩ := hT.2.2.2.1 j hj
    unfold lanP
    rw [f1, f2, decide_eq_decide]
    have z1 : nI (tA T j) = nI a ↔ tA T j = a := nI_eq (by omega) ha
    have z2 : nI (tB T j) = nI b ↔ tB T j = b := nI_eq (by omega) hb
    have z3 : nI (tA T j) = nI b ↔ tA T j = b := nI_eq (by omega) hb
    have z4 : nI (tB T j) = nI a ↔ tB T j = a := nI_eq (by omega) ha
    rw [z1, z2, z3, z4]
theorem s_laneB {σ : Mm} {t : Nat} {T : Tw} (hc : TC σ t T) (hT : TwOk T) {a b : Nat} (ha : a < 2147483648) (hb : b < 2147483648) : f_X9_laneBetween t (nI a) (nI b) σ = some (oI (lnO T a b), σ) := by
  rw [s_laneBetween hc.1 hc.2.2.1 hT.2.1, lnB_O hT (fun k hk => ⟨(hc.2.2.2.2.2.1 k hk).1, (hc.2.2.2.2.2.1 k hk).2.1⟩) ha hb]
theorem m_laneB {σ : Mm} {T : Tw} (h : TM σ T) (hT : TwOk T) {a b : Nat} (ha : a < 2147483648) (hb : b < 2147483648) : f_X12_laneOf 0 (nI a) (nI b) σ = some (oI (lnO T a b), σ) := by
  have := m_laneOf (σ := σ) (r := 0) (L := tL T) (by omega) h.2.1 hT.2.1 (nI a) (nI b)
  rw [lnB_O hT (fun k hk => by rw [Nat.mul_zero, Nat.zero_add]; exact ⟨(h.2.2.2.2.1 k hk).1, (h.2.2.2.2.1 k hk).2.1⟩) ha hb] at this
  exact this
/-- a line is done, if it can be -/
def obeyN (T : Tw) (N : Nt) (v a b : Nat) : Option Nt := if v = 0 then some (passN T N 0) else if v = 1 then (lnO T a b).map (sendN T N) else if v = 2 then (if homeN T N a then none else some (waitN N a)) else (if tuN T N a then some (turnN T N a) else none)
theorem obeyN_ok {T : Tw} {N : Nt} (hT : TwOk T) (hN : NtOk T N) {v a b : Nat} (hv : 2 ≤ v → a < tW T) : NtOk T ((obeyN T N v a b).getD N) := by
  unfold obeyN
  by_cases c0 : v = 0
  · rw [if_pos c0]; exact passN_ok hT hN 0
  · rw [if_neg c0]
    by_cases c1 : v = 1
    · rw [if_pos c1]
      cases lnO T a b with
      | none => exact hN
      | some k => exact sendN_ok hT hN k
    · rw [if_neg c1]
      by_cases c2 : v = 2
      · rw [if_pos c2]
        cases homeN T N a
        · exact waitN_ok hN a
        · exact hN
      · rw [if_neg c2]
        cases e : tuN T N a
        · exact hN
        · have ha := hv (by omega)
          exact turnN_ok hT hN ha (tuN_E hN ha e)
def b1I (b : Bool) : Int32 := if b then 1 else 0
theorem s_obey {σ : Mm} {t : Nat} {T : Tw} {N : Nt} (hc : TC σ t T) (hT : TwOk T) (r : RC σ 197 (tW T) N) (hN : NtOk T N) {v a b : Nat} {x y : Int32} (hv : v ≤ 3) (h1 : v ≠ 0 → x = nI a) (h2 : v = 1 → y = nI b ∧ a < tP T ∧ b < tP T) (h3 : 2 ≤ v → a < tW T) :
    ∃ τ, f_X4_obey 197 t (nI (8 + v)) x y σ = some (b1I (obeyN T N v a b).isSome, τ) ∧ RC τ 197 (tW T) ((obeyN T N v a b).getD N) ∧ Off (tryC t) σ τ := by
  have hP := hT.1
  have hW := hT.2.2.1
  have hL := hT.2.1
  unfold f_X4_obey
  rw [ck_t n197, ck_t hc.1]
  have e8 : nI (8 + v) = 8 ↔ v = 0 := (nI_eq (b := 8) (by omega) (by omega)).trans (by omega)
  have e9 : nI (8 + v) = 9 ↔ v = 1 := (nI_eq (b := 9) (by omega) (by omega)).trans (by omega)
  have e10 : nI (8 + v) = 10 ↔ v = 2 := (nI_eq (b := 10) (by omega) (by omega)).trans (by omega)
  have e11 : nI (8 + v) = 11 ↔ v = 3 := (nI_eq (b := 11) (by omega) (by omega)).trans (by omega)
  unfold obeyN
  by_cases c0 : v = 0
  · obtain ⟨τ, t1, t2, t3, -, -⟩ := s_pass LgOk.z hc hT r hN
    rw [if_pos (e8.mpr c0), if_pos c0, cl_of _ t1]
    exact ⟨τ, rfl, t2, t3.mono (by simp [tryC])⟩
  · rw [if_neg (fun z => c0 (e8.mp z)), if_neg c0]
    have hx := h1 c0
    subst hx
    by_cases c1 : v = 1
    · obtain ⟨hy, q1, q2⟩ := h2 c1
      subst hy
      rw [if_pos (e9.mpr c1), if_pos c1, cl_of _ (s_laneB hc hT (by omega) (by omega))]
      cases e : lnO T a b with
      | none =>
        rw [oI_none, cl_of _ (s_hasLane0 hc), if_pos rfl]
        exact ⟨σ, rfl, r, Off.rf⟩
      | some k =>
        have hk := lnO_lt e
        obtain ⟨τ, t1, t2, t3⟩ := s_sendBoy hc hT r hN hk
        rw [oI_some, cl_of _ (s_hasLane1 hc hT hk), if_neg one0, cl_of _ t1]
        exact ⟨τ, rfl, t2, t3.mono (by simp [tryC])⟩
    · have ha := h3 (by omega)
      rw [if_neg (fun z => c1 (e9.mp z)), if_neg c1, cl_of _ (s_hasWalker1 hc hT ha), if_neg one0]
      simp only [jn_e]
      by_cases c2 : v = 2
      · rw [if_pos (e10.mpr c2), if_pos c2, cl_of _ (s_isHome hc hT r hN ha)]
        have n3 : ¬ nI (8 + v) = 11 := fun z => by have := e11.mp z; omega
        cases e : homeN T N a
        · obtain ⟨τ, t1, t2, t3⟩ := s_putOff r hW ha
          rw [if_pos (show (if false = true then (1 : Int32) else 0) = 0 from rfl), cl_of _ t1]
          exact ⟨τ, rfl, t2, t3.mono (by simp [tryC])⟩
        · rw [if_neg (show ¬ (if true = true then (1 : Int32) else 0) = 0 by decide), if_neg n3]
          exact ⟨σ, rfl, r, Off.rf⟩
      · rw [if_neg (fun z => c2 (e10.mp z)), if_neg c2, if_pos (e11.mpr (by omega)), cl_of _ (s_canTurn hc hT r hN ha)]
        cases e : tuN T N a
        · exact ⟨σ, rfl, r, Off.rf⟩
        · obtain ⟨τ, t1, t2, t3⟩ := s_turn hc hT r ha
          rw [if_neg (show ¬ (if true = true then (1 : Int32) else 0) = 0 by decide), cl_of _ t1]
          exact ⟨τ, rfl, t2, t3.mono (by simp [tryC])⟩
theorem m_goes {σ : Mm} {T : Tw} {N : Nt} {l : Ln} (h : TM σ T) (hT : TwOk T) (r : RM σ T N) (hN : NtOk T N) (e56 : gI σ 0 56 = 0) (e57 : gI σ 0 57 = 63) (hl : LR σ 0 l) (hlk : LnOk T l) {k : Nat} (hk : k < lM l) :
    ∃ τ, f_X12_goes (nI k) σ = some (b1I (obeyN T N (lV l k) (lF l k) (lG l k)).isSome, τ) ∧ RM τ T ((obeyN T N (lV l k) (lF l k) (lG l k)).getD N) ∧ Off passM σ τ := by
  have hP := hT.1
  have hW := hT.2.2.1
  have hL := hT.2.1
  have h40 := hlk.1
  obtain ⟨g1, g2, g3⟩ := hl.2 k hk
  rw [Nat.mul_zero, Nat.zero_add] at g1 g2 g3
  obtain ⟨o1, o2, o3⟩ := hlk.2 k hk
  obtain ⟨v, ev⟩ : ∃ v, v = lV l k := ⟨_, rfl⟩
  obtain ⟨a, ea⟩ : ∃ a, a = lF l k := ⟨_, rfl⟩
  obtain ⟨b, eb⟩ : ∃ b, b = lG l k := ⟨_, rfl⟩
  rw [← ev] at g1 g2 g3 o1 o2 o3 ⊢
  rw [← ea] at g2 o2 o3 ⊢
  rw [← eb] at g3 o2 ⊢
  have e0 : nI v = 0 ↔ v = 0 := nI_eq (b := 0) (by omega) (by omega)
  have e1 : nI v = 1 ↔ v = 1 := nI_eq (b := 1) (by omega) (by omega)
  have e2 : nI v = 2 ↔ v = 2 := nI_eq (b := 2) (by omega) (by omega)
  unfold f_X12_goes
  simp only [ck_t (inb_nI (show k < 240 by omega) (by omega)), nI_tn (show k < 2147483648 by omega), bn_e, g1, jn_e2]
  unfold obeyN
  by_cases c0 : v = 0
  · obtain ⟨τ, t1, t2, t3, -, -⟩ := m_passes h hT r hN
    rw [e56] at t2
    rw [if_pos (e0.mpr c0), if_pos c0, cl_of _ t1]
    exact ⟨τ, rfl, t2, t3⟩
  · have g2 := g2 c0
    rw [if_neg (fun z => c0 (e0.mp z)), if_neg c0, g2]
    by_cases c1 : v = 1
    · obtain ⟨q1, q2⟩ := o2 c1
      rw [if_pos (e1.mpr c1), if_pos c1, g3 c1, cl_of _ (m_laneB h hT (by omega) (by omega))]
      cases e : lnO T a b with
      | none =>
        rw [oI_none, if_pos (by decide)]
        exact ⟨σ, rfl, r, Off.rf⟩
      | some i =>
        have hi := lnO_lt e
        obtain ⟨τ, t1, t2, t3⟩ := m_sends h hT r hN e56 hi
        rw [oI_some, if_neg (nI_pos (by omega)), cl_of _ ((m_laneB h hT (show a < 2147483648 by omega) (show b < 2147483648 by omega)).trans (by rw [e, oI_some])), cl_of _ t1]
        exact ⟨τ, rfl, t2, t3.mono (by simp [passM, lawM])⟩
    · have ha := o3 (by omega)
      have wm := r.2.2.2.2 a ha
      rw [if_neg (fun z => c1 (e1.mp z)), if_neg c1]
      by_cases c2 : v = 2
      · rw [if_pos (e2.mpr c2), if_pos c2, cl_of _ (m_isHome h hT hN ha wm)]
        cases e : homeN T N a
        · obtain ⟨τ, t1, t2, t3⟩ := m_waitsMore hT r ha (by rw [e57]; exact mask63 a (by omega))
          rw [if_pos (show (if false = true then (1 : Int32) else 0) = 0 from rfl), cl_of _ t1]
          exact ⟨τ, rfl, t2, t3.mono (by simp [passM])⟩
        · rw [if_neg (show ¬ (if true = true then (1 : Int32) else 0) = 0 by decide)]
          exact ⟨σ, rfl, r, Off.rf⟩
      · rw [if_neg (fun z => c2 (e2.mp z)), if_neg c2, cl_of _ (m_canTurn h hT r hN ha)]
        cases e : tuN T N a
        · exact ⟨σ, rfl, r, Off.rf⟩
        · have tr := RM.turn hT r ha (by rw [e57]; exact mask63 a (by omega)) (tuN_E hN ha e)
          rw [if_neg (show ¬ (if true = true then (1 : Int32) else 0) = 0 by decide), a17, ck_t (inb_nI (show a < 12 by omega) (by omega)), ck_t (inb_nI (show 17 + a < 41 by omega) (by omega)), nI_tn (show a < 2147483648 by omega), nI_tn (show 17 + a < 2147483648 by omega), (h.2.2.2.2.2.1 a ha).2.1]
          exact ⟨_, rfl, tr, Off.pI (by simp [passM])⟩
/-- the evening, line by line -/
def jN (T : Tw) (l : Ln) : Nat → Nt
  | 0 => beginN T
  | i + 1 => (obeyN T (jN T l i) (lV l i) (lF l i) (lG l i)).getD (jN T l i)
def jBad (T : Tw) (l : Ln) (i : Nat) : Bool := (obeyN T (jN T l i) (lV l i) (lF l i) (lG l i)).isNone
def jDk (T : Tw) (l : Ln) (i : Nat) : Bool := decide (nD (jN T l i) < nD (jN T l (i + 1)))
def judN (T : Tw) (l : Ln) (x : Int32) : Int32 := if x = 0 then oI (fst1 (jBad T l) 0 (lM l)) else if x = 1 then oI (fst1 (jDk T l) 0 (lM l)) else nD (jN T l (lM l))
theorem jN_ok {T : Tw} {l : Ln} (hT : TwOk T) (hl : LnOk T l) : ∀ i, i ≤ lM l → NtOk T (jN T l i)
  | 0, _ => beginN_ok hT
  | i + 1, hi => obeyN_ok hT (jN_ok hT hl i (by omega)) (hl.2 i (by omega)).2.2
theorem oI_nxt {p : Nat → Bool} {i : Nat} (hi : i < 2147483648) : oI (fst1 p 0 (i + 1)) = if p i = true then (if oI (fst1 p 0 i) = -1 then nI i else oI (fst1 p 0 i)) else oI (fst1 p 0 i) := by
  cases e : fst1 p 0 i with
  | none =>
    rw [fst1_succ_none e]
    cases p i <;> rfl
  | some c =>
    have := (fst1_some e).2.1
    rw [fst1_succ_some e, oI_some, if_neg (nI_ne c (by omega))]
    cases p i <;> rfl
theorem oI_neg {p : Nat → Bool} {i : Nat} (hi : i < 2147483648) : oI (fst1 p 0 i) < 0 ↔ oI (fst1 p 0 i) = -1 := by
  cases e : fst1 p 0 i with
  | none => exact ⟨fun _ => rfl, fun _ => by decide⟩
  | some c =>
    have := (fst1_some e).2.1
    rw [oI_some]
    exact ⟨fun z => absurd z (nI_pos (by omega)), fun z => absurd z (nI_ne c (by omega))⟩
theorem b1I_0 (b : Bool) : b1I b = 0 ↔ b = false := by cases b <;> decide
theorem lines_far {a : Nat} (h : isLines a = true) (ha : a = 237 ∨ a = 241) {t : Nat} (ht : isTown t = true) : ∀ x, x ∈ tryC t → x < a ∨ a + 3 < x := by
  have tn := town_night ht n197
  intro x hx
  simp only [tryC, List.mem_cons, List.not_mem_nil, or_false] at hx
  omega
theorem s_judge {σ : Mm} {t a : Nat} {T : Tw} {l : Ln} (hc : TC σ t T) (hT : TwOk T) (hl : LC σ a l) (hlk : LnOk T l) (ha : a = 237 ∨ a = 241) (x : Int32) :
    ∃ τ, f_X0_judge t a x σ = some (judN T l x, τ) ∧ Off (tryC t) σ τ := by
  have h40 := hlk.1
  have tn := town_night hc.1 n197
  obtain ⟨σ1, l1, r1, o1⟩ := s_begin hc hT n197
  unfold f_X0_judge
  rw [ck_t hc.1, ck_t hl.1, cl_of _ l1, jn_e2]
  obtain ⟨kx, ek⟩ : ∃ k : Int32 → Int32 → Mm → Option (Int32 × Mm), k = (fun (x4_109 : Int32) (x5_109 : Int32) (σ_109 : Mm) => (if x = 0 then some (x4_109, σ_109) else (if x = (1 : Int32) then some (x5_109, σ_109) else some ((gI σ_109 197 2), σ_109)))) := ⟨_, rfl⟩
  rw [← ek]
  have q := lq4_inv (F := F_X0_judge_17 t a kx) (fun i => oI (fst1 (jBad T l) 0 i)) (fun i => oI (fst1 (jDk T l) 0 i)) (fun i => nI i) (fun i b => Off (tryC t) σ b ∧ RC b 197 (tW T) (jN T l i)) (lM l) (fun b => kx (oI (fst1 (jBad T l) 0 (lM l))) (oI (fst1 (jDk T l) 0 (lM l))) b) ?_ ?_ (n := 1000000) (b0 := σ1) ⟨o1.mono (by simp [tryC]), r1⟩ (by omega)
  · obtain ⟨b, ⟨b1, b2⟩, e⟩ := q
    refine ⟨b, e.trans ?_, b1⟩
    rw [ek]
    unfold judN
    show (if x = 0 then _ else _) = _
    rw [show gI b 197 2 = nD (jN T l (lM l)) from b2.2.2.2.1]
    split
    · rfl
    · split <;> rfl
  · intro rec i b hi hb
    obtain ⟨b1, b2⟩ := hb
    have lb := hl.off b1 (lines_far hl.1 ha hc.1)
    obtain ⟨g1, g2, g3⟩ := lb.2.2 i hi
    obtain ⟨k1, k2, k3⟩ := hlk.2 i hi
    have c1 : nI i < gI b a 0 := by rw [lb.2.1]; exact nI_lt hi (by omega)
    obtain ⟨τ, t1, t2, t3⟩ := s_obey (hc.trd b1) hT b2 (jN_ok hT hlk i (by omega)) (v := lV l i) (a := lF l i) (b := lG l i) (x := gI b (a + 2) i) (y := gI b (a + 3) i) k1 g2 (fun z => ⟨g3 z, k2 z⟩) k3
    refine ⟨τ, ⟨b1.tr t3, t2⟩, ?_⟩
    have d1 : gI b 197 2 = nD (jN T l i) := b2.2.2.2.1
    have d2 : gI τ 197 2 = nD (jN T l (i + 1)) := t2.2.2.2.1
    have eb : jBad T l i = !(obeyN T (jN T l i) (lV l i) (lF l i) (lG l i)).isSome := by unfold jBad; cases obeyN T (jN T l i) (lV l i) (lF l i) (lG l i) <;> rfl
    simp only [F_X0_judge_17, if_pos c1, bn_e, ck_t (inb_nI (show i < 40 by omega) (by omega)), nI_tn (show i < 2147483648 by omega), g1, cl_of _ t1, d1, d2, jn_e, nI_1, oI_nxt (p := jBad T l) (show i < 2147483648 by omega), oI_nxt (p := jDk T l) (show i < 2147483648 by omega), b1I_0]
    have ed : (jDk T l i = true) ↔ nD (jN T l i) < nD (jN T l (i + 1)) := by unfold jDk; exact decide_eq_true_iff
    rw [eb]
    simp only [ed]
    cases (obeyN T (jN T l i) (lV l i) (lF l i) (lG l i)).isSome
    · simp only [if_true, Bool.not_false]
      repeat' split
      all_goals rfl
    · simp only [Bool.not_true, Bool.true_eq_false, Bool.false_eq_true, if_false]
      repeat' split
      all_goals rfl
  · intro rec b hb
    have lb := hl.off hb.1 (lines_far hl.1 ha hc.1)
    have c1 : ¬ nI (lM l) < gI b a 0 := by rw [lb.2.1]; exact nI_nlt (Nat.le_refl _) (by omega)
    simp only [F_X0_judge_17, if_neg c1]
theorem m_judged {σ : Mm} {T : Tw} {N : Nt} {l : Ln} (h : MI σ T N) (hT : TwOk T) (hl : LR σ 0 l) (hlk : LnOk T l) {x : Int32} (v : ¬ x < 0 ∧ ¬ (2 : Int32) < x) :
    ∃ τ, f_X12_judged x σ = some (judN T l x, τ) ∧ QM σ τ := by
  have hW := hT.2.2.1
  have h40 := hlk.1
  have n0 : (0 : Int32).toNatClampNeg = 0 := rfl
  have n2 : (2 : Int32).toNatClampNeg = 2 := rfl
  have h0 := h.q hT (QM.z σ 0)
  have hl0 := hl.q (QM.z σ 0)
  obtain ⟨σ1, l1, o1, c1⟩ := cp37 (pI σ 0 0 0)
  obtain ⟨a1, a2, a3', a4⟩ := Mi.first (Or.inl rfl) h0 hT o1
  obtain ⟨σ2, l2, r2, o2⟩ := m_fresh a1 hT
  have e57 : gI σ2 0 57 = 63 := by rw [o2.1 0 (by simp)]; exact a4
  have e56 : gI σ2 0 56 = 0 := by rw [o2.1 0 (by simp)]; exact a3'
  have h2 : TM σ2 T := a1.off o2 (fun a ha => by simp only [List.mem_cons, List.not_mem_nil, or_false] at ha; omega)
  have hl2 : LR σ2 0 l := hl0.gi (fun a ha k => by rw [o2.1 a (by simp; omega), o1.1 a (by simp; omega)])
  unfold f_X12_judged
  simp only [bn_e, cl_of _ (m_within x 0 2 _), if_pos v, if_neg one0, cl_of _ l1, cl_of _ l2, jn_e2]
  obtain ⟨kx, ek⟩ : ∃ k : Int32 → Int32 → Mm → Option (Int32 × Mm), k = (fun (x2_100 : Int32) (x3_100 : Int32) (σ_100 : Mm) => ck (inb (2 : Int32) 41) (cl (f_X12_copies 37 (0 : Int32) 36 (0 : Int32) σ_100) (fun _ σ118 => (if x = 0 then some (x2_100, σ118) else (if x = (1 : Int32) then some (x3_100, σ118) else some (gI σ_100 36 (2 : Int32).toNatClampNeg, σ118)))))) := ⟨_, rfl⟩
  rw [← ek]
  have q := lq4_inv (F := F_X12_judged_41 kx) (fun i => oI (fst1 (jBad T l) 0 i)) (fun i => oI (fst1 (jDk T l) 0 i)) (fun i => nI i) (fun i b => Off passM σ2 b ∧ RM b T (jN T l i)) (lM l) (fun b => kx (oI (fst1 (jBad T l) 0 (lM l))) (oI (fst1 (jDk T l) 0 (lM l))) b) ?_ ?_ (n := 1000000) (b0 := σ2) ⟨Off.rf, RM.of_RP r2 hW e57⟩ (by omega)
  · obtain ⟨b, ⟨b1, b2⟩, e⟩ := q
    obtain ⟨σ3, l3, o3, c3⟩ := bk37 b
    have o12 : Off passM σ1 b := (o2.mono (by simp [passM])).tr b1
    refine ⟨σ3, e.trans ?_, (QM.z σ 0).tr (laidBack (Or.inl rfl) o1 c1 o12 (passM_q (Or.inl rfl)) (fun j _ _ => passM_0 o12 j) o3 c3)⟩
    rw [ek]
    show ck (inb 2 41) (cl (f_X12_copies 37 0 36 0 b) _) = _
    rw [ck_t (show inb 2 41 = true from rfl), cl_of _ l3, n2, b2.2.2.1]
    unfold judN
    split
    · rfl
    · split <;> rfl
  · intro rec i b hi hb
    obtain ⟨b1, b2⟩ := hb
    have hTb := passM_off h2 b1
    have lb : LR b 0 l := hl2.gi (fun a ha k => b1.1 a (by rcases ha with rfl | rfl | rfl | rfl <;> simp [passM, lawM]) k)
    have cc : nI i < gI b 28 0 := by rw [lb.1]; exact nI_lt hi (by omega)
    obtain ⟨τ, t1, t2, t3⟩ := m_goes hTb hT b2 (jN_ok hT hlk i (by omega)) (by rw [passM_0 b1]; exact e56) (by rw [passM_0 b1]; exact e57) lb hlk hi
    refine ⟨τ, ⟨b1.tr t3, t2⟩, ?_⟩
    have d1 : gI b 36 2 = nD (jN T l i) := b2.2.2.1
    have d2 : gI τ 36 2 = nD (jN T l (i + 1)) := t2.2.2.1
    have eb : jBad T l i = !(obeyN T (jN T l i) (lV l i) (lF l i) (lG l i)).isSome := by unfold jBad; cases obeyN T (jN T l i) (lV l i) (lF l i) (lG l i) <;> rfl
    simp only [F_X12_judged_41, ck_t (show inb 0 6 = true from rfl), ck_t (show inb 2 41 = true from rfl), n0, n2, if_pos cc, bn_e, cl_of _ t1, d1, d2, jn_e, nI_1, oI_nxt (p := jBad T l) (show i < 2147483648 by omega), oI_nxt (p := jDk T l) (show i < 2147483648 by omega), b1I_0, oI_neg (p := jBad T l) (show i < 2147483648 by omega), oI_neg (p := jDk T l) (show i < 2147483648 by omega)]
    have ed : (jDk T l i = true) ↔ nD (jN T l i) < nD (jN T l (i + 1)) := by unfold jDk; exact decide_eq_true_iff
    rw [eb]
    simp only [ed]
    cases (obeyN T (jN T l i) (lV l i) (lF l i) (lG l i)).isSome
    · simp only [if_true, Bool.not_false]
      repeat' split
      all_goals rfl
    · simp only [Bool.not_true, Bool.true_eq_false, Bool.false_eq_true, if_false]
      repeat' split
      all_goals rfl
  · intro rec b hb
    have lb : LR b 0 l := hl2.gi (fun a ha k => hb.1.1 a (by rcases ha with rfl | rfl | rfl | rfl <;> simp [passM, lawM]) k)
    have cc : ¬ nI (lM l) < gI b 28 0 := by rw [lb.1]; exact nI_nlt (Nat.le_refl _) (by omega)
    simp only [F_X12_judged_41, ck_t (show inb 0 6 = true from rfl), n0, if_neg cc]
theorem q_judged {σ μ : Mm} {t a : Nat} {T : Tw} {N : Nt} {l : Ln} (h : Bo σ μ t T N) (hlk : LnOk T l) (g9 : gR σ 0 9 = a) (ha : a = 237 ∨ a = 241) (lc : LC σ a l) (lr : LR μ 0 l) (x : Int32) : An (f_X11_judged x) (f_X12_judged x) σ μ := by
  obtain ⟨hT, hN, ⟨ht, hc, rc⟩, hM⟩ := h
  by_cases v : ¬ x < 0 ∧ ¬ (2 : Int32) < x
  · obtain ⟨τ, t1, t2⟩ := s_judge hc hT lc hlk ha x
    obtain ⟨ν, n1, n2⟩ := m_judged hM hT lr hlk v
    refine ⟨_, τ, ν, ?_, n1, tryQ hc.1 t2, n2⟩
    unfold f_X11_judged
    simp only [jn_e2, if_neg v.1, if_neg v.2, bn_e, ht, g9, cl_of _ t1]
  · refine ⟨-2, σ, pI μ 0 0 0, ?_, ?_, Off.rf, QM.z μ 0⟩
    · unfold f_X11_judged
      simp only [jn_e2]
      by_cases a : x < 0
      · rw [if_pos a]
      · rw [if_neg a]
        by_cases b : (2 : Int32) < x
        · rw [if_pos b]
        · exact absurd ⟨a, b⟩ v
    · unfold f_X12_judged
      simp only [bn_e, cl_of _ (m_within x 0 2 _), if_neg v, if_true]
