/-! both read, side by side -/
def Rd (σ μ : Mm) (s : Nat → Nat) (n p : Nat) : Prop := TPc σ s n ∧ TPm μ s n ∧ KwC σ ∧ p ≤ n ∧ TkC σ s n p ∧ TkM μ s n p
def Cf (σ τ : Mm) : Prop := (∀ a, a ≠ 3 → a ≠ 4 → ∀ k, gI τ a k = gI σ a k) ∧ (∀ a, a ≠ 4 → ∀ k, gL τ a k = gL σ a k) ∧ (∀ a k, gR τ a k = gR σ a k)
theorem Cf.rf {σ : Mm} : Cf σ σ := ⟨fun _ _ _ _ => rfl, fun _ _ _ => rfl, fun _ _ => rfl⟩
theorem Cf.tr {σ τ υ : Mm} (h : Cf σ τ) (g : Cf τ υ) : Cf σ υ := ⟨fun b b1 b2 k => (g.1 b b1 b2 k).trans (h.1 b b1 b2 k), fun b hb k => (g.2.1 b hb k).trans (h.2.1 b hb k), fun b k => (g.2.2 b k).trans (h.2.2 b k)⟩
theorem Fx.cf {σ τ : Mm} (h : Fx 4 σ τ) : Cf σ τ := ⟨fun b _ b2 k => h.1 b b2 k, h.2.1, h.2.2⟩
theorem Cf.p3 {σ : Mm} {k : Nat} {v : Int32} : Cf σ (pI σ 3 k v) := ⟨fun b b1 _ j => gI_pI_n (Or.inl b1), fun _ _ _ => rfl, fun _ _ => rfl⟩
def Mf (σ τ : Mm) : Prop := (∀ a, a ≠ 0 → ∀ k, gI τ a k = gI σ a k) ∧ (∀ j, j ≠ 4 → j ≠ 5 → j ≠ 6 → j ≠ 8 → j ≠ 9 → j ≠ 37 → j ≠ 39 → gI τ 0 j = gI σ 0 j) ∧ (∀ a k, ¬ (a = 0 ∧ (k = 7 ∨ k = 38)) → gL τ a k = gL σ a k) ∧ (∀ a k, gR τ a k = gR σ a k)
theorem Mf.rf {σ : Mm} : Mf σ σ := ⟨fun _ _ _ => rfl, fun _ _ _ _ _ _ _ _ => rfl, fun _ _ _ => rfl, fun _ _ => rfl⟩
theorem Mf.tr {σ τ υ : Mm} (h : Mf σ τ) (g : Mf τ υ) : Mf σ υ := ⟨fun b hb k => (g.1 b hb k).trans (h.1 b hb k), fun j a b c d e f i => (g.2.1 j a b c d e f i).trans (h.2.1 j a b c d e f i), fun a k z => (g.2.2.1 a k z).trans (h.2.2.1 a k z), fun b k => (g.2.2.2 b k).trans (h.2.2.2 b k)⟩
theorem Fm.mf {σ τ : Mm} (h : Fm σ τ) : Mf σ τ := ⟨h.1, fun j a b c d _ _ _ => h.2.1 j a b c d, fun a k z => h.2.2.1 a k (fun y => z ⟨y.1, Or.inl y.2⟩), h.2.2.2⟩
theorem Mf.pI {σ : Mm} {k : Nat} {v : Int32} (h : k = 9 ∨ k = 37 ∨ k = 39) : Mf σ (pI σ 0 k v) := ⟨fun b hb j => gI_pI_n (Or.inl hb), fun j a b c d e f i => gI_pI_n (Or.inr (by omega)), fun _ _ _ => rfl, fun _ _ => rfl⟩
theorem Mf.pL {σ : Mm} {v : Int64} : Mf σ (pL σ 0 38 v) := ⟨fun _ _ _ => rfl, fun _ _ _ _ _ _ _ _ => rfl, fun a k z => by rw [gL_pL, if_neg (fun y => z ⟨y.1, Or.inr y.2⟩)], fun _ _ => rfl⟩
/-- the same fault is found -/
def Bad (σ μ : Mm) : Prop := ∃ f, 0 < f ∧ f < 1000000 ∧ gI σ 3 1 = nI f ∧ gI μ 0 9 = nI f
theorem Rd.next {σ μ : Mm} {s : Nat → Nat} {n p : Nat} (h : Rd σ μ s n p) : ∃ σ' μ', f_X8_advance σ = some (0, σ') ∧ f_X12_nextToken μ = some (0, μ') ∧ Fx 4 σ σ' ∧ Fm μ μ' ∧ Rd σ' μ' s n (tkE s n p) := by
  obtain ⟨h1, h2, h3, h4, h5, h6⟩ := h
  have tl := tk_le (s := s) h4
  obtain ⟨σ', a1, a2, a3⟩ := s_advance h1 h3 (p := tkE s n p) tl.2.2 h5.2.1
  obtain ⟨μ', b1, b2, b3⟩ := m_nextToken h2 (p := tkE s n p) tl.2.2 h6.2.1
  exact ⟨σ', μ', a1, b1, a2, b2, h1.fx a2, h2.fm b2, h3.fx a2, tl.2.2, a3, b3⟩
theorem Rd.bad {σ μ : Mm} {s : Nat → Nat} {n p : Nat} (h : Rd σ μ s n p) {k : Nat} (h0 : 0 < k) (hk : k ≤ 5) : ∃ σ' μ', f_X6_wrong (nI k) σ = some (0, σ') ∧ f_X12_fails (nI k) μ = some (0, μ') ∧ Cf σ σ' ∧ Mf μ μ' ∧ Bad σ' μ' := by
  obtain ⟨h1, h2, h3, h4, h5, h6⟩ := h
  have tl := tk_le (s := s) h4
  have hn := h1.1
  have e : nI k + 16 * nI (tkB s n p) = nI (k + 16 * tkB s n p) := by rw [show (16 : Int32) = nI 16 from rfl, pk_mul, nI_add]
  refine ⟨pI σ 3 1 (nI (k + 16 * tkB s n p)), pI μ 0 9 (nI (k + 16 * tkB s n p)), ?_, ?_, Cf.p3, Mf.pI (Or.inl rfl), k + 16 * tkB s n p, by omega, by omega, by rw [gI_pI_s], by rw [gI_pI_s]⟩
  · unfold f_X6_wrong
    rw [h5.1, e, bn_e]
  · unfold f_X12_fails
    rw [h6.1, e, bn_e]
/-! words -/
def wdT (s : Nat → Nat) (n p i : Nat) : Bool := decide (tkK s n p = 2 ∧ tk32 s n p = kw32 i)
theorem tk_ok {s : Nat → Nat} {n p : Nat} (hp : p ≤ n) (h : tkK s n p = 2) : tkM s n p ≤ 8 ∧ ∀ i, i < tkM s n p → 0 < tkF s n p i ∧ tkF s n p i < 27 := by
  have tl := tk_le (s := s) hp
  unfold tkK at h
  by_cases z : tkB s n p = n
  · rw [if_pos z] at h; cases h
  · rw [if_neg z] at h
    by_cases y : ltr (s (tkB s n p)) = true
    · rw [if_pos y] at h
      have ee : tkE s n p = runE (fun i => ltr (s i)) n (tkB s n p) := by unfold tkE; rw [if_neg z, if_pos y]
      by_cases h8 : tkE s n p - tkB s n p ≤ 8
      · refine ⟨h8, fun i hi => ?_⟩
        have hi : i < tkE s n p - tkB s n p := hi
        have := runE_in (p := fun i => ltr (s i)) (n := n) (b := tkB s n p) (i := tkB s n p + i) (by omega) (by rw [← ee]; omega) (by omega)
        have this : 97 ≤ s (tkB s n p + i) ∧ s (tkB s n p + i) ≤ 122 := by simpa [ltr] using this
        unfold tkF
        omega
      · rw [if_neg h8] at h; cases h
    · rw [if_neg y] at h
      split at h
      · split at h <;> cases h
      · split at h <;> cases h
theorem tk_27 {s : Nat → Nat} {n p i : Nat} (hp : p ≤ n) (h : tkK s n p = 2) (hi : i < 23) : tk27 s n p = kw27 i ↔ tk32 s n p = kw32 i := by
  obtain ⟨a1, a2⟩ := tk_ok hp h
  obtain ⟨b1, b2⟩ := kw_ok i hi
  unfold tk27 tk32 kw27 kw32
  constructor
  · intro e
    obtain ⟨q1, q2⟩ := encF_inj a2 b2 e
    rw [← q1]
    exact encF_congr q2
  · intro e
    obtain ⟨q1, q2⟩ := encF_inj (fun j hj => ⟨(a2 j hj).1, by have := (a2 j hj).2; omega⟩) (fun j hj => ⟨(b2 j hj).1, by have := (b2 j hj).2; omega⟩) e
    rw [← q1]
    exact encF_congr q2
theorem kw27_lt {i : Nat} (hi : i < 23) : kw27 i < 2 ^ 40 := enc27 (fun j hj => ((kw_ok i hi).2 j hj).2) (kw_ok i hi).1
theorem tk27_lt {s : Nat → Nat} {n p : Nat} (hp : p ≤ n) (h : tkK s n p = 2) : tk27 s n p < 2 ^ 40 := enc27 (fun j hj => ((tk_ok hp h).2 j hj).2) (tk_ok hp h).1
theorem tk32_lt {s : Nat → Nat} {n p : Nat} (hp : p ≤ n) (h : tkK s n p = 2) : tk32 s n p < 2 ^ 40 := enc40 (fun j hj => ((tk_ok hp h).2 j hj).2) (tk_ok hp h).1
theorem tkK_le (s : Nat → Nat) (n p : Nat) : tkK s n p ≤ 4 := by
  unfold tkK
  repeat' split
  all_goals omega
theorem kI {k c : Nat} (hk : k ≤ 4) (hc : c < 5) : nI k = nI c ↔ k = c := nI_eq (by omega) (by omega)
theorem oI_eq {o : Option Nat} {i : Nat} (h : ∀ k, o = some k → k < 2147483648) (hi : i < 2147483648) : oI o = nI i ↔ o = some i := by
  cases o with
  | none => exact ⟨fun z => absurd z.symm (nI_ne i hi), fun z => by cases z⟩
  | some k => rw [oI_some, nI_eq (h k rfl) hi, Option.some.injEq]
theorem wx_lt {c k : Nat} (h : wxF c 23 = some k) : k < 2147483648 := by have := (wxF_some h).1; omega
theorem Rd.word {σ μ : Mm} {s : Nat → Nat} {n p : Nat} (h : Rd σ μ s n p) {i : Nat} (hi : i < 23) : f_X8_isWord (nI i) σ = some (b1I (wdT s n p i), σ) ∧ f_X12_isWord (lN (kw27 i)) μ = some (b1I (wdT s n p i), μ) := by
  obtain ⟨h1, h2, h3, h4, h5, h6⟩ := h
  have k4 := tkK_le s n p
  have e1 : nI (tkK s n p) = 2 ↔ tkK s n p = 2 := kI k4 (c := 2) (by omega)
  have e2 : nI ((tkK s n p + 4) % 5) = 1 ↔ tkK s n p = 2 := (nI_eq (b := 1) (by omega) (by omega)).trans (by omega)
  constructor
  · unfold f_X8_isWord wdT
    rw [jn_e, h5.2.2.1]
    by_cases z : tkK s n p = 2
    · rw [if_pos (e1.mpr z), (h5.2.2.2.1 z).2]
      have e3 : oI (wxF (tk32 s n p) 23) = nI i ↔ tk32 s n p = kw32 i := by rw [oI_eq (fun k hk => wx_lt hk) (by omega), wxF_iff hi]; exact eq_comm
      by_cases y : tk32 s n p = kw32 i
      · rw [if_pos (e3.mpr y)]; simp [z, y, b1I]
      · rw [if_neg (fun w => y (e3.mp w))]; simp [y, b1I]
    · rw [if_neg (fun w => z (e1.mp w))]; simp [z, b1I]
  · unfold f_X12_isWord wdT
    rw [jn_e, h6.2.2.1]
    by_cases z : tkK s n p = 2
    · rw [if_pos (e2.mpr z), h6.2.2.2.1 z]
      have e3 : lg_cmp (lN (tk27 s n p)) (lN (kw27 i)) = 0 ↔ tk32 s n p = kw32 i := by
        rw [lg_cmp_eq, lN_inj (Nat.lt_trans (tk27_lt h4 z) (by decide)) (Nat.lt_trans (kw27_lt hi) (by decide)), tk_27 h4 z hi]
      by_cases y : tk32 s n p = kw32 i
      · rw [if_pos (e3.mpr y)]; simp [z, y, b1I]
      · rw [if_neg (fun w => y (e3.mp w))]; simp [y, b1I]
    · rw [if_neg (fun w => z (e2.mp w))]; simp [z, b1I]
def sgT (s : Nat → Nat) (n p c : Nat) : Bool := decide (tkK s n p = 4 ∧ s (tkB s n p) = c)
theorem tk_b {s : Nat → Nat} {n p : Nat} (hp : p ≤ n) (h : tkK s n p = 4) : tkB s n p < n := by
  have tl := tk_le (s := s) hp
  rcases Nat.lt_or_ge (tkB s n p) n with z | z
  · exact z
  · unfold tkK at h
    rw [if_pos (show tkB s n p = n by omega)] at h
    cases h
theorem Rd.sign {σ μ : Mm} {s : Nat → Nat} {n p : Nat} (h : Rd σ μ s n p) {c : Nat} (hc : c < 127) : f_X8_isSign (nI c) σ = some (b1I (sgT s n p c), σ) ∧ f_X12_isSign (nI c) μ = some (b1I (sgT s n p c), μ) := by
  obtain ⟨h1, h2, h3, h4, h5, h6⟩ := h
  have hn := h1.1
  have k4 := tkK_le s n p
  have e1 : nI (tkK s n p) = 4 ↔ tkK s n p = 4 := kI k4 (c := 4) (by omega)
  have e2 : nI ((tkK s n p + 4) % 5) = 3 ↔ tkK s n p = 4 := (nI_eq (b := 3) (by omega) (by omega)).trans (by omega)
  constructor
  · unfold f_X8_isSign sgT
    rw [jn_e, h5.2.2.1]
    by_cases z : tkK s n p = 4
    · have bl := tk_b h4 z
      have s126 := sOk_lt (h1.2.2 _ bl).2
      rw [if_pos (e1.mpr z), h5.2.2.2.2.2 z]
      have e3 : nI (s (tkB s n p)) = nI c ↔ s (tkB s n p) = c := nI_eq (by omega) (by omega)
      by_cases y : s (tkB s n p) = c
      · rw [if_pos (e3.mpr y)]; simp [z, y, b1I]
      · rw [if_neg (fun w => y (e3.mp w))]; simp [y, b1I]
    · rw [if_neg (fun w => z (e1.mp w))]; simp [z, b1I]
  · unfold f_X12_isSign sgT
    rw [jn_e, h6.2.2.1, h6.1]
    by_cases z : tkK s n p = 4
    · have bl := tk_b h4 z
      have s126 := sOk_lt (h1.2.2 _ bl).2
      rw [if_pos (e2.mpr z), bn_e, ck_t (inb_nI (show tkB s n p < 1000 by omega) (by omega)), nI_tn (show tkB s n p < 2147483648 by omega), (h2.2.2 _ bl).1]
      have e3 : nI (s (tkB s n p)) = nI c ↔ s (tkB s n p) = c := nI_eq (by omega) (by omega)
      by_cases y : s (tkB s n p) = c
      · rw [if_pos (e3.mpr y)]; simp [z, y, b1I]
      · rw [if_neg (fun w => y (e3.mp w))]; simp [y, b1I]
    · rw [if_neg (fun w => z (e2.mp w))]; simp [z, b1I]
/-- a name -/
def nmT (s : Nat → Nat) (n p : Nat) : Bool := decide (tkK s n p = 2) && (match wxF (tk32 s n p) 23 with | none => true | some i => decide (19 ≤ i))
theorem Rd.nameC {σ μ : Mm} {s : Nat → Nat} {n p : Nat} (h : Rd σ μ s n p) : f_X8_isName σ = some (b1I (nmT s n p), σ) := by
  obtain ⟨h1, h2, h3, h4, h5, h6⟩ := h
  have k4 := tkK_le s n p
  have e1 : nI (tkK s n p) = 2 ↔ tkK s n p = 2 := kI k4 (c := 2) (by omega)
  unfold f_X8_isName nmT
  simp only [jn_e, h5.2.2.1]
  by_cases z : tkK s n p = 2
  · rw [if_pos (e1.mpr z), (h5.2.2.2.1 z).2]
    cases e : wxF (tk32 s n p) 23 with
    | none => rw [oI_none, if_pos rfl]; simp [z, b1I]
    | some i =>
      have hi := (wxF_some e).1
      have e3 : nI i < 19 ↔ i < 19 := nI_ltI (b := 19) (by omega) (by omega)
      rw [oI_some, if_neg (nI_ne i (by omega))]
      by_cases y : i < 19
      · rw [if_pos (e3.mpr y)]; simp [z, b1I, show ¬ 19 ≤ i by omega]
      · rw [if_neg (fun w => y (e3.mp w))]; simp [z, b1I, show 19 ≤ i by omega]
  · rw [if_neg (fun w => z (e1.mp w))]; simp [z, b1I]
theorem kw27_at : kw27 0 = 8740067 ∧ kw27 1 = 237308 ∧ kw27 2 = 1489744 ∧ kw27 3 = 330800670 ∧ kw27 4 = 131638 ∧ kw27 5 = 555 ∧ kw27 6 = 47 ∧ kw27 7 = 1888 ∧ kw27 8 = 191610176 ∧ kw27 9 = 378004 ∧ kw27 10 = 453701 ∧ kw27 11 = 40187 ∧ kw27 12 = 8740238 ∧ kw27 13 = 237292 ∧ kw27 14 = 1306021 ∧ kw27 15 = 2495756 ∧ kw27 16 = 10631 ∧ kw27 17 = 1111 ∧ kw27 18 = 423 ∧ kw27 19 = 404923 ∧ kw27 20 = 240023 ∧ kw27 21 = 121898 ∧ kw27 22 = 237470 := by decide
theorem Rd.nameM {σ μ : Mm} {s : Nat → Nat} {n p : Nat} (h : Rd σ μ s n p) : f_X12_isKept μ = some (b1I (!nmT s n p), μ) := by
  obtain ⟨h1, h2, h3, h4, h5, h6⟩ := h
  have k4 := tkK_le s n p
  have e2 : nI ((tkK s n p + 4) % 5) = 1 ↔ tkK s n p = 2 := (nI_eq (b := 1) (by omega) (by omega)).trans (by omega)
  unfold f_X12_isKept nmT
  simp only [jn_e, h6.2.2.1]
  by_cases z : tkK s n p = 2
  · rw [if_pos (e2.mpr z), h6.2.2.2.1 z]
    have e3 : ∀ i, i < 23 → (lg_cmp (lN (tk27 s n p)) (lN (kw27 i)) = 0 ↔ wxF (tk32 s n p) 23 = some i) := fun i hi => by
      rw [lg_cmp_eq, lN_inj (Nat.lt_trans (tk27_lt h4 z) (by decide)) (Nat.lt_trans (kw27_lt hi) (by decide)), tk_27 h4 z hi, wxF_iff hi]; exact eq_comm
    obtain ⟨w0, w1, w2, w3, w4, w5, w6, w7, w8, w9, w10, w11, w12, w13, w14, w15, w16, w17, w18, -⟩ := kw27_at
    have f0 : lg_cmp (lN (tk27 s n p)) (8740067 : Int64) = 0 ↔ wxF (tk32 s n p) 23 = some 0 := by have := e3 0 (by omega); rw [w0] at this; exact this
    have f1 : lg_cmp (lN (tk27 s n p)) (237308 : Int64) = 0 ↔ wxF (tk32 s n p) 23 = some 1 := by have := e3 1 (by omega); rw [w1] at this; exact this
    have f2 : lg_cmp (lN (tk27 s n p)) (1489744 : Int64) = 0 ↔ wxF (tk32 s n p) 23 = some 2 := by have := e3 2 (by omega); rw [w2] at this; exact this
    have f3 : lg_cmp (lN (tk27 s n p)) (330800670 : Int64) = 0 ↔ wxF (tk32 s n p) 23 = some 3 := by have := e3 3 (by omega); rw [w3] at this; exact this
    have f4 : lg_cmp (lN (tk27 s n p)) (131638 : Int64) = 0 ↔ wxF (tk32 s n p) 23 = some 4 := by have := e3 4 (by omega); rw [w4] at this; exact this
    have f5 : lg_cmp (lN (tk27 s n p)) (555 : Int64) = 0 ↔ wxF (tk32 s n p) 23 = some 5 := by have := e3 5 (by omega); rw [w5] at this; exact this
    have f6 : lg_cmp (lN (tk27 s n p)) (47 : Int64) = 0 ↔ wxF (tk32 s n p) 23 = some 6 := by have := e3 6 (by omega); rw [w6] at this; exact this
    have f7 : lg_cmp (lN (tk27 s n p)) (1888 : Int64) = 0 ↔ wxF (tk32 s n p) 23 = some 7 := by have := e3 7 (by omega); rw [w7] at this; exact this
    have f8 : lg_cmp (lN (tk27 s n p)) (191610176 : Int64) = 0 ↔ wxF (tk32 s n p) 23 = some 8 := by have := e3 8 (by omega); rw [w8] at this; exact this
    have f9 : lg_cmp (lN (tk27 s n p)) (378004 : Int64) = 0 ↔ wxF (tk32 s n p) 23 = some 9 := by have := e3 9 (by omega); rw [w9] at this; exact this
    have f10 : lg_cmp (lN (tk27 s n p)) (453701 : Int64) = 0 ↔ wxF (tk32 s n p) 23 = some 10 := by have := e3 10 (by omega); rw [w10] at this; exact this
    have f11 : lg_cmp (lN (tk27 s n p)) (40187 : Int64) = 0 ↔ wxF (tk32 s n p) 23 = some 11 := by have := e3 11 (by omega); rw [w11] at this; exact this
    have f12 : lg_cmp (lN (tk27 s n p)) (8740238 : Int64) = 0 ↔ wxF (tk32 s n p) 23 = some 12 := by have := e3 12 (by omega); rw [w12] at this; exact this
    have f13 : lg_cmp (lN (tk27 s n p)) (237292 : Int64) = 0 ↔ wxF (tk32 s n p) 23 = some 13 := by have := e3 13 (by omega); rw [w13] at this; exact this
    have f14 : lg_cmp (lN (tk27 s n p)) (1306021 : Int64) = 0 ↔ wxF (tk32 s n p) 23 = some 14 := by have := e3 14 (by omega); rw [w14] at this; exact this
    have f15 : lg_cmp (lN (tk27 s n p)) (2495756 : Int64) = 0 ↔ wxF (tk32 s n p) 23 = some 15 := by have := e3 15 (by omega); rw [w15] at this; exact this
    have f16 : lg_cmp (lN (tk27 s n p)) (10631 : Int64) = 0 ↔ wxF (tk32 s n p) 23 = some 16 := by have := e3 16 (by omega); rw [w16] at this; exact this
    have f17 : lg_cmp (lN (tk27 s n p)) (1111 : Int64) = 0 ↔ wxF (tk32 s n p) 23 = some 17 := by have := e3 17 (by omega); rw [w17] at this; exact this
    have f18 : lg_cmp (lN (tk27 s n p)) (423 : Int64) = 0 ↔ wxF (tk32 s n p) 23 = some 18 := by have := e3 18 (by omega); rw [w18] at this; exact this
    cases e : wxF (tk32 s n p) 23 with
    | none =>
      rw [e] at f0 f1 f2 f3 f4 f5 f6 f7 f8 f9 f10 f11 f12 f13 f14 f15 f16 f17 f18
      have nn : ∀ {P : Prop} {i : Nat}, (P ↔ (none : Option Nat) = some i) → ¬ P := fun q w => by have := q.mp w; cases this
      rw [if_neg (nn f0), if_neg (nn f1), if_neg (nn f2), if_neg (nn f3), if_neg (nn f4), if_neg (nn f5), if_neg (nn f6), if_neg (nn f7), if_neg (nn f8), if_neg (nn f9), if_neg (nn f10), if_neg (nn f11), if_neg (nn f12), if_neg (nn f13), if_neg (nn f14), if_neg (nn f15), if_neg (nn f16), if_neg (nn f17), if_neg (nn f18)]
      simp [z, b1I]
    | some i =>
      rw [e] at f0 f1 f2 f3 f4 f5 f6 f7 f8 f9 f10 f11 f12 f13 f14 f15 f16 f17 f18
      by_cases y : i < 19
      · have r : (decide (tkK s n p = 2) && decide (19 ≤ i)) = false := by simp [show ¬ 19 ≤ i by omega]
        show _ = some (b1I (!(decide (tkK s n p = 2) && decide (19 ≤ i))), μ)
        rw [r]
        have : i = 0 ∨ i = 1 ∨ i = 2 ∨ i = 3 ∨ i = 4 ∨ i = 5 ∨ i = 6 ∨ i = 7 ∨ i = 8 ∨ i = 9 ∨ i = 10 ∨ i = 11 ∨ i = 12 ∨ i = 13 ∨ i = 14 ∨ i = 15 ∨ i = 16 ∨ i = 17 ∨ i = 18 := by omega
        have ng : ∀ {P : Prop} {i j : Nat}, (P ↔ some i = some j) → i ≠ j → ¬ P := fun q d w => d (Option.some.inj (q.mp w))
        rcases this with rfl | rfl | rfl | rfl | rfl | rfl | rfl | rfl | rfl | rfl | rfl | rfl | rfl | rfl | rfl | rfl | rfl | rfl | rfl
        · rw [if_pos (f0.mpr rfl)]; rfl
        · rw [if_neg (ng f0 (by decide)), if_pos (f1.mpr rfl)]; rfl
        · rw [if_neg (ng f0 (by decide)), if_neg (ng f1 (by decide)), if_pos (f2.mpr rfl)]; rfl
        · rw [if_neg (ng f0 (by decide)), if_neg (ng f1 (by decide)), if_neg (ng f2 (by decide)), if_pos (f3.mpr rfl)]; rfl
        · rw [if_neg (ng f0 (by decide)), if_neg (ng f1 (by decide)), if_neg (ng f2 (by decide)), if_neg (ng f3 (by decide)), if_pos (f4.mpr rfl)]; rfl
        · rw [if_neg (ng f0 (by decide)), if_neg (ng f1 (by decide)), if_neg (ng f2 (by decide)), if_neg (ng f3 (by decide)), if_neg (ng f4 (by decide)), if_pos (f5.mpr rfl)]; rfl
        · rw [if_neg (ng f0 (by decide)), if_neg (ng f1 (by decide)), if_neg (ng f2 (by decide)), if_neg (ng f3 (by decide)), if_neg (ng f4 (by decide)), if_neg (ng f5 (by decide)), if_pos (f6.mpr rfl)]; rfl
        · rw [if_neg (ng f0 (by decide)), if_neg (ng f1 (by decide)), if_neg (ng f2 (by decide)), if_neg (ng f3 (by decide)), if_neg (ng f4 (by decide)), if_neg (ng f5 (by decide)), if_neg (ng f6 (by decide)), if_pos (f7.mpr rfl)]; rfl
        · rw [if_neg (ng f0 (by decide)), if_neg (ng f1 (by decide)), if_neg (ng f2 (by decide)), if_neg (ng f3 (by decide)), if_neg (ng f4 (by decide)), if_neg (ng f5 (by decide)), if_neg (ng f6 (by decide)), if_neg (ng f7 (by decide)), if_pos (f8.mpr rfl)]; rfl
        · rw [if_neg (ng f0 (by decide)), if_neg (ng f1 (by decide)), if_neg (ng f2 (by decide)), if_neg (ng f3 (by decide)), if_neg (ng f4 (by decide)), if_neg (ng f5 (by decide)), if_neg (ng f6 (by decide)), if_neg (ng f7 (by decide)), if_neg (ng f8 (by decide)), if_pos (f9.mpr rfl)]; rfl
        · rw [if_neg (ng f0 (by decide)), if_neg (ng f1 (by decide)), if_neg (ng f2 (by decide)), if_neg (ng f3 (by decide)), if_neg (ng f4 (by decide)), if_neg (ng f5 (by decide)), if_neg (ng f6 (by decide)), if_neg (ng f7 (by decide)), if_neg (ng f8 (by decide)), if_neg (ng f9 (by decide)), if_pos (f10.mpr rfl)]; rfl
        · rw [if_neg (ng f0 (by decide)), if_neg (ng f1 (by decide)), if_neg (ng f2 (by decide)), if_neg (ng f3 (by decide)), if_neg (ng f4 (by decide)), if_neg (ng f5 (by decide)), if_neg (ng f6 (by decide)), if_neg (ng f7 (by decide)), if_neg (ng f8 (by decide)), if_neg (ng f9 (by decide)), if_neg (ng f10 (by decide)), if_pos (f11.mpr rfl)]; rfl
        · rw [if_neg (ng f0 (by decide)), if_neg (ng f1 (by decide)), if_neg (ng f2 (by decide)), if_neg (ng f3 (by decide)), if_neg (ng f4 (by decide)), if_neg (ng f5 (by decide)), if_neg (ng f6 (by decide)), if_neg (ng f7 (by decide)), if_neg (ng f8 (by decide)), if_neg (ng f9 (by decide)), if_neg (ng f10 (by decide)), if_neg (ng f11 (by decide)), if_pos (f12.mpr rfl)]; rfl
        · rw [if_neg (ng f0 (by decide)), if_neg (ng f1 (by decide)), if_neg (ng f2 (by decide)), if_neg (ng f3 (by decide)), if_neg (ng f4 (by decide)), if_neg (ng f5 (by decide)), if_neg (ng f6 (by decide)), if_neg (ng f7 (by decide)), if_neg (ng f8 (by decide)), if_neg (ng f9 (by decide)), if_neg (ng f10 (by decide)), if_neg (ng f11 (by decide)), if_neg (ng f12 (by decide)), if_pos (f13.mpr rfl)]; rfl
        · rw [if_neg (ng f0 (by decide)), if_neg (ng f1 (by decide)), if_neg (ng f2 (by decide)), if_neg (ng f3 (by decide)), if_neg (ng f4 (by decide)), if_neg (ng f5 (by decide)), if_neg (ng f6 (by decide)), if_neg (ng f7 (by decide)), if_neg (ng f8 (by decide)), if_neg (ng f9 (by decide)), if_neg (ng f10 (by decide)), if_neg (ng f11 (by decide)), if_neg (ng f12 (by decide)), if_neg (ng f13 (by decide)), if_pos (f14.mpr rfl)]; rfl
        · rw [if_neg (ng f0 (by decide)), if_neg (ng f1 (by decide)), if_neg (ng f2 (by decide)), if_neg (ng f3 (by decide)), if_neg (ng f4 (by decide)), if_neg (ng f5 (by decide)), if_neg (ng f6 (by decide)), if_neg (ng f7 (by decide)), if_neg (ng f8 (by decide)), if_neg (ng f9 (by decide)), if_neg (ng f10 (by decide)), if_neg (ng f11 (by decide)), if_neg (ng f12 (by decide)), if_neg (ng f13 (by decide)), if_neg (ng f14 (by decide)), if_pos (f15.mpr rfl)]; rfl
        · rw [if_neg (ng f0 (by decide)), if_neg (ng f1 (by decide)), if_neg (ng f2 (by decide)), if_neg (ng f3 (by decide)), if_neg (ng f4 (by decide)), if_neg (ng f5 (by decide)), if_neg (ng f6 (by decide)), if_neg (ng f7 (by decide)), if_neg (ng f8 (by decide)), if_neg (ng f9 (by decide)), if_neg (ng f10 (by decide)), if_neg (ng f11 (by decide)), if_neg (ng f12 (by decide)), if_neg (ng f13 (by decide)), if_neg (ng f14 (by decide)), if_neg (ng f15 (by decide)), if_pos (f16.mpr rfl)]; rfl
        · rw [if_neg (ng f0 (by decide)), if_neg (ng f1 (by decide)), if_neg (ng f2 (by decide)), if_neg (ng f3 (by decide)), if_neg (ng f4 (by decide)), if_neg (ng f5 (by decide)), if_neg (ng f6 (by decide)), if_neg (ng f7 (by decide)), if_neg (ng f8 (by decide)), if_neg (ng f9 (by decide)), if_neg (ng f10 (by decide)), if_neg (ng f11 (by decide)), if_neg (ng f12 (by decide)), if_neg (ng f13 (by decide)), if_neg (ng f14 (by decide)), if_neg (ng f15 (by decide)), if_neg (ng f16 (by decide)), if_pos (f17.mpr rfl)]; rfl
        · rw [if_neg (ng f0 (by decide)), if_neg (ng f1 (by decide)), if_neg (ng f2 (by decide)), if_neg (ng f3 (by decide)), if_neg (ng f4 (by decide)), if_neg (ng f5 (by decide)), if_neg (ng f6 (by decide)), if_neg (ng f7 (by decide)), if_neg (ng f8 (by decide)), if_neg (ng f9 (by decide)), if_neg (ng f10 (by decide)), if_neg (ng f11 (by decide)), if_neg (ng f12 (by decide)), if_neg (ng f13 (by decide)), if_neg (ng f14 (by decide)), if_neg (ng f15 (by decide)), if_neg (ng f16 (by decide)), if_neg (ng f17 (by decide)), if_pos (f18.mpr rfl)]; rfl
      · have nn : ∀ {P : Prop} {j : Nat}, j < 19 → (P ↔ some i = some j) → ¬ P := fun hj q w => by have := q.mp w; cases this; exact y hj
        rw [if_neg (nn (by omega) f0), if_neg (nn (by omega) f1), if_neg (nn (by omega) f2), if_neg (nn (by omega) f3), if_neg (nn (by omega) f4), if_neg (nn (by omega) f5), if_neg (nn (by omega) f6), if_neg (nn (by omega) f7), if_neg (nn (by omega) f8), if_neg (nn (by omega) f9), if_neg (nn (by omega) f10), if_neg (nn (by omega) f11), if_neg (nn (by omega) f12), if_neg (nn (by omega) f13), if_neg (nn (by omega) f14), if_neg (nn (by omega) f15), if_neg (nn (by omega) f16), if_neg (nn (by omega) f17), if_neg (nn (by omega) f18)]
        simp [z, b1I, show 19 ≤ i by omega]
  · rw [if_neg (fun w => z (e2.mp w))]; simp [z, b1I]
