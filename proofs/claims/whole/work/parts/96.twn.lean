/-! a town, read side by side -/
def CT (t : Nat) (σ τ : Mm) : Prop := (∀ a, a ≠ 3 → a ≠ 4 → (a < t ∨ t + 14 < a) → ∀ k, gI τ a k = gI σ a k) ∧ (∀ a, a ≠ 4 → (a < t ∨ t + 14 < a) → ∀ k, gL τ a k = gL σ a k) ∧ (∀ a k, gR τ a k = gR σ a k)
theorem CT.tr {t : Nat} {σ τ υ : Mm} (h : CT t σ τ) (g : CT t τ υ) : CT t σ υ := ⟨fun b b1 b2 b3 k => (g.1 b b1 b2 b3 k).trans (h.1 b b1 b2 b3 k), fun b b1 b2 k => (g.2.1 b b1 b2 k).trans (h.2.1 b b1 b2 k), fun b k => (g.2.2 b k).trans (h.2.2 b k)⟩
theorem Cf.ct {t : Nat} {σ τ : Mm} (h : Cf σ τ) : CT t σ τ := ⟨fun a h1 h2 _ k => h.1 a h1 h2 k, fun a h1 _ k => h.2.1 a h1 k, h.2.2⟩
theorem CT.pI {t a k : Nat} {σ : Mm} {v : Int32} (h : t ≤ a ∧ a ≤ t + 14) : CT t σ (pI σ a k v) := ⟨fun b _ _ h3 j => gI_pI_n (Or.inl (by omega)), fun _ _ _ _ => rfl, fun _ _ => rfl⟩
theorem CT.pL {t a k : Nat} {σ : Mm} {v : Int64} (h : t ≤ a ∧ a ≤ t + 14) : CT t σ (pL σ a k v) := ⟨fun b _ _ h3 j => rfl, fun b _ h3 j => gL_pL_n (Or.inl (by omega)), fun _ _ => rfl⟩
/-- how long the first row of an array is -/
def r0M (a : Nat) : Nat := if a = 2 then 4 else if a ≤ 7 then 8 else if a ≤ 11 then 6 else if a ≤ 13 then 1 else if a = 14 then 1000 else 0
def MT (σ τ : Mm) : Prop := (∀ a, a ≠ 0 → (a = 1 ∨ 16 < a) → ∀ k, gI τ a k = gI σ a k) ∧ (∀ a, 2 ≤ a → a ≤ 14 → ∀ k, k < r0M a → gI τ a k = gI σ a k) ∧ (∀ j, j ≠ 4 → j ≠ 5 → j ≠ 6 → j ≠ 8 → j ≠ 9 → j ≠ 23 → j ≠ 24 → j ≠ 37 → j ≠ 39 → gI τ 0 j = gI σ 0 j) ∧ (∀ a k, a ≠ 0 → a ≠ 3 → a ≠ 4 → gL τ a k = gL σ a k) ∧ (∀ a k, a = 3 ∨ a = 4 → k < 6 → gL τ a k = gL σ a k) ∧ (∀ a k, gR τ a k = gR σ a k)
theorem MT.rf {σ : Mm} : MT σ σ := ⟨fun _ _ _ _ => rfl, fun _ _ _ _ _ => rfl, fun _ _ _ _ _ _ _ _ _ _ => rfl, fun _ _ _ _ _ => rfl, fun _ _ _ _ => rfl, fun _ _ => rfl⟩
theorem MT.tr {σ τ υ : Mm} (h : MT σ τ) (g : MT τ υ) : MT σ υ := ⟨fun b hb hc k => (g.1 b hb hc k).trans (h.1 b hb hc k), fun b hb hc k hk => (g.2.1 b hb hc k hk).trans (h.2.1 b hb hc k hk), fun j a b c d e f i m o => (g.2.2.1 j a b c d e f i m o).trans (h.2.2.1 j a b c d e f i m o), fun a k z1 z2 z3 => (g.2.2.2.1 a k z1 z2 z3).trans (h.2.2.2.1 a k z1 z2 z3), fun a k z1 z2 => (g.2.2.2.2.1 a k z1 z2).trans (h.2.2.2.2.1 a k z1 z2), fun b k => (g.2.2.2.2.2 b k).trans (h.2.2.2.2.2 b k)⟩
theorem Mf.mt {σ τ : Mm} (h : Mf σ τ) : MT σ τ := ⟨fun a h1 _ k => h.1 a h1 k, fun a h1 _ k _ => h.1 a (by omega) k, fun j a b c d e _ _ f i => h.2.1 j a b c d e f i, fun a k z _ _ => h.2.2.1 a k (fun y => z y.1), fun a k z _ => h.2.2.1 a k (by omega), h.2.2.2⟩
theorem MT.p0 {σ : Mm} {k : Nat} {v : Int32} (hk : k = 23 ∨ k = 24) : MT σ (pI σ 0 k v) := ⟨fun b h _ j => gI_pI_n (Or.inl h), fun b h _ j _ => gI_pI_n (Or.inl (by omega)), fun j _ _ _ _ _ h1 h2 _ _ => gI_pI_n (Or.inr (by omega)), fun _ _ _ _ _ => rfl, fun _ _ _ _ => rfl, fun _ _ => rfl⟩
theorem or_ne {a b k j : Nat} (hk : r0M a ≤ k) (hj : j < r0M b) : b ≠ a ∨ j ≠ k := by
  by_cases z : b = a
  · subst z; right; omega
  · left; exact z
theorem MT.pI {σ : Mm} {a k : Nat} {v : Int32} (ha : 2 ≤ a ∧ a ≤ 16) (hk : r0M a ≤ k) : MT σ (pI σ a k v) := ⟨fun b _ h j => gI_pI_n (Or.inl (by omega)), fun b _ _ j hj => gI_pI_n (or_ne hk hj), fun _ _ _ _ _ _ _ _ _ _ => gI_pI_n (Or.inl (by omega)), fun _ _ _ _ _ => rfl, fun _ _ _ _ => rfl, fun _ _ => rfl⟩
theorem MT.pL {σ : Mm} {a k : Nat} {v : Int64} (ha : a = 3 ∨ a = 4) (hk : 6 ≤ k) : MT σ (pL σ a k v) := ⟨fun _ _ _ _ => rfl, fun _ _ _ _ _ => rfl, fun _ _ _ _ _ _ _ _ _ _ => rfl, fun b j _ h3 h4 => gL_pL_n (Or.inl (by omega)), fun b j _ hj => gL_pL_n (Or.inr (by omega)), fun _ _ => rfl⟩
theorem Rd.ct {σ μ σ' : Mm} {s : Nat → Nat} {n p t : Nat} (h : Rd σ μ s n p) (ht : isTown t = true) (e1 : ∀ a, (a < t ∨ t + 14 < a) → ∀ k, gI σ' a k = gI σ a k) (e2 : ∀ a, (a < t ∨ t + 14 < a) → ∀ k, gL σ' a k = gL σ a k) : Rd σ' μ s n p := by
  have ta := town_a ht
  exact h.cg (fun a ha k => e1 a (by omega) k) (fun a ha k => e2 a (by omega) k) (fun _ => rfl) (fun _ _ => rfl) rfl
/-- a new name -/
theorem r_new {σ μ : Mm} {s : Nat → Nat} {n p t P W : Nat} (h : Rd σ μ s n p) (f0 : gI σ 3 1 = 0) (hP : NmP σ μ t 1 P) (hW : NmW σ μ t 1 W) :
    (∃ σ' μ', f_X6_isNewName t σ = some (1, σ) ∧ f_X8_advance σ = some (0, σ') ∧ f_X12_needsNew μ = some (1, μ') ∧ nmR (gL σ 4 5) (gL μ' 0 38) ∧ Ok σ μ σ' μ' s n (tkE s n p) ∧ p < tkE s n p) ∨ ∃ σ' μ', f_X6_isNewName t σ = some (0, σ') ∧ f_X12_needsNew μ = some (0, μ') ∧ No σ μ σ' μ' := by
  have nc := h.nameC
  have nm := h.nameM
  have p6 := hP.2.2.1
  have w6 := hW.2.2.1
  unfold f_X6_isNewName f_X12_needsNew
  rw [ck_t hP.1, cl_of _ nc, cl_of _ nm]
  cases e : nmT s n p
  · right
    obtain ⟨σ', μ', a1, a2, a3, a4, a5⟩ := h.bad (k := 1) (by omega) (by omega)
    have a1 : f_X6_wrong 1 σ = some (0, σ') := a1
    have a2 : f_X12_fails 1 μ = some (0, μ') := a2
    rw [if_pos b1F0, if_neg (show ¬ b1I (!false) = 0 by decide), cl_of _ a1, cl_of _ a2]
    exact ⟨σ', μ', rfl, rfl, a3, a4, a5⟩
  · have k2 := nm_2 e
    have hw := h.nm k2
    obtain ⟨o, o1, o2, o3⟩ := r_placeNamed hP hw
    obtain ⟨u, u1, u2, u3⟩ := r_walkerNamed hW hw
    have o3 : f_X12_placeNamed 1 μ = some (oI o, μ) := o3
    have u3 : f_X12_walkerNamed 1 μ = some (oI u, μ) := u3
    obtain ⟨σb, μb, a1, a2, a3, a4, a5⟩ := h.bad (k := 3) (by omega) (by omega)
    have a1 : f_X6_wrong 3 σ = some (0, σb) := a1
    have a2 : f_X12_fails 3 μ = some (0, μb) := a2
    rw [if_neg b1T0, if_pos (show b1I (!true) = 0 from rfl), cl_of _ o2, cl_of _ o3, jn_e, jn_e, cl_of _ u2, cl_of _ u3, cl_of _ a1, cl_of _ a2]
    cases o with
    | some k =>
      right
      have := o1 k rfl
      rw [oI_some, if_neg (nI_ne k (by omega)), if_neg (nI_pos (by omega))]
      exact ⟨σb, μb, rfl, rfl, a3, a4, a5⟩
    | none =>
      rw [oI_none, if_pos rfl, if_pos (show (-1 : Int32) < 0 by decide)]
      cases u with
      | some k =>
        right
        have := u1 k rfl
        rw [oI_some, if_neg (nI_ne k (by omega)), if_neg (nI_pos (by omega))]
        exact ⟨σb, μb, rfl, rfl, a3, a4, a5⟩
      | none =>
        left
        rw [oI_none, if_pos rfl, if_pos (show (-1 : Int32) < 0 by decide)]
        have hr : Rd σ (pL μ 0 38 (gL μ 0 7)) s n p := h.cm (fun k => rfl) (fun j hj => rfl) (by rw [gL_pL_n (Or.inr (by decide))])
        obtain ⟨σ', μ', b1, b2, b3, b4, b5⟩ := hr.next
        rw [bn_e, cl_of _ b2]
        refine ⟨σ', μ', rfl, b1, rfl, ?_, ⟨b3.cf, Mf.pL.tr b4.mf, fault4 b3 f0, b5⟩, kw_adv h.2.2.2.1 (Or.inl k2)⟩
        rw [b4.2.2.1 0 38 (by decide), gL_pL_s]; exact hw
/-- a kind -/
def kdT (s : Nat → Nat) (n p : Nat) : Option Nat := if tkK s n p = 2 then (match wxF (tk32 s n p) 23 with | some i => if 12 ≤ i ∧ i ≤ 15 then some (i - 12) else none | none => none) else none
theorem kdT_le {s : Nat → Nat} {n p v : Nat} (h : kdT s n p = some v) : v ≤ 3 ∧ tkK s n p = 2 ∧ wxF (tk32 s n p) 23 = some (12 + v) := by
  unfold kdT at h
  by_cases z : tkK s n p = 2
  · rw [if_pos z] at h
    cases e : wxF (tk32 s n p) 23 with
    | none => rw [e] at h; cases h
    | some i =>
      rw [e] at h
      simp only [] at h
      split at h
      · rename_i q
        cases h
        exact ⟨by omega, z, by congr 1; omega⟩
      · cases h
  · rw [if_neg z] at h; cases h
theorem wd_kd {s : Nat → Nat} {n p i : Nat} (hi : i ≤ 3) : wdT s n p (12 + i) = decide (kdT s n p = some i) := by
  unfold wdT
  rw [decide_eq_decide]
  constructor
  · intro ⟨z, e⟩
    have := (wxF_iff (c := tk32 s n p) (i := 12 + i) (by omega)).mpr e.symm
    unfold kdT
    rw [if_pos z, this]
    show (if 12 ≤ 12 + i ∧ 12 + i ≤ 15 then some (12 + i - 12) else none) = some i
    rw [if_pos (by omega), Nat.add_sub_cancel_left]
  · intro h
    obtain ⟨a, b, c⟩ := kdT_le h
    exact ⟨b, ((wxF_iff (i := 12 + i) (by omega)).mp c).symm⟩
theorem r_kind {σ μ : Mm} {s : Nat → Nat} {n p : Nat} (h : Rd σ μ s n p) : (∀ v, kdT s n p = some v → ∀ σ', f_X8_advance σ = some (0, σ') → f_X6_readKind σ = some (nI v, σ')) ∧ (kdT s n p = none → ∀ σ', f_X6_wrong 1 σ = some (0, σ') → f_X6_readKind σ = some (-1, σ')) ∧ ∀ K : Int32 → Option (Int32 × Mm), cl (f_X12_isWord (8740238 : Int64) μ) (fun r50 _ => (if r50 = 0 then cl (f_X12_isWord (237292 : Int64) μ) (fun r64 _ => (if r64 = 0 then cl (f_X12_isWord (1306021 : Int64) μ) (fun r78 _ => (if r78 = 0 then cl (f_X12_isWord (2495756 : Int64) μ) (fun r92 _ => (if r92 = 0 then K (-1 : Int32) else K (3 : Int32))) else K (2 : Int32))) else K (1 : Int32))) else K (0 : Int32))) = K (oI (kdT s n p)) := by
  obtain ⟨_, _, _, h4, h5, h6⟩ := id h
  have k4 := tkK_le s n p
  have e1 : nI (tkK s n p) = 2 ↔ tkK s n p = 2 := kI k4 (c := 2) (by omega)
  refine ⟨fun v hv σ' a1 => ?_, fun hv σ' a1 => ?_, fun K => ?_⟩
  · obtain ⟨v3, z, e⟩ := kdT_le hv
    have c1 : ¬ nI (12 + v) < 12 := fun w => by have := (nI_ltI (b := 12) (by omega) (by omega)).mp w; omega
    have c2 : ¬ (15 : Int32) < nI (12 + v) := fun w => by have := (nI_ltI (a := 15) (by omega) (by omega)).mp w; omega
    have sub : nI (12 + v) - 12 = nI v := by rw [show (12 : Int32) = nI 12 from rfl, pk_sub (by omega)]; congr 1; omega
    unfold f_X6_readKind
    rw [jn_e, h5.2.2.1, if_pos (e1.mpr z), (h5.2.2.2.1 z).2, e, oI_some, if_neg c1, if_neg c2, bn_e, cl_of _ a1, sub]
  · unfold f_X6_readKind
    rw [jn_e, h5.2.2.1, cl_of _ a1]
    by_cases z : tkK s n p = 2
    · rw [if_pos (e1.mpr z), (h5.2.2.2.1 z).2]
      unfold kdT at hv
      rw [if_pos z] at hv
      cases e : wxF (tk32 s n p) 23 with
      | none => rw [oI_none, if_pos (by decide)]
      | some i =>
        have hi := (wxF_some e).1
        rw [e] at hv
        simp only [] at hv
        have q : ¬ (12 ≤ i ∧ i ≤ 15) := fun q => by rw [if_pos q] at hv; cases hv
        rw [oI_some]
        have k1 : nI i < 12 ↔ i < 12 := nI_ltI (b := 12) (by omega) (by omega)
        have k2 : (15 : Int32) < nI i ↔ 15 < i := nI_ltI (a := 15) (by omega) (by omega)
        by_cases y : i < 12
        · rw [if_pos (k1.mpr y)]
        · rw [if_neg (fun w => y (k1.mp w)), if_pos (k2.mpr (by omega))]
    · rw [if_neg (fun w => z (e1.mp w))]
  · have w0 : f_X12_isWord 8740238 μ = some (b1I (decide (kdT s n p = some 0)), μ) := by have := (h.word (i := 12) (by omega)).2; rw [wd_kd (i := 0) (by omega)] at this; exact this
    have w1 : f_X12_isWord 237292 μ = some (b1I (decide (kdT s n p = some 1)), μ) := by have := (h.word (i := 13) (by omega)).2; rw [wd_kd (i := 1) (by omega)] at this; exact this
    have w2 : f_X12_isWord 1306021 μ = some (b1I (decide (kdT s n p = some 2)), μ) := by have := (h.word (i := 14) (by omega)).2; rw [wd_kd (i := 2) (by omega)] at this; exact this
    have w3 : f_X12_isWord 2495756 μ = some (b1I (decide (kdT s n p = some 3)), μ) := by have := (h.word (i := 15) (by omega)).2; rw [wd_kd (i := 3) (by omega)] at this; exact this
    rw [cl_of _ w0, cl_of _ w1, cl_of _ w2, cl_of _ w3]
    cases e : kdT s n p with
    | none => rfl
    | some v =>
      have := (kdT_le e).1
      have : v = 0 ∨ v = 1 ∨ v = 2 ∨ v = 3 := by omega
      rcases this with rfl | rfl | rfl | rfl <;> rfl
