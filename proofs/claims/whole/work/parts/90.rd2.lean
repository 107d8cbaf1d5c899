theorem Rd.cg {σ μ σ' μ' : Mm} {s : Nat → Nat} {n p : Nat} (h : Rd σ μ s n p) (e1 : ∀ a, a = 1 ∨ a = 2 ∨ a = 4 → ∀ k, gI σ' a k = gI σ a k) (e2 : ∀ a, a = 4 ∨ a = 5 → ∀ k, gL σ' a k = gL σ a k) (e3 : ∀ k, gI μ' 1 k = gI μ 1 k) (e4 : ∀ j, j = 3 ∨ j = 4 ∨ j = 5 ∨ j = 6 ∨ j = 8 → gI μ' 0 j = gI μ 0 j) (e5 : gL μ' 0 7 = gL μ 0 7) : Rd σ' μ' s n p := by
  obtain ⟨h1, h2, h3, h4, h5, h6⟩ := h
  refine ⟨⟨h1.1, by rw [e1 1 (by omega)]; exact h1.2.1, fun k hk => by rw [e1 2 (by omega)]; exact h1.2.2 k hk⟩, ⟨h2.1, by rw [e4 3 (by omega)]; exact h2.2.1, fun k hk => by rw [e3]; exact h2.2.2 k hk⟩, fun i hi => by rw [e2 5 (by omega)]; exact h3 i hi, h4, ?_, ?_⟩
  · obtain ⟨a1, a2, a3, a4, a5, a6⟩ := h5
    refine ⟨by rw [e1 4 (by omega)]; exact a1, by rw [e1 4 (by omega)]; exact a2, by rw [e1 4 (by omega)]; exact a3, fun z => by rw [e2 4 (by omega), e1 4 (by omega)]; exact a4 z, fun z => by rw [e1 4 (by omega)]; exact a5 z, fun z => by rw [e1 4 (by omega)]; exact a6 z⟩
  · obtain ⟨a1, a2, a3, a4, a5⟩ := h6
    exact ⟨by rw [e4 5 (by omega)]; exact a1, by rw [e4 4 (by omega)]; exact a2, by rw [e4 6 (by omega)]; exact a3, fun z => by rw [e5]; exact a4 z, fun z => by rw [e4 8 (by omega)]; exact a5 z⟩
/-- only the reference's memory changed, and not its token -/
theorem Rd.cm {σ μ μ' : Mm} {s : Nat → Nat} {n p : Nat} (h : Rd σ μ s n p) (e3 : ∀ k, gI μ' 1 k = gI μ 1 k) (e4 : ∀ j, j = 3 ∨ j = 4 ∨ j = 5 ∨ j = 6 ∨ j = 8 → gI μ' 0 j = gI μ 0 j) (e5 : gL μ' 0 7 = gL μ 0 7) : Rd σ μ' s n p := h.cg (fun _ _ _ => rfl) (fun _ _ _ => rfl) e3 e4 e5
def Ok (σ μ σ' μ' : Mm) (s : Nat → Nat) (n q : Nat) : Prop := Cf σ σ' ∧ Mf μ μ' ∧ gI σ' 3 1 = 0 ∧ Rd σ' μ' s n q
def No (σ μ σ' μ' : Mm) : Prop := Cf σ σ' ∧ Mf μ μ' ∧ Bad σ' μ'
theorem fault4 {σ τ : Mm} (f : Fx 4 σ τ) (h : gI σ 3 1 = 0) : gI τ 3 1 = 0 := by rw [f.1 3 (by decide)]; exact h
theorem Rd.nextOk {σ μ : Mm} {s : Nat → Nat} {n p : Nat} (h : Rd σ μ s n p) (f0 : gI σ 3 1 = 0) : ∃ σ' μ', f_X8_advance σ = some (0, σ') ∧ f_X12_nextToken μ = some (0, μ') ∧ Ok σ μ σ' μ' s n (tkE s n p) := by
  obtain ⟨σ', μ', a1, a2, a3, a4, a5⟩ := h.next
  exact ⟨σ', μ', a1, a2, a3.cf, a4.mf, fault4 a3 f0, a5⟩
theorem sg_lt {s : Nat → Nat} {n p c : Nat} (hp : p ≤ n) (h : sgT s n p c = true) : p < tkE s n p := by
  have h := of_decide_eq_true h
  have b := tk_b hp h.1
  have := tk_lt hp (show tkB s n p ≠ n by omega)
  have := tk_le (s := s) hp
  omega
theorem b1F0 : b1I false = 0 := rfl
theorem b1T0 : ¬ b1I true = 0 := by decide
theorem kw_adv {s : Nat → Nat} {n p : Nat} (hp : p ≤ n) (h : tkK s n p = 2 ∨ tkK s n p = 3) : p < tkE s n p := by
  have b : tkB s n p ≠ n := fun z => by
    unfold tkK at h
    rw [if_pos z] at h
    omega
  have := tk_lt hp b
  have := tk_le (s := s) hp
  omega
theorem r_close {σ μ : Mm} {s : Nat → Nat} {n p : Nat} (h : Rd σ μ s n p) (f0 : gI σ 3 1 = 0) : (sgT s n p 59 = true ∧ ∃ σ' μ', f_X6_readSign 59 σ = some (1, σ') ∧ f_X12_closes μ = some (1, μ') ∧ Ok σ μ σ' μ' s n (tkE s n p)) ∨ ∃ σ' μ', f_X6_readSign 59 σ = some (0, σ') ∧ f_X12_closes μ = some (0, μ') ∧ No σ μ σ' μ' := by
  obtain ⟨s1, s2⟩ := h.sign (c := 59) (by omega)
  have s1 : f_X8_isSign 59 σ = some (b1I (sgT s n p 59), σ) := s1
  have s2 : f_X12_isSign 59 μ = some (b1I (sgT s n p 59), μ) := s2
  unfold f_X6_readSign f_X12_closes
  rw [cl_of _ s1, cl_of _ s2]
  cases e : sgT s n p 59
  · right
    obtain ⟨σ', μ', a1, a2, a3, a4, a5⟩ := h.bad (k := 1) (by omega) (by omega)
    have a1 : f_X6_wrong 1 σ = some (0, σ') := a1
    have a2 : f_X12_fails 1 μ = some (0, μ') := a2
    rw [if_pos b1F0, if_pos b1F0, cl_of _ a1, cl_of _ a2]
    exact ⟨σ', μ', rfl, rfl, a3, a4, a5⟩
  · left
    obtain ⟨σ', μ', a1, a2, a3⟩ := h.nextOk f0
    rw [if_neg (show ¬ b1I true = 0 by decide), if_neg (show ¬ b1I true = 0 by decide), cl_of _ a1, cl_of _ a2]
    exact ⟨rfl, σ', μ', rfl, rfl, a3⟩
theorem r_word {σ μ : Mm} {s : Nat → Nat} {n p : Nat} (h : Rd σ μ s n p) (f0 : gI σ 3 1 = 0) {i : Nat} (hi : i < 23) : (wdT s n p i = true ∧ ∃ σ' μ', f_X6_readWord (nI i) σ = some (1, σ') ∧ f_X12_needsWord (lN (kw27 i)) μ = some (1, μ') ∧ Ok σ μ σ' μ' s n (tkE s n p)) ∨ ∃ σ' μ', f_X6_readWord (nI i) σ = some (0, σ') ∧ f_X12_needsWord (lN (kw27 i)) μ = some (0, μ') ∧ No σ μ σ' μ' := by
  obtain ⟨s1, s2⟩ := h.word hi
  unfold f_X6_readWord f_X12_needsWord
  rw [cl_of _ s1, cl_of _ s2]
  cases e : wdT s n p i
  · right
    obtain ⟨σ', μ', a1, a2, a3, a4, a5⟩ := h.bad (k := 1) (by omega) (by omega)
    have a1 : f_X6_wrong 1 σ = some (0, σ') := a1
    have a2 : f_X12_fails 1 μ = some (0, μ') := a2
    rw [if_pos b1F0, if_pos b1F0, cl_of _ a1, cl_of _ a2]
    exact ⟨σ', μ', rfl, rfl, a3, a4, a5⟩
  · left
    obtain ⟨σ', μ', a1, a2, a3⟩ := h.nextOk f0
    rw [if_neg (show ¬ b1I true = 0 by decide), if_neg (show ¬ b1I true = 0 by decide), cl_of _ a1, cl_of _ a2]
    exact ⟨rfl, σ', μ', rfl, rfl, a3⟩
theorem tkV_lt {σ : Mm} {s : Nat → Nat} {n p : Nat} (hp : p ≤ n) (h : tkK s n p = 3) : tkV s n p < 10000 := by
  have tl := tk_le (s := s) hp
  unfold tkK at h
  by_cases z : tkB s n p = n
  · rw [if_pos z] at h; cases h
  · rw [if_neg z] at h
    by_cases y : ltr (s (tkB s n p)) = true
    · rw [if_pos y] at h; split at h <;> cases h
    · rw [if_neg y] at h
      by_cases x : dgt (s (tkB s n p)) = true
      · rw [if_pos x] at h
        have ee : tkE s n p = runE (fun i => dgt (s i)) n (tkB s n p) := by unfold tkE; rw [if_neg z, if_neg y, if_pos x]
        by_cases h4 : tkE s n p - tkB s n p ≤ 4
        · have l : tkV s n p < 10 ^ tkM s n p := by
            refine encF_lt' (fun i hi => ?_) (by decide)
            have hi : i < tkE s n p - tkB s n p := hi
            have := runE_in (p := fun i => dgt (s i)) (n := n) (b := tkB s n p) (i := tkB s n p + i) (by omega) (by rw [← ee]; omega) (by omega)
            have this : 48 ≤ s (tkB s n p + i) ∧ s (tkB s n p + i) ≤ 57 := by simpa [dgt] using this
            omega
          have l2 : 10 ^ tkM s n p ≤ 10 ^ 4 := Nat.pow_le_pow_right (by decide) h4
          have l3 : (10 : Nat) ^ 4 = 10000 := by decide
          omega
        · rw [if_neg h4] at h; cases h
      · rw [if_neg x] at h; split at h <;> cases h
theorem r_number {σ μ : Mm} {s : Nat → Nat} {n p : Nat} (h : Rd σ μ s n p) (f0 : gI σ 3 1 = 0) {m : Nat} (hm : m < 10000) : (tkK s n p = 3 ∧ tkV s n p ≤ m ∧ ∃ σ' μ', f_X6_readNumber (nI m) σ = some (nI (tkV s n p), σ') ∧ f_X12_needsNumber 0 (nI m) μ = some (1, μ') ∧ gI μ' 0 37 = nI (tkV s n p) ∧ Ok σ μ σ' μ' s n (tkE s n p)) ∨ ∃ σ' μ', f_X6_readNumber (nI m) σ = some (-1, σ') ∧ f_X12_needsNumber 0 (nI m) μ = some (0, μ') ∧ No σ μ σ' μ' := by
  obtain ⟨h1, h2, h3, h4, h5, h6⟩ := id h
  have k4 := tkK_le s n p
  have e1 : nI (tkK s n p) = 3 ↔ tkK s n p = 3 := kI k4 (c := 3) (by omega)
  have e2 : nI ((tkK s n p + 4) % 5) = 2 ↔ tkK s n p = 3 := (nI_eq (b := 2) (by omega) (by omega)).trans (by omega)
  unfold f_X6_readNumber f_X12_needsNumber
  rw [h5.2.2.1, h6.2.2.1]
  by_cases z : tkK s n p = 3
  · have vl := tkV_lt (σ := σ) h4 z
    rw [if_pos (e1.mpr z), if_pos (e2.mpr z), h5.2.2.2.2.1 z, h6.2.2.2.2 z, cl_of _ (m_within _ _ _ μ)]
    have lt : nI m < nI (tkV s n p) ↔ m < tkV s n p := nI_ltI (by omega) (by omega)
    by_cases y : m < tkV s n p
    · right
      obtain ⟨σ', μ', a1, a2, a3, a4, a5⟩ := h.bad (k := 4) (by omega) (by omega)
      have a1 : f_X6_wrong 4 σ = some (0, σ') := a1
      have a2 : f_X12_fails 4 μ = some (0, μ') := a2
      rw [if_pos (lt.mpr y), if_neg (show ¬ (¬ nI (tkV s n p) < 0 ∧ ¬ nI m < nI (tkV s n p)) from fun w => w.2 (lt.mpr y)), if_pos rfl, cl_of _ a1, cl_of _ a2]
      exact ⟨σ', μ', rfl, rfl, a3, a4, a5⟩
    · left
      have hr : Rd σ (pI μ 0 37 (nI (tkV s n p))) s n p := h.cm (fun k => gI_pI_n (Or.inl (by decide))) (fun j hj => gI_pI_n (Or.inr (by omega))) rfl
      obtain ⟨σ', μ', a1, a2, a3, a4, a5⟩ := hr.next
      rw [if_neg (fun w => y (lt.mp w)), if_pos (show ¬ nI (tkV s n p) < 0 ∧ ¬ nI m < nI (tkV s n p) from ⟨nI_pos (by omega), fun w => y (lt.mp w)⟩), if_neg one0, bn_e, cl_of _ a1, bn_e, cl_of _ a2]
      refine ⟨z, by omega, σ', μ', rfl, rfl, ?_, a3.cf, (Mf.pI (by omega)).tr a4.mf, fault4 a3 f0, a5⟩
      rw [a4.2.1 37 (by decide) (by decide) (by decide) (by decide), gI_pI_s]
  · right
    obtain ⟨σ', μ', a1, a2, a3, a4, a5⟩ := h.bad (k := 1) (by omega) (by omega)
    have a1 : f_X6_wrong 1 σ = some (0, σ') := a1
    have a2 : f_X12_fails 1 μ = some (0, μ') := a2
    rw [if_neg (fun w => z (e1.mp w)), if_neg (fun w => z (e2.mp w)), cl_of _ a1, cl_of _ a2]
    exact ⟨σ', μ', rfl, rfl, a3, a4, a5⟩
/-! names -/
def nmR (c m : Int64) : Prop := ∃ (f : Nat → Nat) (k : Nat), k ≤ 8 ∧ (∀ i, i < k → 0 < f i ∧ f i < 27) ∧ c = lN (encF 32 f k) ∧ m = lN (encF 27 f k)
theorem nmR_iff {c m c' m' : Int64} (h : nmR c m) (h' : nmR c' m') : c = c' ↔ m = m' := by
  obtain ⟨f, k, k8, a2, rfl, rfl⟩ := h
  obtain ⟨f', k', k8', b2, rfl, rfl⟩ := h'
  have l1 := enc40 (fun i hi => (a2 i hi).2) k8
  have l2 := enc40 (fun i hi => (b2 i hi).2) k8'
  have l3 := enc27 (fun i hi => (a2 i hi).2) k8
  have l4 := enc27 (fun i hi => (b2 i hi).2) k8'
  rw [lN_inj (Nat.lt_trans l1 (by decide)) (Nat.lt_trans l2 (by decide)), lN_inj (Nat.lt_trans l3 (by decide)) (Nat.lt_trans l4 (by decide))]
  constructor
  · intro e
    obtain ⟨q1, q2⟩ := encF_inj (fun j hj => ⟨(a2 j hj).1, by have := (a2 j hj).2; omega⟩) (fun j hj => ⟨(b2 j hj).1, by have := (b2 j hj).2; omega⟩) e
    rw [← q1]; exact encF_congr q2
  · intro e
    obtain ⟨q1, q2⟩ := encF_inj a2 b2 e
    rw [← q1]; exact encF_congr q2
theorem Rd.nm {σ μ : Mm} {s : Nat → Nat} {n p : Nat} (h : Rd σ μ s n p) (z : tkK s n p = 2) : nmR (gL σ 4 5) (gL μ 0 7) := by
  obtain ⟨h1, h2, h3, h4, h5, h6⟩ := h
  obtain ⟨a1, a2⟩ := tk_ok h4 z
  exact ⟨tkF s n p, tkM s n p, a1, a2, (h5.2.2.2.1 z).1, h6.2.2.2.1 z⟩
def NmP (σ μ : Mm) (t r P : Nat) : Prop := isTown t = true ∧ r ≤ 1 ∧ P ≤ 6 ∧ gI σ t 0 = nI P ∧ gI μ 2 (4 * r) = nI P ∧ ∀ k, k < P → nmR (gL σ (t + 4) k) (gL μ 3 (6 * r + k))
def NmW (σ μ : Mm) (t r W : Nat) : Prop := isTown t = true ∧ r ≤ 1 ∧ W ≤ 6 ∧ gI σ t 2 = nI W ∧ gI μ 2 (4 * r + 2) = nI W ∧ ∀ k, k < W → nmR (gL σ (t + 8) k) (gL μ 4 (6 * r + k))
theorem r_placeNamed {σ μ : Mm} {t r P : Nat} (h : NmP σ μ t r P) (hw : nmR (gL σ 4 5) (gL μ 0 7)) : ∃ o : Option Nat, (∀ k, o = some k → k < P) ∧ f_X9_placeNamed t (gL σ 4 5) σ = some (oI o, σ) ∧ f_X12_placeNamed (nI r) μ = some (oI o, μ) := by
  obtain ⟨h1, h2, h3, h4, h5, h6⟩ := h
  refine ⟨fst1 (fun k => decide (gL σ (t + 4) k = gL σ 4 5)) 0 P, fun k hk => by have := (fst1_some hk).2.1; omega, ?_, ?_⟩
  · unfold f_X9_placeNamed
    rw [ck_t h1, jn_e2]
    have q := lq1_fst (F := F_X9_placeNamed_2 t (gL σ 4 5) σ (some (-1, σ))) (fun k => decide (gL σ (t + 4) k = gL σ 4 5)) 0 P (fun k => some (nI k, σ)) (some (-1, σ)) ?_ ?_ ?_ (n := 1000000) (by omega)
    · refine Eq.trans q ?_
      cases fst1 (fun k => decide (gL σ (t + 4) k = gL σ 4 5)) 0 P <;> rfl
    · intro rec k _ hk hp
      have c1 : nI k < gI σ t 0 := by rw [h4]; exact nI_lt (by omega) (by omega)
      simp only [F_X9_placeNamed_2, if_pos c1, ck_t (inb_nI (show k < 6 by omega) (by omega)), nI_tn (show k < 2147483648 by omega), if_pos ((lg_cmp_eq _ _).mpr (of_decide_eq_true hp))]
    · intro rec k _ hk hp
      have c1 : nI k < gI σ t 0 := by rw [h4]; exact nI_lt (by omega) (by omega)
      simp only [F_X9_placeNamed_2, if_pos c1, ck_t (inb_nI (show k < 6 by omega) (by omega)), nI_tn (show k < 2147483648 by omega), if_neg (fun w => of_decide_eq_false hp ((lg_cmp_eq _ _).mp w)), nI_1]
    · intro rec
      have c1 : ¬ nI (0 + P) < gI σ t 0 := by rw [h4, Nat.zero_add]; exact nI_nlt (Nat.le_refl _) (by omega)
      simp only [F_X9_placeNamed_2, if_neg c1]
  · unfold f_X12_placeNamed
    have e6 : (6 : Int32) * nI r = nI (6 * r) := by rw [show (6 : Int32) = nI 6 from rfl, pk_mul]
    have e4 : (4 : Int32) * nI r + 0 = nI (4 * r) := by rw [show (4 : Int32) = nI 4 from rfl, pk_mul]; exact nI_add _ 0
    rw [bn_e, jn_e2, e6]
    have q := lq1_fst (F := F_X12_placeNamed_5 (nI r) μ (some (-1, μ))) (fun k => decide (gL μ 3 k = gL μ 0 7)) (6 * r) P (fun k => some (nI (k - 6 * r), μ)) (some (-1, μ)) ?_ ?_ ?_ (n := 1000000) (by omega)
    · refine Eq.trans q ?_
      have k0 := fst1_shift (c := 6 * r) (p := fun k => decide (gL μ 3 k = gL μ 0 7)) (q := fun k => decide (gL μ 3 (6 * r + k) = gL μ 0 7)) (fun j => rfl) P 0
      rw [Nat.add_zero] at k0
      rw [k0, fst1_congr (q := fun k => decide (gL μ 3 (6 * r + k) = gL μ 0 7)) (p := fun k => decide (gL σ (t + 4) k = gL σ 4 5)) (fun j _ hj => by rw [decide_eq_decide]; exact nmR_iff (h6 j (by omega)) hw)]
      cases fst1 (fun k => decide (gL μ 3 (6 * r + k) = gL μ 0 7)) 0 P with
      | none => rfl
      | some k => simp [oI_some]
    · intro rec k hb hk hp
      have c1 : nI k < nI (6 * r) + nI P := by rw [nI_add]; exact nI_lt (by omega) (by omega)
      simp only [F_X12_placeNamed_5, bn_e, e4, e6, ck_t (inb_nI (show 4 * r < 8 by omega) (by omega)), nI_tn (show 4 * r < 2147483648 by omega), h5, if_pos c1, ck_t (inb_nI (show k < 12 by omega) (by omega)), nI_tn (show k < 2147483648 by omega), if_pos ((lg_cmp_eq _ _).mpr (of_decide_eq_true hp)), pk_sub hb]
    · intro rec k hb hk hp
      have c1 : nI k < nI (6 * r) + nI P := by rw [nI_add]; exact nI_lt (by omega) (by omega)
      simp only [F_X12_placeNamed_5, bn_e, e4, e6, ck_t (inb_nI (show 4 * r < 8 by omega) (by omega)), nI_tn (show 4 * r < 2147483648 by omega), h5, if_pos c1, ck_t (inb_nI (show k < 12 by omega) (by omega)), nI_tn (show k < 2147483648 by omega), if_neg (fun w => of_decide_eq_false hp ((lg_cmp_eq _ _).mp w)), nI_1]
    · intro rec
      have c1 : ¬ nI (6 * r + P) < nI (6 * r) + nI P := by rw [nI_add]; exact nI_nlt (Nat.le_refl _) (by omega)
      simp only [F_X12_placeNamed_5, bn_e, e4, e6, ck_t (inb_nI (show 4 * r < 8 by omega) (by omega)), nI_tn (show 4 * r < 2147483648 by omega), h5, if_neg c1]
theorem r_walkerNamed {σ μ : Mm} {t r W : Nat} (h : NmW σ μ t r W) (hw : nmR (gL σ 4 5) (gL μ 0 7)) : ∃ o : Option Nat, (∀ k, o = some k → k < W) ∧ f_X9_walkerNamed t (gL σ 4 5) σ = some (oI o, σ) ∧ f_X12_walkerNamed (nI r) μ = some (oI o, μ) := by
  obtain ⟨h1, h2, h3, h4, h5, h6⟩ := h
  refine ⟨fst1 (fun k => decide (gL σ (t + 8) k = gL σ 4 5)) 0 W, fun k hk => by have := (fst1_some hk).2.1; omega, ?_, ?_⟩
  · unfold f_X9_walkerNamed
    rw [ck_t h1, jn_e2]
    have q := lq1_fst (F := F_X9_walkerNamed_2 t (gL σ 4 5) σ (some (-1, σ))) (fun k => decide (gL σ (t + 8) k = gL σ 4 5)) 0 W (fun k => some (nI k, σ)) (some (-1, σ)) ?_ ?_ ?_ (n := 1000000) (by omega)
    · refine Eq.trans q ?_
      cases fst1 (fun k => decide (gL σ (t + 8) k = gL σ 4 5)) 0 W <;> rfl
    · intro rec k _ hk hp
      have c1 : nI k < gI σ t 2 := by rw [h4]; exact nI_lt (by omega) (by omega)
      simp only [F_X9_walkerNamed_2, if_pos c1, ck_t (inb_nI (show k < 6 by omega) (by omega)), nI_tn (show k < 2147483648 by omega), if_pos ((lg_cmp_eq _ _).mpr (of_decide_eq_true hp))]
    · intro rec k _ hk hp
      have c1 : nI k < gI σ t 2 := by rw [h4]; exact nI_lt (by omega) (by omega)
      simp only [F_X9_walkerNamed_2, if_pos c1, ck_t (inb_nI (show k < 6 by omega) (by omega)), nI_tn (show k < 2147483648 by omega), if_neg (fun w => of_decide_eq_false hp ((lg_cmp_eq _ _).mp w)), nI_1]
    · intro rec
      have c1 : ¬ nI (0 + W) < gI σ t 2 := by rw [h4, Nat.zero_add]; exact nI_nlt (Nat.le_refl _) (by omega)
      simp only [F_X9_walkerNamed_2, if_neg c1]
  · unfold f_X12_walkerNamed
    have e6 : (6 : Int32) * nI r = nI (6 * r) := by rw [show (6 : Int32) = nI 6 from rfl, pk_mul]
    have e4 : (4 : Int32) * nI r + 2 = nI (4 * r + 2) := by rw [show (4 : Int32) = nI 4 from rfl, pk_mul]; exact nI_add _ 2
    rw [bn_e, jn_e2, e6]
    have q := lq1_fst (F := F_X12_walkerNamed_5 (nI r) μ (some (-1, μ))) (fun k => decide (gL μ 4 k = gL μ 0 7)) (6 * r) W (fun k => some (nI (k - 6 * r), μ)) (some (-1, μ)) ?_ ?_ ?_ (n := 1000000) (by omega)
    · refine Eq.trans q ?_
      have k0 := fst1_shift (c := 6 * r) (p := fun k => decide (gL μ 4 k = gL μ 0 7)) (q := fun k => decide (gL μ 4 (6 * r + k) = gL μ 0 7)) (fun j => rfl) W 0
      rw [Nat.add_zero] at k0
      rw [k0, fst1_congr (q := fun k => decide (gL μ 4 (6 * r + k) = gL μ 0 7)) (p := fun k => decide (gL σ (t + 8) k = gL σ 4 5)) (fun j _ hj => by rw [decide_eq_decide]; exact nmR_iff (h6 j (by omega)) hw)]
      cases fst1 (fun k => decide (gL μ 4 (6 * r + k) = gL μ 0 7)) 0 W with
      | none => rfl
      | some k => simp [oI_some]
    · intro rec k hb hk hp
      have c1 : nI k < nI (6 * r) + nI W := by rw [nI_add]; exact nI_lt (by omega) (by omega)
      simp only [F_X12_walkerNamed_5, bn_e, e4, e6, ck_t (inb_nI (show 4 * r + 2 < 8 by omega) (by omega)), nI_tn (show 4 * r + 2 < 2147483648 by omega), h5, if_pos c1, ck_t (inb_nI (show k < 12 by omega) (by omega)), nI_tn (show k < 2147483648 by omega), if_pos ((lg_cmp_eq _ _).mpr (of_decide_eq_true hp)), pk_sub hb]
    · intro rec k hb hk hp
      have c1 : nI k < nI (6 * r) + nI W := by rw [nI_add]; exact nI_lt (by omega) (by omega)
      simp only [F_X12_walkerNamed_5, bn_e, e4, e6, ck_t (inb_nI (show 4 * r + 2 < 8 by omega) (by omega)), nI_tn (show 4 * r + 2 < 2147483648 by omega), h5, if_pos c1, ck_t (inb_nI (show k < 12 by omega) (by omega)), nI_tn (show k < 2147483648 by omega), if_neg (fun w => of_decide_eq_false hp ((lg_cmp_eq _ _).mp w)), nI_1]
    · intro rec
      have c1 : ¬ nI (6 * r + W) < nI (6 * r) + nI W := by rw [nI_add]; exact nI_nlt (Nat.le_refl _) (by omega)
      simp only [F_X12_walkerNamed_5, bn_e, e4, e6, ck_t (inb_nI (show 4 * r + 2 < 8 by omega) (by omega)), nI_tn (show 4 * r + 2 < 2147483648 by omega), h5, if_neg c1]
