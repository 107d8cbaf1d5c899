/-! what a question leaves as it is -/
def qC : List Nat := [197, 198, 199, 200, 201, 202, 203, 204, 205, 210, 225]
def qM : List Nat := 0 :: 36 :: 37 :: 38 :: 42 :: 43 :: 44 :: 45 :: 46 :: 47 :: 48 :: 49 :: lawM
def QM (σ τ : Mm) : Prop := (∀ a, a ∉ qM → ∀ k, gI τ a k = gI σ a k) ∧ (∀ j, 0 < j → j < 60 → gI τ 0 j = gI σ 0 j) ∧ (∀ j, j < 41 → gI τ 36 j = gI σ 36 j) ∧ (∀ a k, a ≠ 0 → gL τ a k = gL σ a k) ∧ (∀ a k, gR τ a k = gR σ a k)
theorem QM.rf {σ : Mm} : QM σ σ := ⟨fun _ _ _ => rfl, fun _ _ _ => rfl, fun _ _ => rfl, fun _ _ _ => rfl, fun _ _ => rfl⟩
theorem QM.tr {σ τ υ : Mm} (h : QM σ τ) (g : QM τ υ) : QM σ υ := ⟨fun a ha k => (g.1 a ha k).trans (h.1 a ha k), fun j h1 h2 => (g.2.1 j h1 h2).trans (h.2.1 j h1 h2), fun j hj => (g.2.2.1 j hj).trans (h.2.2.1 j hj), fun a k ha => (g.2.2.2.1 a k ha).trans (h.2.2.2.1 a k ha), fun a k => (g.2.2.2.2 a k).trans (h.2.2.2.2 a k)⟩
theorem QM.of {S : List Nat} {σ τ : Mm} (o : Off S σ τ) (hs : ∀ a, a ∈ S → a ∈ qM) (h0 : ∀ j, 0 < j → j < 60 → gI τ 0 j = gI σ 0 j) (h36 : ∀ j, j < 41 → gI τ 36 j = gI σ 36 j) : QM σ τ := ⟨fun a ha k => o.1 a (fun q => ha (hs a q)) k, h0, h36, fun a k _ => o.2.1 a k, o.2.2⟩
theorem QM.z (σ : Mm) (v : Int32) : QM σ (pI σ 0 0 v) := QM.of (S := [0]) (Off.pI (by simp)) (by simp [qM]) (fun j h1 _ => gI_pI_n (Or.inr (by omega))) (fun j _ => gI_pI_n (Or.inl (by decide)))
theorem TM.q {σ τ : Mm} {T : Tw} (h : TM σ T) (q : QM σ τ) : TM τ T := by
  have o : Off qM σ (τ.1, σ.2) := ⟨fun a ha k => q.1 a ha k, fun _ _ => rfl, fun _ _ => rfl⟩
  have h2 : TM (τ.1, σ.2) T := h.off o (fun a ha => by simp only [qM, lawM, List.mem_cons, List.not_mem_nil, or_false] at ha; omega)
  exact h2
/-- how it is, in the class's memory, in the reference's -/
def CI (σ : Mm) (t : Nat) (T : Tw) (N : Nt) : Prop := gR σ 0 7 = t ∧ TC σ t T ∧ RC σ 6 (tW T) N
def MI (σ : Mm) (T : Tw) (N : Nt) : Prop := TM σ T ∧ RP σ 36 0 T N ∧ gI σ 0 56 = 0 ∧ gI σ 0 57 = 63
def Bo (σ μ : Mm) (t : Nat) (T : Tw) (N : Nt) : Prop := TwOk T ∧ NtOk T N ∧ CI σ t T N ∧ MI μ T N
theorem TC.q {σ τ : Mm} {t : Nat} {T : Tw} (h : TC σ t T) (o : Off qC σ τ) : TC τ t T := by
  have tn := town_night h.1 n197
  exact h.off o (fun a ha => by simp only [qC, List.mem_cons, List.not_mem_nil, or_false] at ha; omega)
theorem n6 : isNight 6 = true := by decide
theorem ne6 : (197 : Nat) ≠ 6 := by decide
theorem CI.q {σ τ : Mm} {t : Nat} {T : Tw} {N : Nt} (h : CI σ t T N) (o : Off qC σ τ) : CI τ t T N := ⟨by rw [o.2.2]; exact h.1, h.2.1.q o, h.2.2.off o (fun a ha => by simp only [qC, List.mem_cons, List.not_mem_nil, or_false] at ha; omega)⟩
theorem MI.q {σ τ : Mm} {T : Tw} {N : Nt} (h : MI σ T N) (hT : TwOk T) (q : QM σ τ) : MI τ T N := ⟨h.1.q q, h.2.1.copy hT.2.2.1 (fun j hj => by rw [Nat.zero_add]; exact q.2.2.1 j hj), by rw [q.2.1 56 (by decide) (by decide)]; exact h.2.2.1, by rw [q.2.1 57 (by decide) (by decide)]; exact h.2.2.2⟩
theorem MI.rm {σ : Mm} {T : Tw} {N : Nt} (h : MI σ T N) (hT : TwOk T) : RM σ T N := RM.of_RP h.2.1 hT.2.2.1 h.2.2.2
theorem tryQ {σ τ : Mm} {t : Nat} (ht : isTown t = true) (o : Off (tryC t) σ τ) : Off qC σ τ := by
  have tn := town_night ht n197
  refine o.mono (fun a ha => ?_)
  simp only [tryC, List.mem_cons, List.not_mem_nil, or_false] at ha
  simp only [qC, List.mem_cons, List.not_mem_nil, or_false]
  omega
theorem trM_Q {σ τ : Mm} (o : Off trM σ τ) (h0 : ∀ j, j < 60 ∨ 63 < j → gI τ 0 j = gI σ 0 j) (h36 : ∀ j, j < 41 → gI τ 36 j = gI σ 36 j) : QM σ τ := QM.of o (fun a ha => by simp only [trM, ghM, lawM, List.mem_cons, List.not_mem_nil, or_false] at ha; simp only [qM, lawM, List.mem_cons, List.not_mem_nil, or_false]; omega) (fun j _ h2 => h0 j (Or.inl h2)) h36
theorem m_triesQ {σ : Mm} {T : Tw} {N : Nt} (h : MI σ T N) (hT : TwOk T) (hN : NtOk T N) : ∃ τ, f_X12_tries σ = some (0, τ) ∧ Gr τ T 0 N ∧ QM σ τ := by
  obtain ⟨τ, t1, t2, t3, t4, t5⟩ := m_tries h.1 hT (h.rm hT) hN h.2.2.1
  exact ⟨τ, t1, t2, trM_Q t3 t4 t5⟩
/-- both answer alike, and how it is stays -/
def An (f g : Mm → Option (Int32 × Mm)) (σ μ : Mm) : Prop := ∃ r σ' μ', f σ = some (r, σ') ∧ g μ = some (r, μ') ∧ Off qC σ σ' ∧ QM μ μ'
theorem one0 : ¬ (1 : Int32) = 0 := by decide
theorem q_darks {σ μ : Mm} {t : Nat} {T : Tw} {N : Nt} (h : Bo σ μ t T N) (x : Int32) : An (f_X11_darks x) (f_X12_darks x) σ μ := by
  obtain ⟨hT, hN, ⟨ht, hc, rc⟩, hM⟩ := h
  have hM := hM.q hT (QM.z μ 0)
  have hW := hT.2.2.1
  unfold An f_X11_darks f_X12_darks
  simp only [bn_e, ht, ck_t hc.1, cl_of _ (s_has hc.1 x).2.2, hc.2.2.2.1, cl_of _ (m_isWalker hM.1 x)]
  by_cases v : ¬ x < 0 ∧ x < nI (tW T)
  · obtain ⟨w, hw, rfl⟩ := in_nat (by omega) v.1 v.2
    obtain ⟨τ, t1, t2⟩ := s_darkTimesOf hc hT ne6 rc hN hw
    obtain ⟨ν, n1, n2, n3⟩ := m_triesQ hM hT hN
    simp only [if_pos v, if_neg one0, cl_of _ t1, cl_of _ n1, ck_t (inb_nI (show w < 6 by omega) (by omega)), nI_tn (show w < 2147483648 by omega), (n2.2.2.2.2.1 w hw).1]
    exact ⟨_, _, _, rfl, rfl, tryQ hc.1 t2, (QM.z μ 0).tr n3⟩
  · simp only [if_neg v, if_true]
    exact ⟨_, _, _, rfl, rfl, Off.rf, QM.z μ 0⟩
theorem fst1_cut {p : Nat → Bool} {a b : Nat} (hab : a ≤ b) : fst1 p 0 a = (match fst1 p 0 b with | some k => if k < a then some k else none | none => none) := by
  cases e : fst1 p 0 b with
  | none =>
    cases e2 : fst1 p 0 a with
    | none => rfl
    | some k => obtain ⟨-, h2, h3, -⟩ := fst1_some e2; have := fst1_none e k (Nat.zero_le _) (by omega); rw [h3] at this; cases this
  | some k =>
    obtain ⟨-, h2, h3, h4⟩ := fst1_some e
    show _ = if k < a then some k else none
    by_cases c : k < a
    · rw [if_pos c]
      cases e2 : fst1 p 0 a with
      | none => have := fst1_none e2 k (Nat.zero_le _) (by omega); rw [h3] at this; cases this
      | some m =>
        obtain ⟨-, g2, g3, g4⟩ := fst1_some e2
        rcases Nat.lt_trichotomy m k with z | z | z
        · have := h4 m (Nat.zero_le _) z; rw [g3] at this; cases this
        · rw [z]
        · have := g4 k (Nat.zero_le _) z; rw [h3] at this; cases this
    · rw [if_neg c]
      cases e2 : fst1 p 0 a with
      | none => rfl
      | some m => obtain ⟨-, g2, g3, g4⟩ := fst1_some e2; have := h4 m (Nat.zero_le _) (by omega); rw [g3] at this; cases this
theorem hmN_iff {T : Tw} {N : Nt} {w : Nat} (hw : w < tW T) : (if homeN T (itN T 0 N (hmN T N w)) w then nI (hmN T N w) else -1) = oI (fst1 (fun j => homeN T (itN T 0 N j) w) 0 (tkN T 0 N + 1)) := by
  have hle := tkN_le T 0 N
  -- all is over behind 100 minutes, or all are home
  have cut : fst1 (fun j => homeN T (itN T 0 N j) w) 0 (tkN T 0 N + 1) = fst1 (fun j => homeN T (itN T 0 N j) w) 0 100 := by
    by_cases c : tkN T 0 N < 99
    · have a := (allH_iff T _).mp (tkN_at c) w hw
      rw [fst1_cut (show tkN T 0 N + 1 ≤ 100 by omega)]
      cases e : fst1 (fun j => homeN T (itN T 0 N j) w) 0 100 with
      | none => rfl
      | some k =>
        obtain ⟨-, h2, h3, h4⟩ := fst1_some e
        have : k < tkN T 0 N + 1 := by
          apply Classical.byContradiction
          intro z
          have := h4 (tkN T 0 N) (Nat.zero_le _) (by omega)
          rw [a] at this; cases this
        simp only [this, if_true]
    · rw [show tkN T 0 N + 1 = 100 by omega]
  rw [cut]
  unfold hmN
  cases e : fst1 (fun i => homeN T (itN T 0 N i) w) 0 99 with
  | none =>
    rw [fst1_succ_none (n := 99) e]
    show (if homeN T (itN T 0 N 99) w = true then nI 99 else -1) = _
    cases homeN T (itN T 0 N 99) w <;> rfl
  | some k =>
    rw [fst1_succ_some (n := 99) e]
    obtain ⟨-, h2, h3, h4⟩ := fst1_some e
    show (if homeN T (itN T 0 N k) w = true then nI k else -1) = nI k
    rw [if_pos h3]
theorem q_home {σ μ : Mm} {t : Nat} {T : Tw} {N : Nt} (h : Bo σ μ t T N) (x : Int32) : An (f_X11_home x) (f_X12_home x) σ μ := by
  obtain ⟨hT, hN, ⟨ht, hc, rc⟩, hM⟩ := h
  have hM := hM.q hT (QM.z μ 0)
  have hW := hT.2.2.1
  unfold An f_X11_home f_X12_home
  simp only [bn_e, ht, ck_t hc.1, cl_of _ (s_has hc.1 x).2.2, hc.2.2.2.1, cl_of _ (m_isWalker hM.1 x)]
  by_cases v : ¬ x < 0 ∧ x < nI (tW T)
  · obtain ⟨w, hw, rfl⟩ := in_nat (by omega) v.1 v.2
    obtain ⟨τ, t1, t2⟩ := s_minutesTillHome hc hT ne6 rc hN hw
    obtain ⟨ν, n1, n2, n3⟩ := m_triesQ hM hT hN
    rw [hmN_iff hw] at t1
    simp only [if_pos v, if_neg one0, cl_of _ t1, cl_of _ n1, ck_t (inb_nI (show w < 6 by omega) (by omega)), nI_tn (show w < 2147483648 by omega), (n2.2.2.2.2.1 w hw).2]
    exact ⟨_, _, _, rfl, rfl, tryQ hc.1 t2, (QM.z μ 0).tr n3⟩
  · simp only [if_neg v, if_true]
    exact ⟨_, _, _, rfl, rfl, Off.rf, QM.z μ 0⟩
theorem amax_le (f : Nat → Nat) : ∀ i, amax f i ≤ i
  | 0 => Nat.le_refl _
  | i + 1 => by
    have := amax_le f i
    unfold amax
    split <;> omega
theorem amax_congr {f g : Nat → Nat} : ∀ {n : Nat}, (∀ i, i ≤ n → f i = g i) → amax f n = amax g n
  | 0, _ => rfl
  | n + 1, h => by
    have ih := amax_congr (n := n) (fun i hi => h i (by omega))
    have := amax_le g n
    unfold amax
    rw [ih, h _ (by omega), h _ (Nat.le_refl _)]
theorem q_glow {σ μ : Mm} {t : Nat} {T : Tw} {N : Nt} (h : Bo σ μ t T N) : An f_X11_glow f_X12_glow σ μ := by
  obtain ⟨hT, hN, ⟨ht, hc, rc⟩, hM⟩ := h
  have hM := hM.q hT (QM.z μ 0)
  have hL := hT.2.1
  have hle := tkN_le T 0 N
  obtain ⟨τ, t1, t2⟩ := s_brightest hc hT ne6 rc hN
  obtain ⟨ν, n1, n2, n3⟩ := m_triesQ hM hT hN
  obtain ⟨f, ef⟩ : ∃ f, f = (fun i => cnt (brN (itN T 0 N i)) (tL T)) := ⟨_, rfl⟩
  rw [← ef] at t1
  have fi : ∀ i, cnt (brN (itN T 0 N i)) (tL T) = f i := fun i => by rw [ef]
  have f8 : ∀ i, f i ≤ 8 := fun i => by rw [← fi]; exact Nat.le_trans (cnt_le _ _) hL
  have bt : ∀ j, j ≤ tkN T 0 N → f_X12_bits (gI ν 46 j) ν = some (nI (f j), ν) := fun j hj => by
    have lt : bts (brN (itN T 0 N j)) (tL T) < 256 := Nat.lt_of_lt_of_le (bts_lt _ _) (show 2 ^ tL T ≤ 2 ^ 8 from Nat.pow_le_pow_right (by decide) hL)
    rw [n2.2.2.2.2.2 j hj, m_bits (by omega), pc8_bts _ hL, fi]
  have q := lq2_run (F := F_X12_glow_13 ν (fun x1_50 => some (x1_50, ν))) (fun i => nI (amax f i)) (fun i => nI (i + 1)) (tkN T 0 N) (some (nI (amax f (tkN T 0 N)), ν)) ?_ ?_ (n := 1000000) (by omega)
  · unfold An f_X11_glow f_X12_glow
    simp only [bn_e, ht, cl_of _ t1, cl_of _ n1, jn_e2]
    exact ⟨_, _, _, rfl, q, tryQ hc.1 t2, (QM.z μ 0).tr n3⟩
  · intro rec i hi
    have al := amax_le f i
    have c1 : ¬ gI ν 0 60 < nI (i + 1) := by rw [n2.1]; exact nI_nlt (by omega) (by omega)
    have b1 := f8 (amax f i)
    have b2 := f8 (i + 1)
    simp only [F_X12_glow_13, if_neg c1, ck_t (inb_nI (show i + 1 < 100 by omega) (by omega)), nI_tn (show i + 1 < 2147483648 by omega), cl_of _ (bt (i + 1) (by omega)), ck_t (inb_nI (show amax f i < 100 by omega) (by omega)), nI_tn (show amax f i < 2147483648 by omega), cl_of _ (bt (amax f i) (by omega)), jn_e, nI_1]
    by_cases c : f (amax f i) < f (i + 1)
    · rw [if_pos (nI_lt c (by omega))]; simp only [amax, if_pos c]
    · rw [if_neg (fun z => c ((nI_ltI (by omega) (by omega)).mp z))]; simp only [amax, if_neg c]
  · intro rec
    have c1 : gI ν 0 60 < nI (tkN T 0 N + 1) := by rw [n2.1]; exact nI_lt (by omega) (by omega)
    simp only [F_X12_glow_13, if_pos c1]
theorem q_oil {σ μ : Mm} {t : Nat} {T : Tw} {N : Nt} (h : Bo σ μ t T N) : An f_X11_oil f_X12_oil σ μ := by
  obtain ⟨hT, hN, ⟨ht, hc, rc⟩, hM⟩ := h
  have hM := hM.q hT (QM.z μ 0)
  obtain ⟨τ, t1, t2⟩ := s_oilWithout0 hc hT ne6 rc hN
  obtain ⟨ν, n1, n2, n3⟩ := m_triesQ hM hT hN
  unfold An f_X11_oil f_X12_oil
  simp only [bn_e, ht, cl_of _ t1, cl_of _ n1, n2.2.2.1]
  exact ⟨_, _, _, rfl, rfl, tryQ hc.1 t2, (QM.z μ 0).tr n3⟩
theorem q_blind {σ μ : Mm} {t : Nat} {T : Tw} {N : Nt} (h : Bo σ μ t T N) : An f_X11_blind f_X12_blind σ μ := by
  obtain ⟨hT, hN, ⟨ht, hc, rc⟩, hM⟩ := h
  have hM := hM.q hT (QM.z μ 0)
  have n1' : (1 : Int32).toNatClampNeg = 1 := rfl
  obtain ⟨τ, t1, t2⟩ := s_neverWalked hc hT ne6 rc hN
  obtain ⟨ν, n1, n2, n3⟩ := m_triesQ hM hT hN
  have h21 : gI ν 2 1 = nI (tL T) := (hM.1.q n3).2.1
  unfold An f_X11_blind f_X12_blind
  simp only [bn_e, ht, cl_of _ t1, cl_of _ n1, n2.2.2.2.1, ck_t (show inb 1 8 = true from rfl), n1', h21]
  exact ⟨_, _, _, rfl, rfl, tryQ hc.1 t2, (QM.z μ 0).tr n3⟩
