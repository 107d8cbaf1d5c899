theorem RM.congr36 {σ τ : Mm} {T : Tw} {N : Nt} (r : RM σ T N) (hW : tW T ≤ 6) (e0 : gI τ 0 57 = gI σ 0 57) (e : ∀ j, j < 41 → gI τ 36 j = gI σ 36 j) : RM τ T N :=
  ⟨by rw [e 0 (by omega)]; exact r.1, by rw [e 1 (by omega)]; exact r.2.1, by rw [e 2 (by omega)]; exact r.2.2.1, fun k hk => by rw [e _ (by omega)]; exact r.2.2.2.1 k hk, fun w hw => (r.2.2.2.2 w hw).congr e0 (e _ (by omega)) (e _ (by omega)) (e _ (by omega)) (e _ (by omega)) (e _ (by omega))⟩
theorem m_sends {σ : Mm} {T : Tw} {N : Nt} (h : TM σ T) (hT : TwOk T) (r : RM σ T N) (hN : NtOk T N) (h56 : gI σ 0 56 = 0) {k : Nat} (hk : k < tL T) :
    ∃ τ, f_X12_sends (nI k) σ = some (0, τ) ∧ RM τ T (sendN T N k) ∧ Off (36 :: lawM) σ τ := by
  have hL := hT.2.1
  have hW := hT.2.2.1
  have n1 : (1 : Int32).toNatClampNeg = 1 := rfl
  have n3 : (3 : Int32).toNatClampNeg = 3 := rfl
  have hl : gI σ 36 (3 + k) = nI (nL N k) := r.2.2.2.1 k (by omega)
  have l30 := hN.1 k
  obtain ⟨υ, u1, u2⟩ := h.2.2.2.2.2.2.2 σ (fun _ _ _ => rfl) k hk (nI (nL N k)) 1
  have hE := hT.2.2.2.2.2.1 (tT T k + 0) (nI (nL N k)) 1 (nT N)
  rw [h56, r.1, imx_nI l30 hE] at u1
  have uu : ∀ a, a ∉ lawM → ∀ j, gI υ a j = gI σ a j := fun a ha j => u2.1 a ha j
  unfold f_X12_sends
  simp only [bn_e, a3, ck_t (inb_nI (show 3 + k < 41 by omega) (by omega)), nI_tn (show 3 + k < 2147483648 by omega), hl, cl_of _ u1, n1, n3, ck_t (show inb 1 41 = true from rfl), ck_t (show inb 3 8 = true from rfl)]
  have y : ∀ j, j ≠ 3 + k → j ≠ 1 → ∀ x1 x2, gI (pI (pI υ 36 (3 + k) x1) 36 1 x2) 36 j = gI σ 36 j := fun j z1 z2 x1 x2 => by rw [gI_pI_n (Or.inr z2), gI_pI_n (Or.inr z1), uu 36 (by simp [lawM])]
  refine ⟨_, rfl, ⟨?_, ?_, ?_, fun j hj => ?_, fun w hw => ?_⟩, (u2.mono (fun a ha => List.mem_cons_of_mem _ ha)).tr ((Off.pI (by simp)).tr (Off.pI (by simp)))⟩
  · rw [y 0 (by omega) (by omega)]; exact r.1
  · rw [gI_pI_s, gI_pI_n (Or.inr (by omega)), uu 36 (by simp [lawM]), gI_pI_n (Or.inl (by decide)), uu 2 (by simp [lawM]), r.2.1, h.2.2.2.1]; rfl
  · rw [y 2 (by omega) (by omega)]; exact r.2.2.1
  · show _ = nI (updF (nL N) k _ j)
    by_cases z : j = k
    · subst z; rw [updF_s, gI_pI_n (Or.inr (by omega)), gI_pI_s]
    · rw [updF_n z, y _ (by omega) (by omega)]; exact r.2.2.2.1 j hj
  · exact (r.2.2.2.2 w hw).congr (by rw [gI_pI_n (Or.inl (by decide)), gI_pI_n (Or.inl (by decide)), uu 0 (by simp [lawM])]) (y _ (by omega) (by omega) _ _) (y _ (by omega) (by omega) _ _) (y _ (by omega) (by omega) _ _) (y _ (by omega) (by omega) _ _) (y _ (by omega) (by omega) _ _)
theorem m_waitsMore {σ : Mm} {T : Tw} {N : Nt} (hT : TwOk T) (r : RM σ T N) {w : Nat} (hw : w < tW T) (hk : ¬ ((gI σ 0 57) >>> (nI w &&& 31)) &&& 1 = 0) :
    ∃ τ, f_X12_waitsMore (nI w) σ = some (0, τ) ∧ RM τ T (waitN N w) ∧ Off [36] σ τ := by
  have hW := hT.2.2.1
  have n0 : (0 : Int32).toNatClampNeg = 0 := rfl
  have hS : gI σ 36 (23 + w) = nS N w := by
    rcases r.2.2.2.2 w hw with q | q
    · exact absurd q.1 hk
    · exact q.2.2.2.1
  unfold f_X12_waitsMore
  simp only [bn_e, a23, ck_t (inb_nI (show 23 + w < 41 by omega) (by omega)), nI_tn (show 23 + w < 2147483648 by omega), hS, n0, ck_t (show inb 0 41 = true from rfl), r.1]
  have y : ∀ j, j ≠ 23 + w → ∀ x, gI (pI σ 36 (23 + w) x) 36 j = gI σ 36 j := fun j z x => by rw [gI_pI_n (Or.inr z)]
  refine ⟨_, rfl, ⟨?_, ?_, ?_, fun j hj => ?_, fun v hv => ?_⟩, Off.pI (by simp)⟩
  · rw [y 0 (by omega)]; exact r.1
  · rw [y 1 (by omega)]; exact r.2.1
  · rw [y 2 (by omega)]; exact r.2.2.1
  · rw [y _ (by omega)]; exact r.2.2.2.1 j hj
  · rcases r.2.2.2.2 v hv with q | q
    · exact Or.inl q
    · refine Or.inr ⟨q.1, ?_, ?_, ?_, ?_, ?_⟩
      · rw [y _ (by omega)]; exact q.2.1
      · rw [y _ (by omega)]; exact q.2.2.1
      · show _ = updF (nS N) w _ v
        by_cases z : v = w
        · subst z; rw [updF_s, gI_pI_s]
        · rw [updF_n z, y _ (by omega)]; exact q.2.2.2.1
      · rw [y _ (by omega)]; exact q.2.2.2.2.1
      · rw [y _ (by omega)]; exact q.2.2.2.2.2
theorem RM.turn {σ : Mm} {T : Tw} {N : Nt} (hT : TwOk T) (r : RM σ T N) {w : Nat} (hw : w < tW T) (hk : ¬ ((gI σ 0 57) >>> (nI w &&& 31)) &&& 1 = 0) (h0 : nE N w = 0) : RM (pI σ 36 (17 + w) (nI (tS T w))) T (turnN T N w) := by
  have hW := hT.2.2.1
  have y : ∀ j, j ≠ 17 + w → ∀ x, gI (pI σ 36 (17 + w) x) 36 j = gI σ 36 j := fun j z x => by rw [gI_pI_n (Or.inr z)]
  refine ⟨?_, ?_, ?_, fun j hj => ?_, fun v hv => ?_⟩
  · rw [y 0 (by omega)]; exact r.1
  · rw [y 1 (by omega)]; exact r.2.1
  · rw [y 2 (by omega)]; exact r.2.2.1
  · rw [y _ (by omega)]; exact r.2.2.2.1 j hj
  · by_cases z : v = w
    · subst z
      rcases r.2.2.2.2 v hv with q | q
      · exact absurd q.1 hk
      · refine Or.inr ⟨q.1, ?_, ?_, ?_, ?_, fun a => ?_⟩
        · rw [y _ (by omega), q.2.1, atN_0 h0, atN_0 (show nE (turnN T N v) v = 0 from h0)]; rfl
        · rw [gI_pI_s]; show _ = nI (updF (nG N) v (tS T v) v); rw [updF_s]
        · rw [y _ (by omega)]; exact q.2.2.2.1
        · rw [y _ (by omega)]; exact q.2.2.2.2.1
        · exact absurd a (by show ¬ 0 < nE N v; omega)
    · have eG : nG (turnN T N w) v = nG N v := updF_n z
      have q : WM σ T (turnN T N w) v := by
        have q := r.2.2.2.2 v hv
        unfold WM atN at q ⊢
        rw [eG]
        exact q
      exact q.congr (by rw [gI_pI_n (Or.inl (by decide))]) (y _ (by omega) _) (y _ (by omega) _) (y _ (by omega) _) (y _ (by omega) _) (y _ (by omega) _)
theorem m_canTurn {σ : Mm} {T : Tw} {N : Nt} (h : TM σ T) (hT : TwOk T) (r : RM σ T N) (hN : NtOk T N) {w : Nat} (hw : w < tW T) : f_X12_canTurn (nI w) σ = some ((if tuN T N w then 1 else 0), σ) := by
  have hW := hT.2.2.1
  unfold f_X12_canTurn tuN
  simp only [ck_t (inb_nI (show w < 12 by omega) (by omega)), nI_tn (show w < 2147483648 by omega), jn_e, (h.2.2.2.2.2.1 w hw).1, cl_of _ (m_isOut h hT hN hw r.1 (r.2.2.2.2 w hw))]
  cases outN T N w
  · simp
  · by_cases k3 : tK T w = 3
    · simp [k3]
    · simp [k3]
theorem m_homes {σ : Mm} {T : Tw} {N : Nt} (h : TM σ T) (hT : TwOk T) (r : RM σ T N) (hN : NtOk T N) : f_X12_homes σ = some (nI (bts (homeN T N) (tW T)), σ) := by
  have hW := hT.2.2.1
  have n2 : (2 : Int32).toNatClampNeg = 2 := rfl
  unfold f_X12_homes
  rw [jn_e2]
  refine lq2_run (F := F_X12_homes_4 σ (fun x => some (x, σ))) (fun i => nI (bts (homeN T N) i)) (fun i => nI i) (tW T) _ ?_ ?_ (n := 1000000) (by omega)
  · intro rec i hi
    have h1 : nI i < gI σ 2 2 := by rw [h.2.2.1]; exact nI_lt hi (by omega)
    simp only [F_X12_homes_4, ck_t (show inb 2 8 = true from rfl), n2, if_pos h1, cl_of _ (m_isHome h hT hN hi (r.2.2.2.2 i hi)), jn_e, bn_e, nI_1, bts]
    cases e : homeN T N i
    · simp
    · simp only [if_true, show ¬ (1 : Int32) = 0 by decide, if_false, or_bit (bts_lt _ i) (show i < 31 by omega), Bool.toNat_true, Nat.mul_one]
  · intro rec
    have h1 : ¬ nI (tW T) < gI σ 2 2 := by rw [h.2.2.1]; exact nI_nlt (Nat.le_refl _) (by omega)
    simp only [F_X12_homes_4, ck_t (show inb 2 8 = true from rfl), n2, if_neg h1]
theorem m_burning {σ : Mm} {T : Tw} {N : Nt} (h : TM σ T) (hT : TwOk T) (r : RM σ T N) (hN : NtOk T N) : f_X12_burning σ = some (nI (bts (brN N) (tL T)), σ) := by
  have hL := hT.2.1
  have n1 : (1 : Int32).toNatClampNeg = 1 := rfl
  unfold f_X12_burning
  rw [jn_e2]
  refine lq2_run (F := F_X12_burning_4 σ (fun x => some (x, σ))) (fun i => nI (bts (brN N) i)) (fun i => nI i) (tL T) _ ?_ ?_ (n := 1000000) (by omega)
  · intro rec i hi
    have hb := hN.1 i
    have h1 : nI i < gI σ 2 1 := by rw [h.2.1]; exact nI_lt hi (by omega)
    have h3 := r.2.2.2.1 i (by omega)
    simp only [F_X12_burning_4, ck_t (show inb 1 8 = true from rfl), n1, if_pos h1, a3, ck_t (inb_nI (show 3 + i < 41 by omega) (by omega)), nI_tn (show 3 + i < 2147483648 by omega), h3, jn_e, bn_e, nI_1, bts, brN]
    by_cases e : 0 < nL N i
    · rw [if_pos ((nI_gt0 (by omega)).mpr e), or_bit (bts_lt _ i) (show i < 31 by omega), decide_eq_true e, Bool.toNat_true, Nat.mul_one]
    · rw [if_neg (fun z => e ((nI_gt0 (by omega)).mp z)), decide_eq_false e]
      simp
  · intro rec
    have h1 : ¬ nI (tL T) < gI σ 2 1 := by rw [h.2.1]; exact nI_nlt (Nat.le_refl _) (by omega)
    simp only [F_X12_burning_4, ck_t (show inb 1 8 = true from rfl), n1, if_neg h1]
theorem bts_all : ∀ n, bts (fun _ => true) n = 2 ^ n - 1
  | 0 => rfl
  | n + 1 => by
    have := bts_all n
    have h2 : 0 < 2 ^ n := Nat.two_pow_pos n
    simp only [bts, Bool.toNat_true, Nat.mul_one]
    rw [this, Nat.pow_succ]
    omega
theorem bts_full {p : Nat → Bool} {n : Nat} : bts p n = 2 ^ n - 1 ↔ ∀ i, i < n → p i = true := by
  constructor
  · intro h i hi
    rw [← bts_all n] at h
    rw [← bts_bit p hi, h, bts_bit _ hi]
  · intro h
    rw [← bts_all n]
    exact bts_congr h
theorem allH_iff (T : Tw) (N : Nt) : allH T N = true ↔ ∀ w, w < tW T → homeN T N w = true := by
  unfold allH
  constructor
  · intro h w hw
    have := fst1_none (Option.isNone_iff_eq_none.mp h) w (Nat.zero_le _) (by omega)
    simpa using this
  · intro h
    cases e : fst1 (fun w => !homeN T N w) 0 (tW T) with
    | none => rfl
    | some k =>
      obtain ⟨-, k2, k3, -⟩ := fst1_some e
      rw [h k (by omega)] at k3
      exact absurd k3 (by decide)
theorem full_I : ∀ n, n ≤ 6 → ((1 : Int32) <<< (nI n &&& 31)) - 1 = nI (2 ^ n - 1) := by decide
theorem m_areAllHome {σ : Mm} {T : Tw} {N : Nt} (h : TM σ T) (hT : TwOk T) (r : RM σ T N) (hN : NtOk T N) : f_X12_areAllHome σ = some ((if allH T N then 1 else 0), σ) := by
  have hW := hT.2.2.1
  have n2 : (2 : Int32).toNatClampNeg = 2 := rfl
  unfold f_X12_areAllHome
  rw [cl_of _ (m_homes h hT r hN), ck_t (show inb 2 8 = true from rfl), n2, h.2.2.1, full_I _ hW]
  have l1 := bts_lt (homeN T N) (tW T)
  have l2 : 2 ^ tW T ≤ 2 ^ 6 := Nat.pow_le_pow_right (by decide) hW
  have e : nI (bts (homeN T N) (tW T)) = nI (2 ^ tW T - 1) ↔ allH T N = true := by
    rw [nI_eq (by omega) (by omega), bts_full, allH_iff]
  by_cases c : allH T N = true
  · rw [if_pos (e.mpr c), if_pos c]
  · rw [if_neg (fun z => c (e.mp z)), if_neg c]
