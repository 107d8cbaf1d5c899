/-- how it is was laid aside, and is laid back -/
theorem laidBack {b : Nat} {S : List Nat} {σ σ1 σ2 σ3 : Mm} (hb : b = 37 ∨ b = 38) (o1 : Off [b] σ σ1) (c1 : ∀ j, j < 41 → gI σ1 b j = gI σ 36 j) (o2 : Off S σ1 σ2) (hS : ∀ a, a ∈ S → a ∈ qM ∧ a ≠ b) (h0 : ∀ j, 0 < j → j < 60 → gI σ2 0 j = gI σ1 0 j) (o3 : Off [36] σ2 σ3) (c3 : ∀ j, j < 41 → gI σ3 36 j = gI σ2 b j) : QM σ σ3 := by
  have bq : b ∈ qM := by rcases hb with rfl | rfl <;> simp [qM]
  refine QM.of (S := qM) ((o1.mono (by simpa using bq)).tr ((o2.mono (fun a ha => (hS a ha).1)).tr (o3.mono (by simp [qM])))) (fun a ha => ha) (fun j h1 h2 => ?_) (fun j hj => ?_)
  · rw [o3.1 0 (by simp), h0 j h1 h2, o1.1 0 (by simp; omega)]
  · rw [c3 j hj, o2.1 b (fun z => (hS b z).2 rfl), c1 j hj]
theorem passM_off {σ τ : Mm} {T : Tw} (h : TM σ T) (o : Off passM σ τ) : TM τ T := h.off o (fun a ha => by simp only [passM, lawM, List.mem_cons, List.not_mem_nil, or_false] at ha; omega)
theorem passM_0 {σ τ : Mm} (o : Off passM σ τ) (j : Nat) : gI τ 0 j = gI σ 0 j := o.1 0 (by simp [passM, lawM]) j
/-- the reference, so many minutes on -/
def Mi (σ : Mm) (T : Tw) (N : Nt) (i : Nat) (b : Mm) : Prop := Off passM σ b ∧ RM b T (itN T 0 N i)
theorem Mi.pass {σ b : Mm} {T : Tw} {N : Nt} {i : Nat} (g : Mi σ T N i b) (h : TM σ T) (hT : TwOk T) (hN : NtOk T N) (e56 : gI σ 0 56 = 0) : ∃ τ, f_X12_passes b = some (nI (cnt (dkN T (itN T 0 N i)) (tW T)), τ) ∧ Mi σ T N (i + 1) τ := by
  obtain ⟨τ, t1, t2, t3, -, -⟩ := m_passes (passM_off h g.1) hT g.2 (itN_ok hT hN 0 i)
  rw [passM_0 g.1, e56] at t2
  exact ⟨τ, t1, g.1.tr t3, t2⟩
theorem cp38 (σ : Mm) : ∃ τ, f_X12_copies 36 0 38 0 σ = some (0, τ) ∧ Off [38] σ τ ∧ ∀ j, j < 41 → gI τ 38 j = gI σ 36 j := by
  obtain ⟨σ1, l1, o1, c1, -⟩ := m_copies (a := 36) (b := 38) (o := 0) (p := 0) σ (by decide) (by decide) (by decide) (by decide) (by decide) (by decide) (by decide)
  simp only [Nat.zero_add] at c1
  exact ⟨σ1, l1, o1, c1⟩
theorem bk38 (σ : Mm) : ∃ τ, f_X12_copies 38 0 36 0 σ = some (0, τ) ∧ Off [36] σ τ ∧ ∀ j, j < 41 → gI τ 36 j = gI σ 38 j := by
  obtain ⟨σ1, l1, o1, c1, -⟩ := m_copies (a := 38) (b := 36) (o := 0) (p := 0) σ (by decide) (by decide) (by decide) (by decide) (by decide) (by decide) (by decide)
  simp only [Nat.zero_add] at c1
  exact ⟨σ1, l1, o1, c1⟩
theorem cp37 (σ : Mm) : ∃ τ, f_X12_copies 36 0 37 0 σ = some (0, τ) ∧ Off [37] σ τ ∧ ∀ j, j < 41 → gI τ 37 j = gI σ 36 j := by
  obtain ⟨σ1, l1, o1, c1, -⟩ := m_copies (a := 36) (b := 37) (o := 0) (p := 0) σ (by decide) (by decide) (by decide) (by decide) (by decide) (by decide) (by decide)
  simp only [Nat.zero_add] at c1
  exact ⟨σ1, l1, o1, c1⟩
theorem bk37 (σ : Mm) : ∃ τ, f_X12_copies 37 0 36 0 σ = some (0, τ) ∧ Off [36] σ τ ∧ ∀ j, j < 41 → gI τ 36 j = gI σ 37 j := by
  obtain ⟨σ1, l1, o1, c1, -⟩ := m_copies (a := 37) (b := 36) (o := 0) (p := 0) σ (by decide) (by decide) (by decide) (by decide) (by decide) (by decide) (by decide)
  simp only [Nat.zero_add] at c1
  exact ⟨σ1, l1, o1, c1⟩
theorem passM_q {b : Nat} (hb : b = 37 ∨ b = 38) : ∀ a, a ∈ passM → a ∈ qM ∧ a ≠ b := by
  intro a ha
  simp only [passM, lawM, List.mem_cons, List.not_mem_nil, or_false] at ha
  simp only [qM, lawM, List.mem_cons, List.not_mem_nil, or_false]
  omega
theorem Mi.first {σ σ1 : Mm} {T : Tw} {N : Nt} {b : Nat} (hb : b = 37 ∨ b = 38) (h : MI σ T N) (hT : TwOk T) (o1 : Off [b] σ σ1) : TM σ1 T ∧ Mi σ1 T N 0 σ1 ∧ gI σ1 0 56 = 0 ∧ gI σ1 0 57 = 63 := by
  refine ⟨h.1.off o1 (fun a ha => by simp only [List.mem_cons, List.not_mem_nil, or_false] at ha; omega), ⟨Off.rf, (h.rm hT).off o1 (by simp; omega) (o1.1 0 (by simp; omega) 57) hT.2.2.1⟩, ?_, ?_⟩
  · rw [o1.1 0 (by simp; omega)]; exact h.2.2.1
  · rw [o1.1 0 (by simp; omega)]; exact h.2.2.2
theorem in_le {x : Int32} {n : Nat} (hn : n < 2147483647) (h1 : ¬ x < 0) (h2 : ¬ nI n < x) : ∃ k, k ≤ n ∧ x = nI k := by
  obtain ⟨j, hj, rfl⟩ := nI_of h1
  have hj : j < 2147483648 := hj
  refine ⟨j, ?_, rfl⟩
  apply Classical.byContradiction
  intro z
  exact h2 (nI_lt (by omega) (by omega))
theorem q_burns {σ μ : Mm} {t : Nat} {T : Tw} {N : Nt} (h : Bo σ μ t T N) (x y : Int32) : An (f_X11_burns x y) (f_X12_burns x y) σ μ := by
  obtain ⟨hT, hN, ⟨ht, hc, rc⟩, hM⟩ := h
  have hM := hM.q hT (QM.z μ 0)
  have hL := hT.2.1
  unfold An f_X11_burns f_X12_burns
  simp only [bn_e, ht, ck_t hc.1, cl_of _ (s_has hc.1 x).2.1, hc.2.2.1, cl_of _ (m_isLane hM.1 x), cl_of _ (m_within y 0 99 _), jn_e2]
  by_cases v : ¬ x < 0 ∧ x < nI (tL T)
  · obtain ⟨k, hk, rfl⟩ := in_nat (by omega) v.1 v.2
    by_cases y1 : y < 0
    · simp only [if_pos v, if_neg one0, if_pos y1, if_neg (show ¬ (¬ y < 0 ∧ ¬ (99 : Int32) < y) from fun z => z.1 y1), if_true]
      exact ⟨_, _, _, rfl, rfl, Off.rf, QM.z μ 0⟩
    · by_cases y2 : (99 : Int32) < y
      · simp only [if_pos v, if_neg one0, if_neg y1, if_pos y2, if_neg (show ¬ (¬ y < 0 ∧ ¬ (99 : Int32) < y) from fun z => z.2 y2), if_true]
        exact ⟨_, _, _, rfl, rfl, Off.rf, QM.z μ 0⟩
      · obtain ⟨M, hM9, rfl⟩ := in_le (n := 99) (by omega) y1 y2
        obtain ⟨τ, t1, t2⟩ := s_litBehind hc hT ne6 rc hN hk hM9
        obtain ⟨σ1, l1, o1, c1⟩ := cp38 (pI μ 0 0 0)
        obtain ⟨a1, a2, a3', a4⟩ := Mi.first (Or.inr rfl) hM hT o1
        simp only [if_pos v, if_neg one0, if_neg y1, if_neg y2, if_pos (show ¬ nI M < 0 ∧ ¬ (99 : Int32) < nI M from ⟨y1, y2⟩), cl_of _ t1, cl_of _ l1]
        obtain ⟨kx, ek⟩ : ∃ k0 : Mm → Option (Int32 × Mm), k0 = (fun (σ_56 : Mm) => ck (inb ((3 : Int32) + nI k) 41) (cl (f_X12_copies 38 (0 : Int32) 36 (0 : Int32) σ_56) (fun _ σ75 => some (gI σ_56 36 ((3 : Int32) + nI k).toNatClampNeg, σ75)))) := ⟨_, rfl⟩
        rw [← ek]
        have q := lq2_inv (F := F_X12_burns_40 (nI M) kx) (fun i => nI i) (fun i b => Mi σ1 T N i b) M kx ?_ ?_ (n := 1000000) (b0 := σ1) a2 (by omega)
        · obtain ⟨b, hb, e⟩ := q
          obtain ⟨σ3, l3, o3, c3⟩ := bk38 b
          refine ⟨_, _, σ3, rfl, e.trans ?_, tryQ hc.1 t2, (QM.z μ 0).tr (laidBack (Or.inr rfl) o1 c1 hb.1 (passM_q (Or.inr rfl)) (fun j _ _ => passM_0 hb.1 j) o3 c3)⟩
          rw [ek]
          show ck (inb ((3 : Int32) + nI k) 41) _ = _
          rw [a3, ck_t (inb_nI (show 3 + k < 41 by omega) (by omega)), cl_of _ l3, nI_tn (show 3 + k < 2147483648 by omega), hb.2.2.2.2.1 k (by omega)]
        · intro rec i b hi hb
          obtain ⟨τ', p1, p2⟩ := hb.pass a1 hT hN a3'
          refine ⟨τ', p2, ?_⟩
          simp only [F_X12_burns_40, if_pos (nI_lt hi (show M < 2147483648 by omega)), cl_of _ p1, nI_1]
        · intro rec b hb
          simp only [F_X12_burns_40, if_neg (nI_nlt (Nat.le_refl M) (show M < 2147483648 by omega))]
  · simp only [if_neg v, if_true]
    exact ⟨_, _, _, rfl, rfl, Off.rf, QM.z μ 0⟩
theorem d99 (p : Nat → Bool) : (if p ((fst1 p 0 99).getD 99) then nI ((fst1 p 0 99).getD 99) else -1) = oI (fst1 p 0 100) := by
  cases e : fst1 p 0 99 with
  | none =>
    rw [fst1_succ_none (n := 99) e]
    show (if p 99 = true then nI 99 else -1) = _
    cases p 99 <;> rfl
  | some k =>
    rw [fst1_succ_some (n := 99) e]
    obtain ⟨-, h2, h3, h4⟩ := fst1_some e
    show (if p k = true then nI k else -1) = nI k
    rw [if_pos h3]
theorem q_meet {σ μ : Mm} {t : Nat} {T : Tw} {N : Nt} (h : Bo σ μ t T N) (x y : Int32) : An (f_X11_meet x y) (f_X12_meet x y) σ μ := by
  obtain ⟨hT, hN, ⟨ht, hc, rc⟩, hM⟩ := h
  have hM := hM.q hT (QM.z μ 0)
  have hW := hT.2.2.1
  have hP := hT.1
  unfold An f_X11_meet f_X12_meet
  simp only [bn_e, ht, ck_t hc.1, cl_of _ (s_has hc.1 x).2.2, cl_of _ (s_has hc.1 y).2.2, hc.2.2.2.1, cl_of _ (m_isWalker hM.1 x), cl_of _ (m_isWalker hM.1 y), jn_e2]
  by_cases e : x = y
  · simp only [if_pos e]
    refine ⟨_, _, pI μ 0 0 0, rfl, ?_, Off.rf, QM.z μ 0⟩
    repeat' split
    all_goals rfl
  by_cases v : ¬ x < 0 ∧ x < nI (tW T)
  · by_cases u : ¬ y < 0 ∧ y < nI (tW T)
    · obtain ⟨w, hw, rfl⟩ := in_nat (by omega) v.1 v.2
      obtain ⟨v', hv', rfl⟩ := in_nat (by omega) u.1 u.2
      obtain ⟨τ, t1, t2⟩ := s_minutesTillMet hc hT ne6 rc hN hw hv'
      obtain ⟨σ1, l1, o1, c1⟩ := cp38 (pI μ 0 0 0)
      obtain ⟨a1, a2, a3', a4⟩ := Mi.first (Or.inr rfl) hM hT o1
      obtain ⟨p, ep⟩ : ∃ p : Nat → Bool, p = (fun i => togN T (itN T 0 N i) w v') := ⟨_, rfl⟩
      have t1 : f_X0_minutesTillMet t 6 (nI w) (nI v') σ = some (oI (fst1 p 0 100), τ) := by
        rw [t1, ← d99 p, ep]; rfl
      simp only [if_neg e, if_pos v, if_pos u, if_neg one0, cl_of _ t1, cl_of _ l1]
      obtain ⟨kx, ek⟩ : ∃ k0 : Int32 → Mm → Option (Int32 × Mm), k0 = (fun (x3_108 : Int32) (σ_108 : Mm) => cl (f_X12_copies 38 (0 : Int32) 36 (0 : Int32) σ_108) (fun _ σ118 => some (x3_108, σ118))) := ⟨_, rfl⟩
      rw [← ek]
      obtain ⟨M, eM⟩ : ∃ M, M = (match fst1 p 0 100 with | some k => k + 1 | none => 100) := ⟨_, rfl⟩
      have hM1 : M ≤ 100 := by
        rw [eM]
        cases e : fst1 p 0 100 with
        | none => exact Nat.le_refl _
        | some k => have := (fst1_some e).2.1; show k + 1 ≤ 100; omega
      have hM2 : fst1 p 0 M = fst1 p 0 100 := by
        rw [fst1_cut hM1, eM]
        cases e : fst1 p 0 100 with
        | none => rfl
        | some k => simp
      have hM3 : ∀ i, i < M → fst1 p 0 i = none := by
        intro i hi
        rw [fst1_cut (show i ≤ 100 by omega)]
        rw [eM] at hi
        cases e : fst1 p 0 100 with
        | none => rfl
        | some k => rw [e] at hi; have hi : i < k + 1 := hi; simp only []; rw [if_neg (by omega)]
      have hM4 : M < 100 ∨ M = 100 := by omega
      have q := lq3_inv (F := F_X12_meet_46 (nI w) (nI v') kx) (fun i => oI (fst1 p 0 i)) (fun i => nI i) (fun i b => Mi σ1 T N i b) M (fun b => kx (oI (fst1 p 0 100)) b) ?_ ?_ (n := 1000000) (b0 := σ1) a2 (by omega)
      · obtain ⟨b, hb, e1⟩ := q
        obtain ⟨σ3, l3, o3, c3⟩ := bk38 b
        refine ⟨_, _, σ3, rfl, e1.trans ?_, tryQ hc.1 t2, (QM.z μ 0).tr (laidBack (Or.inr rfl) o1 c1 hb.1 (passM_q (Or.inr rfl)) (fun j _ _ => passM_0 hb.1 j) o3 c3)⟩
        rw [ek]
        show cl (f_X12_copies 38 (0 : Int32) 36 (0 : Int32) b) _ = _
        rw [cl_of _ l3]
      · intro rec i b hi hb
        obtain ⟨τ', p1, p2⟩ := hb.pass a1 hT hN a3'
        refine ⟨τ', p2, ?_⟩
        have ok := itN_ok hT hN 0 i
        have hTb := passM_off a1 hb.1
        have rp := hb.2.to_RP hW (by rw [passM_0 hb.1]; exact a4)
        have c1 : ¬ (99 : Int32) < nI i := fun z => by have := (nI_ltI (a := 99) (b := i) (by omega) (by omega)).mp z; omega
        have m1 : (-1 : Int32) < 0 := by decide
        have o1 := m_isOut hTb hT ok hw hb.2.1 (hb.2.2.2.2.2 w hw)
        have o2 := m_isOut hTb hT ok hv' hb.2.1 (hb.2.2.2.2.2 v' hv')
        have g1 : gI b 36 (11 + w) = nI (atN T (itN T 0 N i) w) := by have := (rp.2.2.2.2 w hw).1; rwa [Nat.zero_add] at this
        have g2 : gI b 36 (11 + v') = nI (atN T (itN T 0 N i) v') := by have := (rp.2.2.2.2 v' hv').1; rwa [Nat.zero_add] at this
        have l1 := atN_lt hT ok hw
        have l2 := atN_lt hT ok hv'
        have pe : p i = (outN T (itN T 0 N i) w && outN T (itN T 0 N i) v' && decide (atN T (itN T 0 N i) w = atN T (itN T 0 N i) v')) := by rw [ep]; rfl
        have nx : fst1 p 0 (i + 1) = if p i then some i else none := fst1_succ_none (hM3 i hi)
        rw [nx, hM3 i hi]
        simp only [F_X12_meet_46, if_neg c1, oI_none, if_pos m1, cl_of _ o1, cl_of _ o2, a11, bn_e, ck_t (inb_nI (show 11 + w < 41 by omega) (by omega)), ck_t (inb_nI (show 11 + v' < 41 by omega) (by omega)), nI_tn (show 11 + w < 2147483648 by omega), nI_tn (show 11 + v' < 2147483648 by omega), g1, g2, jn_e, cl_of _ p1, nI_1, pe]
        cases outN T (itN T 0 N i) w
        · simp [oI_none]
        · cases outN T (itN T 0 N i) v'
          · simp [oI_none]
          · by_cases z : atN T (itN T 0 N i) w = atN T (itN T 0 N i) v'
            · simp [z, oI_some]
            · have z2 : ¬ nI (atN T (itN T 0 N i) w) = nI (atN T (itN T 0 N i) v') := fun y => z ((nI_eq (by omega) (by omega)).mp y)
              simp [z, z2, oI_none]
      · intro rec b hb
        rw [hM2]
        cases e : fst1 p 0 100 with
        | none =>
          have : M = 100 := by rw [eM, e]
          subst this
          have c1 : (99 : Int32) < nI 100 := by decide
          simp only [F_X12_meet_46, if_pos c1]
        | some k =>
          have kl := (fst1_some e).2.1
          have c2 : ¬ oI (some k) < 0 := nI_pos (by omega)
          simp only [F_X12_meet_46, if_neg c2]
          split <;> rfl
    · simp only [if_neg e, if_pos v, if_neg one0, if_neg u, if_true]
      exact ⟨_, _, _, rfl, rfl, Off.rf, QM.z μ 0⟩
  · simp only [if_neg e, if_neg v, if_true]
    exact ⟨_, _, _, rfl, rfl, Off.rf, QM.z μ 0⟩
theorem q_longer {σ μ : Mm} {t : Nat} {T : Tw} {N : Nt} (h : Bo σ μ t T N) (x : Int32) : An (f_X11_longer x) (f_X12_longer x) σ μ := by
  obtain ⟨hT, hN, ⟨ht, hc, rc⟩, hM⟩ := h
  have hM := hM.q hT (QM.z μ 0)
  have hW := hT.2.2.1
  unfold An f_X11_longer f_X12_longer
  simp only [bn_e, ht, cl_of _ (m_within x 0 9 _), jn_e2]
  by_cases x1 : x < 0
  · simp only [if_pos x1, if_neg (show ¬ (¬ x < 0 ∧ ¬ (9 : Int32) < x) from fun z => z.1 x1), if_true]
    exact ⟨_, _, _, rfl, rfl, Off.rf, QM.z μ 0⟩
  by_cases x2 : (9 : Int32) < x
  · simp only [if_neg x1, if_pos x2, if_neg (show ¬ (¬ x < 0 ∧ ¬ (9 : Int32) < x) from fun z => z.2 x2), if_true]
    exact ⟨_, _, _, rfl, rfl, Off.rf, QM.z μ 0⟩
  obtain ⟨m, hm9, rfl⟩ := in_le (n := 9) (by omega) x1 x2
  obtain ⟨τ, t1, t2⟩ := s_darkTimesIfLonger hc hT ne6 rc hN (lg := nI m) ⟨m, hm9, rfl⟩
  obtain ⟨μ1, e1⟩ : ∃ z, z = pI (pI μ 0 0 0) 0 56 (nI m) := ⟨_, rfl⟩
  have oo : Off [0] (pI μ 0 0 0) μ1 := by rw [e1]; exact Off.pI (by simp)
  have h1 : TM μ1 T := hM.1.off oo (fun a ha => by simp only [List.mem_cons, List.not_mem_nil, or_false] at ha; omega)
  have r1 : RM μ1 T N := (hM.rm hT).congr36 hW (by rw [e1, gI_pI_n (Or.inr (by decide))]) (fun j _ => oo.1 36 (by simp) j)
  obtain ⟨ν, n1, n2, n3, n4, n5⟩ := m_tries h1 hT r1 hN (show gI μ1 0 56 = nI m by rw [e1, gI_pI_s])
  simp only [if_neg x1, if_neg x2, if_pos (show ¬ nI m < 0 ∧ ¬ (9 : Int32) < nI m from ⟨x1, x2⟩), if_neg one0, cl_of _ t1, ← e1, cl_of _ n1, gI_pI_n (show (0 : Nat) ≠ 0 ∨ (61 : Nat) ≠ 56 from Or.inr (by decide)), n2.2.1]
  have qq := trM_Q n3 n4 n5
  refine ⟨_, _, _, rfl, rfl, tryQ hc.1 t2, (QM.z μ 0).tr ⟨fun a ha k => ?_, fun j j1 j2 => ?_, fun j hj => ?_, fun a k ha => ?_, fun a k => ?_⟩⟩
  · have a0 : a ≠ 0 := fun z => ha (by rw [z]; simp [qM])
    rw [gI_pI_n (Or.inl a0), qq.1 a ha k, e1, gI_pI_n (Or.inl a0)]
  · by_cases z : j = 56
    · subst z; rw [gI_pI_s]; exact hM.2.2.1.symm
    · rw [gI_pI_n (Or.inr z), qq.2.1 j j1 j2, e1, gI_pI_n (Or.inr z)]
  · rw [gI_pI_n (Or.inl (by decide)), qq.2.2.1 j hj, e1, gI_pI_n (Or.inl (by decide))]
  · rw [gL_pI, qq.2.2.2.1 a k ha, e1, gL_pI]
  · rw [gR_pI, qq.2.2.2.2 a k, e1, gR_pI]
