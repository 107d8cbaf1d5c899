theorem andn {a b c : Nat} (h : ∀ i, c.testBit i = (a.testBit i && !b.testBit i)) : nI a &&& (nI b ^^^ (-1)) = nI c := by
  apply Int32.toBitVec_inj.mp
  show BitVec.ofNat 32 a &&& (BitVec.ofNat 32 b ^^^ BitVec.allOnes 32) = BitVec.ofNat 32 c
  apply BitVec.eq_of_getLsbD_eq
  intro i hi
  rw [BitVec.getLsbD_and, BitVec.getLsbD_xor, BitVec.getLsbD_allOnes, BitVec.getLsbD_ofNat, BitVec.getLsbD_ofNat, BitVec.getLsbD_ofNat, h i]
  simp [hi]
theorem andnB {p q : Nat → Bool} {n : Nat} : nI (bts p n) &&& (nI (bts q n) ^^^ (-1)) = nI (bts (fun k => p k && !q k) n) := by
  refine andn (fun i => ?_)
  by_cases hi : i < n
  · rw [bts_bit _ hi, bts_bit _ hi, bts_bit _ hi]
  · rw [bts_high _ (by omega), bts_high _ (by omega)]; rfl
theorem andn1 {p q : Nat → Bool} {n k : Nat} (hk : k < 31) (h : ∀ j, j < n → q j = (p j && !decide (k = j))) : nI (bts p n) &&& (((1 : Int32) <<< (nI k &&& 31)) ^^^ (-1)) = nI (bts q n) := by
  rw [one_shl hk]
  refine andn (fun i => ?_)
  rw [Nat.testBit_two_pow]
  by_cases hi : i < n
  · rw [bts_bit _ hi, bts_bit _ hi, h i hi]
  · rw [bts_high _ (by omega), bts_high _ (by omega)]; rfl
theorem ftI_s (T : Tw) (N : Nt) (i k : Nat) : ftI T N (i + 1) k = ftI T N i k + (lnA T N i == some k).toNat := rfl
theorem lnA_lt {T : Tw} {N : Nt} (hT : TwOk T) (hN : NtOk T N) {w k : Nat} (hw : w < tW T) (h : lnA T N w = some k) : k < tL T := by
  obtain ⟨c1, c2, -⟩ := hN.2 w hw
  exact (hT.2.2.2.2.1 _ _ k c1 c2 (lnA_F h)).1
theorem q_alarm {σ μ : Mm} {t : Nat} {T : Tw} {N : Nt} (h : Bo σ μ t T N) : An f_X11_alarm f_X12_alarm σ μ := by
  obtain ⟨hT, hN, ⟨ht, hc, rc⟩, hM⟩ := h
  have hM := hM.q hT (QM.z μ 0)
  have hW := hT.2.2.1
  have hL := hT.2.1
  have n2 : (2 : Int32).toNatClampNeg = 2 := rfl
  have rm := hM.rm hT
  have z0 : (0 : Int32) = nI (wsI T N 0) := by
    have : wsI T N 0 = 0 := (bts_congr (fun i _ => by simp [ftI, cnt])).trans (bts_none (tL T))
    rw [this]; rfl
  have stp : ∀ {i : Nat}, ∀ j, j < tL T → decide (0 < ftI T N (i + 1) j) = (decide (0 < ftI T N i j) || decide (lnA T N i = some j)) := by
    intro i j _
    rw [ftI_s]
    by_cases e : lnA T N i = some j
    · simp [e]
    · have e2 : (lnA T N i == some j) = false := by simpa using e
      rw [e2]
      simp [e]
  have q1 := lq2_run (F := F_X11_alarm_4 σ (fun x1_45 => bn (gR σ 0 7) (fun t_50 => cl (f_X4_litBits 6 t_50 σ) (fun r53 _ => some ((r53 &&& (x1_45 ^^^ (-1 : Int32))), σ))))) (fun i => nI (wsI T N i)) (fun i => nI i) (tW T) (some (nI (bts (fun k => brN N k && !decide (0 < ftI T N (tW T) k)) (tL T)), σ)) ?_ ?_ (n := 1000000) (by omega)
  · have q2 := lq2_run (F := F_X12_alarm_12 (pI μ 0 0 0) (fun x1_48 => some (x1_48, pI μ 0 0 0))) (fun i => nI (bts (fun k => brN N k && !decide (0 < ftI T N i k)) (tL T))) (fun i => nI i) (tW T) (some (nI (bts (fun k => brN N k && !decide (0 < ftI T N (tW T) k)) (tL T)), pI μ 0 0 0)) ?_ ?_ (n := 1000000) (by omega)
    · unfold An f_X11_alarm f_X12_alarm
      rw [← z0] at q1
      have e0 : bts (fun k => brN N k && !decide (0 < ftI T N 0 k)) (tL T) = bts (brN N) (tL T) := bts_congr (fun i _ => by simp [ftI, cnt])
      rw [e0] at q2
      simp only [bn_e, jn_e2, cl_of _ (m_burning hM.1 hT rm hN)]
      simp only [bn_e] at q1
      exact ⟨_, _, _, q1, q2, Off.rf, QM.z μ 0⟩
    · intro rec i hi
      have c1 : nI i < gI (pI μ 0 0 0) 2 2 := by rw [hM.1.2.2.1]; exact nI_lt hi (by omega)
      have ho := m_isOut hM.1 hT hN hi rm.1 (rm.2.2.2.2 i hi)
      simp only [F_X12_alarm_12, ck_t (show inb 2 8 = true from rfl), n2, if_pos c1, cl_of _ ho, jn_e, nI_1]
      unfold outN
      cases e : lnA T N i with
      | none =>
        have : bts (fun k => brN N k && !decide (0 < ftI T N (i + 1) k)) (tL T) = bts (fun k => brN N k && !decide (0 < ftI T N i k)) (tL T) := bts_congr (fun j hj => by rw [stp j hj, e]; simp)
        rw [this]; rfl
      | some k =>
        have hk := lnA_lt hT hN hi e
        have hl := m_lanesAhead hM.1 hT hN hi (rm.2.2.2.2 i hi) (lnA_F e)
        rw [if_neg (show ¬ (if (some k).isSome = true then (1 : Int32) else 0) = 0 by simp), cl_of _ hl, bn_e, andn1 (q := fun k => brN N k && !decide (0 < ftI T N (i + 1) k)) (by omega)]
        intro j hj
        rw [stp j hj, e]
        by_cases z : k = j
        · simp [z]
        · simp [z]
    · intro rec
      have c1 : ¬ nI (tW T) < gI (pI μ 0 0 0) 2 2 := by rw [hM.1.2.2.1]; exact nI_nlt (Nat.le_refl _) (by omega)
      simp only [F_X12_alarm_12, ck_t (show inb 2 8 = true from rfl), n2, if_neg c1]
  · intro rec i hi
    have c1 : nI i < gI σ t 2 := by rw [hc.2.2.2.1]; exact nI_lt hi (by omega)
    simp only [F_X11_alarm_4, bn_e, ht, ck_t hc.1, if_pos c1, cl_of _ (s_laneAhead hc hT rc hN hi), jn_e, nI_1]
    cases e : lnA T N i with
    | none =>
      have : wsI T N (i + 1) = wsI T N i := bts_congr (fun j hj => by rw [stp j hj, e]; simp)
      rw [this]; rfl
    | some k =>
      have hk := lnA_lt hT hN hi e
      rw [oI_some, if_neg (nI_ne k (by omega))]
      unfold wsI
      rw [or_set (q := fun k => decide (0 < ftI T N (i + 1) k)) hL hk]
      intro j hj
      rw [stp j hj, e]
      congr 1
      simp [eq_comm]
  · intro rec
    have c1 : ¬ nI (tW T) < gI σ t 2 := by rw [hc.2.2.2.1]; exact nI_nlt (Nat.le_refl _) (by omega)
    simp only [F_X11_alarm_4, bn_e, ht, ck_t hc.1, if_neg c1, cl_of _ (s_litBits hc hT rc hN)]
    unfold wsI
    rw [andnB]
theorem q_next {σ μ : Mm} {t : Nat} {T : Tw} {N : Nt} (h : Bo σ μ t T N) (x : Int32) : An (f_X11_next x) (f_X12_next x) σ μ := by
  obtain ⟨hT, hN, ⟨ht, hc, rc⟩, hM⟩ := h
  have hM := hM.q hT (QM.z μ 0)
  have hW := hT.2.2.1
  have rm := hM.rm hT
  unfold An f_X11_next f_X12_next
  simp only [bn_e, ht, ck_t hc.1, cl_of _ (s_has hc.1 x).2.2, hc.2.2.2.1, cl_of _ (m_isWalker hM.1 x), jn_e2]
  by_cases v : ¬ x < 0 ∧ x < nI (tW T)
  · obtain ⟨w, hw, rfl⟩ := in_nat (by omega) v.1 v.2
    have ho := m_isOut hM.1 hT hN hw rm.1 (rm.2.2.2.2 w hw)
    simp only [if_pos v, if_neg one0, cl_of _ (s_laneAhead hc hT rc hN hw), cl_of _ ho]
    unfold outN
    cases e : lnA T N w with
    | none => exact ⟨_, _, _, rfl, rfl, Off.rf, QM.z μ 0⟩
    | some k =>
      have hl := m_lanesAhead hM.1 hT hN hw (rm.2.2.2.2 w hw) (lnA_F e)
      refine ⟨nI k, _, pI μ 0 0 0, rfl, ?_, Off.rf, QM.z μ 0⟩
      rw [if_neg (show ¬ (if (some k).isSome = true then (1 : Int32) else 0) = 0 by simp), cl_of _ hl]
  · simp only [if_neg v, if_true]
    exact ⟨_, _, _, rfl, rfl, Off.rf, QM.z μ 0⟩
theorem q_lane {σ μ : Mm} {t : Nat} {T : Tw} {N : Nt} (h : Bo σ μ t T N) (x y : Int32) : An (f_X11_lane x y) (f_X12_lane x y) σ μ := by
  obtain ⟨hT, hN, ⟨ht, hc, rc⟩, hM⟩ := h
  have hM := hM.q hT (QM.z μ 0)
  have hL := hT.2.1
  have rm := hM.rm hT
  unfold An f_X11_lane f_X12_lane
  simp only [bn_e, ht, ck_t hc.1, cl_of _ (s_has hc.1 x).2.1, hc.2.2.1, cl_of _ (m_isLane hM.1 x), cl_of _ (m_within y 0 3 _), jn_e2]
  by_cases v : ¬ x < 0 ∧ x < nI (tL T)
  · obtain ⟨k, hk, rfl⟩ := in_nat (by omega) v.1 v.2
    obtain ⟨c1, c2, c3⟩ := hc.2.2.2.2.2.1 k hk
    obtain ⟨m1, m2, m3⟩ := hM.1.2.2.2.2.1 k hk
    have c4 : gI σ 7 k = nI (nL N k) := rc.2.2.2.2.1 k (by omega)
    have m4 : gI (pI μ 0 0 0) 36 (3 + k) = nI (nL N k) := rm.2.2.2.1 k (by omega)
    simp only [if_pos v, if_neg one0, a3, ck_t (inb_nI (show k < 8 by omega) (by omega)), ck_t (inb_nI (show k < 16 by omega) (by omega)), ck_t (inb_nI (show 3 + k < 41 by omega) (by omega)), nI_tn (show k < 2147483648 by omega), nI_tn (show 3 + k < 2147483648 by omega), c1, c2, c3, c4, m1, m2, m3, m4]
    by_cases y0 : y = 0
    · subst y0; exact ⟨_, _, _, rfl, rfl, Off.rf, QM.z μ 0⟩
    by_cases y1 : y = 1
    · subst y1; exact ⟨_, _, _, rfl, rfl, Off.rf, QM.z μ 0⟩
    by_cases y2 : y = 2
    · subst y2; exact ⟨_, _, _, rfl, rfl, Off.rf, QM.z μ 0⟩
    by_cases y3 : y = 3
    · subst y3; exact ⟨_, _, _, rfl, rfl, Off.rf, QM.z μ 0⟩
    have w : ¬ (¬ y < 0 ∧ ¬ (3 : Int32) < y) := fun z => by
      obtain ⟨j, hj, rfl⟩ := in_le (n := 3) (by omega) z.1 z.2
      have : j = 0 ∨ j = 1 ∨ j = 2 ∨ j = 3 := by omega
      rcases this with rfl | rfl | rfl | rfl
      · exact y0 rfl
      · exact y1 rfl
      · exact y2 rfl
      · exact y3 rfl
    simp only [if_neg y0, if_neg y1, if_neg y2, if_neg y3, if_neg w, if_true]
    exact ⟨_, _, _, rfl, rfl, Off.rf, QM.z μ 0⟩
  · simp only [if_neg v, if_true]
    exact ⟨_, _, _, rfl, rfl, Off.rf, QM.z μ 0⟩
theorem b01 (b : Bool) {α : Type} (x y : α) : (if (if b = true then (1 : Int32) else 0) = 0 then x else y) = (if b = true then y else x) := by cases b <;> rfl
theorem b01' (b : Bool) : (if b = true then (1 : Int32) else 0) = if b = true then 1 else 0 := rfl
theorem q_walker {σ μ : Mm} {t : Nat} {T : Tw} {N : Nt} (h : Bo σ μ t T N) (x y : Int32) : An (f_X11_walker x y) (f_X12_walker x y) σ μ := by
  obtain ⟨hT, hN, ⟨ht, hc, rc⟩, hM⟩ := h
  have hM := hM.q hT (QM.z μ 0)
  have hW := hT.2.2.1
  have rm := hM.rm hT
  unfold An f_X11_walker f_X12_walker
  simp only [bn_e, ht, ck_t hc.1, cl_of _ (s_has hc.1 x).2.2, hc.2.2.2.1, cl_of _ (m_isWalker hM.1 x), cl_of _ (m_within y 0 5 _), jn_e2]
  by_cases v : ¬ x < 0 ∧ x < nI (tW T)
  · obtain ⟨w, hw, rfl⟩ := in_nat (by omega) v.1 v.2
    obtain ⟨c1, -, -, -⟩ := hc.2.2.2.2.2.2.1 w hw
    obtain ⟨m1, -, -, -⟩ := hM.1.2.2.2.2.2.1 w hw
    obtain ⟨-, c3, c4, -⟩ := rc.2.2.2.2.2 w hw
    have c3 : gI σ 9 w = nI (nG N w) := c3
    have c4 : gI σ 10 w = nS N w := c4
    obtain ⟨m2, m3, m4, -, -⟩ := hM.2.1.2.2.2.2 w hw
    rw [Nat.zero_add] at m2 m3 m4
    have ho := m_isOut hM.1 hT hN hw rm.1 (rm.2.2.2.2 w hw)
    have hh := m_isHome hM.1 hT hN hw (rm.2.2.2.2 w hw)
    simp only [if_pos v, if_neg one0, a11, a17, a23, ck_t (inb_nI (show w < 6 by omega) (by omega)), ck_t (inb_nI (show w < 12 by omega) (by omega)), ck_t (inb_nI (show 11 + w < 41 by omega) (by omega)), ck_t (inb_nI (show 17 + w < 41 by omega) (by omega)), ck_t (inb_nI (show 23 + w < 41 by omega) (by omega)), nI_tn (show w < 2147483648 by omega), nI_tn (show 11 + w < 2147483648 by omega), nI_tn (show 17 + w < 2147483648 by omega), nI_tn (show 23 + w < 2147483648 by omega), c1, c3, c4, m1, m2, m3, m4, cl_of _ (s_placeOf hc hT rc hN hw), cl_of _ (s_isHome hc hT rc hN hw), cl_of _ (s_isOut hc hT rc hN hw), cl_of _ ho, cl_of _ hh, b01]
    by_cases y0 : y = 0
    · subst y0; exact ⟨_, _, _, rfl, rfl, Off.rf, QM.z μ 0⟩
    by_cases y1 : y = 1
    · subst y1; exact ⟨_, _, _, rfl, rfl, Off.rf, QM.z μ 0⟩
    by_cases y2 : y = 2
    · subst y2; exact ⟨_, _, _, rfl, rfl, Off.rf, QM.z μ 0⟩
    by_cases y3 : y = 3
    · subst y3; exact ⟨_, _, _, rfl, rfl, Off.rf, QM.z μ 0⟩
    by_cases y4 : y = 4
    · subst y4
      cases homeN T N w
      · exact ⟨_, _, _, rfl, rfl, Off.rf, QM.z μ 0⟩
      · exact ⟨_, _, _, rfl, rfl, Off.rf, QM.z μ 0⟩
    by_cases y5 : y = 5
    · subst y5
      cases outN T N w
      · exact ⟨_, _, _, rfl, rfl, Off.rf, QM.z μ 0⟩
      · exact ⟨_, _, _, rfl, rfl, Off.rf, QM.z μ 0⟩
    have w : ¬ (¬ y < 0 ∧ ¬ (5 : Int32) < y) := fun z => by
      obtain ⟨j, hj, rfl⟩ := in_le (n := 5) (by omega) z.1 z.2
      have : j = 0 ∨ j = 1 ∨ j = 2 ∨ j = 3 ∨ j = 4 ∨ j = 5 := by omega
      rcases this with rfl | rfl | rfl | rfl | rfl | rfl
      · exact y0 rfl
      · exact y1 rfl
      · exact y2 rfl
      · exact y3 rfl
      · exact y4 rfl
      · exact y5 rfl
    simp only [if_neg y0, if_neg y1, if_neg y2, if_neg y3, if_neg y4, if_neg y5, if_neg w, if_true]
    exact ⟨_, _, _, rfl, rfl, Off.rf, QM.z μ 0⟩
  · simp only [if_neg v, if_true]
    exact ⟨_, _, _, rfl, rfl, Off.rf, QM.z μ 0⟩
