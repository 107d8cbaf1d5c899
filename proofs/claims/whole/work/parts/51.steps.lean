/-! what else is done to a night -/
def updF {α : Type} (f : Nat → α) (k : Nat) (v : α) : Nat → α := fun j => if j = k then v else f j
theorem updF_s {α : Type} (f : Nat → α) (k : Nat) (v : α) : updF f k v k = v := by unfold updF; rw [if_pos rfl]
theorem updF_n {α : Type} {f : Nat → α} {k j : Nat} {v : α} (h : j ≠ k) : updF f k v j = f j := by unfold updF; rw [if_neg h]
def sendN (T : Tw) (N : Nt) (k : Nat) : Nt := ((nT N, nP N + tC T, nD N), updF (nL N) k (max (nL N k) (tE T (tT T k + 0) (nI (nL N k)) 1 (nT N))), nB N, nG N, nS N, nE N)
def waitN (N : Nt) (w : Nat) : Nt := ((nT N, nP N, nD N), nL N, nB N, nG N, updF (nS N) w (imx (nS N w) (nT N) + 1), nE N)
def turnN (T : Tw) (N : Nt) (w : Nat) : Nt := ((nT N, nP N, nD N), nL N, nB N, updF (nG N) w (tS T w), nS N, nE N)
def bringN (N : Nt) (w : Nat) : Nt := ((nT N, nP N, nD N), nL N, nB N, updF (nG N) w (nB N w), nS N, updF (nE N) w 0)
def beginN (T : Tw) : Nt := ((0, 0, 0), fun _ => 0, tS T, tG T, tM T, fun _ => 0)
def tuN (T : Tw) (N : Nt) (w : Nat) : Bool := outN T N w && decide (tK T w ≠ 3)
theorem sendN_ok {T : Tw} {N : Nt} (hT : TwOk T) (hN : NtOk T N) (k : Nat) : NtOk T (sendN T N k) := by
  refine ⟨fun j => ?_, hN.2⟩
  show updF (nL N) k _ j ≤ 30
  by_cases z : j = k
  · subst z; rw [updF_s]
    have h1 := hN.1 j
    have h2 := hT.2.2.2.2.2.1 (tT T j + 0) (nI (nL N j)) 1 (nT N)
    omega
  · rw [updF_n z]; exact hN.1 j
theorem waitN_ok {T : Tw} {N : Nt} (hN : NtOk T N) (w : Nat) : NtOk T (waitN N w) := hN
theorem beginN_ok {T : Tw} (hT : TwOk T) : NtOk T (beginN T) := ⟨fun _ => Nat.zero_le _, fun w hw => ⟨(hT.2.2.2.2.2.2.1 w hw).1, (hT.2.2.2.2.2.2.1 w hw).2, by show 0 < 3; omega, fun z => absurd z (Nat.lt_irrefl 0)⟩⟩
theorem tuN_E {T : Tw} {N : Nt} {w : Nat} (hN : NtOk T N) (hw : w < tW T) (h : tuN T N w = true) : nE N w = 0 := by
  unfold tuN at h
  rw [Bool.and_eq_true, decide_eq_true_eq] at h
  rcases Nat.eq_zero_or_pos (nE N w) with z | z
  · exact z
  · exact absurd ((hN.2 w hw).2.2.2 z).1 h.2
theorem turnN_ok {T : Tw} {N : Nt} (hT : TwOk T) (hN : NtOk T N) {w : Nat} (hw : w < tW T) (h0 : nE N w = 0) : NtOk T (turnN T N w) := by
  refine ⟨hN.1, fun v hv => ?_⟩
  obtain ⟨c1, c2, c3, c4⟩ := hN.2 v hv
  show nB N v < tP T ∧ updF (nG N) w (tS T w) v < tP T ∧ nE N v < 3 ∧ (0 < nE N v → tK T v = 3 ∧ ∃ k, tF T (nB N v) (updF (nG N) w (tS T w) v) = some k)
  by_cases z : v = w
  · subst z; rw [updF_s]
    exact ⟨c1, (hT.2.2.2.2.2.2.1 v hv).1, c3, fun q => by omega⟩
  · rw [updF_n z]; exact ⟨c1, c2, c3, c4⟩
theorem bringN_ok {T : Tw} {N : Nt} (hN : NtOk T N) {w : Nat} (hw : w < tW T) : NtOk T (bringN N w) := by
  refine ⟨hN.1, fun v hv => ?_⟩
  obtain ⟨c1, c2, c3, c4⟩ := hN.2 v hv
  show nB N v < tP T ∧ updF (nG N) w (nB N w) v < tP T ∧ updF (nE N) w 0 v < 3 ∧ (0 < updF (nE N) w 0 v → tK T v = 3 ∧ ∃ k, tF T (nB N v) (updF (nG N) w (nB N w) v) = some k)
  by_cases z : v = w
  · subst z; rw [updF_s, updF_s]
    exact ⟨c1, c1, by omega, fun q => absurd q (Nat.lt_irrefl 0)⟩
  · rw [updF_n z, updF_n z]; exact ⟨c1, c2, c3, c4⟩
/-! in the class -/
theorem s_sendBoy {σ : Mm} {t n : Nat} {T : Tw} {N : Nt} (h : TC σ t T) (hT : TwOk T) (r : RC σ n (tW T) N) (hN : NtOk T N) {k : Nat} (hk : k < tL T) :
    ∃ τ, f_X4_sendBoy n t (nI k) σ = some (0, τ) ∧ RC τ n (tW T) (sendN T N k) ∧ Off [n, n + 1, t + 3] σ τ := by
  have hL := hT.2.1
  have tn := town_night h.1 r.1
  obtain ⟨r1, r2, r3, r4, r5, r6⟩ := id r
  obtain ⟨υ, u1, u2, u3⟩ := s_lightUp h hT r1 hk (r5 k (by omega)) (hN.1 k) 1 LgOk.z
  have g : ∀ a, a ≠ n + 1 → a ≠ t + 3 → ∀ j, gI υ a j = gI σ a j := fun a z1 z2 j => u2.1 a (by simp; omega) j
  unfold f_X4_sendBoy
  rw [ck_t r1, ck_t h.1, cl_of _ u1, bn_e]
  refine ⟨_, rfl, ⟨r1, ?_, ?_, ?_, fun j hj => ?_, fun w hw => ?_⟩, (u2.mono (by simp)).tr (Off.pI (by simp))⟩
  · rw [gI_pI_n (Or.inr (by decide)), g n (by omega) (by omega)]; exact r2
  · rw [gI_pI_s, g n (by omega) (by omega), g t (by omega) (by omega), r3, h.2.2.2.2.1]; rfl
  · rw [gI_pI_n (Or.inr (by decide)), g n (by omega) (by omega)]; exact r4
  · rw [gI_pI_n (Or.inl (by omega)), u3 j, r2]
    show _ = nI (updF (nL N) k _ j)
    by_cases z : j = k
    · subst z; rw [updF_s, if_pos rfl]
    · rw [updF_n z, if_neg z]; exact r5 j hj
  · rw [gI_pI_n (Or.inl (by omega)), gI_pI_n (Or.inl (by omega)), gI_pI_n (Or.inl (by omega)), gI_pI_n (Or.inl (by omega)), g (n + 2) (by omega) (by omega), g (n + 3) (by omega) (by omega), g (n + 4) (by omega) (by omega), g (n + 5) (by omega) (by omega)]
    exact r6 w hw
theorem s_putOff {σ : Mm} {n W : Nat} {N : Nt} (r : RC σ n W N) (hW : W ≤ 6) {w : Nat} (hw : w < W) :
    ∃ τ, f_X4_putOff n (nI w) σ = some (0, τ) ∧ RC τ n W (waitN N w) ∧ Off [n + 4] σ τ := by
  obtain ⟨r1, r2, r3, r4, r5, r6⟩ := id r
  unfold f_X4_putOff
  simp only [ck_t r1, ck_t (inb_nI (show w < 6 by omega) (by omega)), nI_tn (show w < 2147483648 by omega), bn_e, (r6 w hw).2.2.1, r2]
  refine ⟨_, rfl, ⟨r1, ?_, ?_, ?_, fun j hj => ?_, fun v hv => ?_⟩, Off.pI (by simp)⟩
  · rw [gI_pI_n (Or.inl (by omega))]; exact r2
  · rw [gI_pI_n (Or.inl (by omega))]; exact r3
  · rw [gI_pI_n (Or.inl (by omega))]; exact r4
  · rw [gI_pI_n (Or.inl (by omega))]; exact r5 j hj
  · obtain ⟨q1, q2, q3, q4⟩ := r6 v hv
    rw [gI_pI_n (Or.inl (by omega)), gI_pI_n (Or.inl (by omega)), gI_pI_n (a := n + 4) (b := n + 5) (Or.inl (by omega))]
    refine ⟨q1, q2, ?_, q4⟩
    show _ = updF (nS N) w _ v
    by_cases z : v = w
    · subst z; rw [updF_s, gI_pI_s]
    · rw [updF_n z, gI_pI_n (Or.inr z)]; exact q3
theorem s_turn {σ : Mm} {t n : Nat} {T : Tw} {N : Nt} (h : TC σ t T) (hT : TwOk T) (r : RC σ n (tW T) N) {w : Nat} (hw : w < tW T) :
    ∃ τ, f_X4_turn n t (nI w) σ = some (0, τ) ∧ RC τ n (tW T) (turnN T N w) ∧ Off [n + 3] σ τ := by
  have hW := hT.2.2.1
  obtain ⟨r1, r2, r3, r4, r5, r6⟩ := id r
  unfold f_X4_turn
  simp only [ck_t r1, ck_t h.1, ck_t (inb_nI (show w < 6 by omega) (by omega)), nI_tn (show w < 2147483648 by omega), bn_e, (h.2.2.2.2.2.2.1 w hw).2.1]
  refine ⟨_, rfl, ⟨r1, ?_, ?_, ?_, fun j hj => ?_, fun v hv => ?_⟩, Off.pI (by simp)⟩
  · rw [gI_pI_n (Or.inl (by omega))]; exact r2
  · rw [gI_pI_n (Or.inl (by omega))]; exact r3
  · rw [gI_pI_n (Or.inl (by omega))]; exact r4
  · rw [gI_pI_n (Or.inl (by omega))]; exact r5 j hj
  · obtain ⟨q1, q2, q3, q4⟩ := r6 v hv
    rw [gI_pI_n (Or.inl (by omega)), gI_pI_n (a := n + 3) (b := n + 4) (Or.inl (by omega)), gI_pI_n (a := n + 3) (b := n + 5) (Or.inl (by omega))]
    refine ⟨q1, ?_, q3, q4⟩
    show _ = nI (updF (nG N) w _ v)
    by_cases z : v = w
    · subst z; rw [updF_s, gI_pI_s]
    · rw [updF_n z, gI_pI_n (Or.inr z)]; exact q2
theorem s_bringHome {σ : Mm} {n W : Nat} {N : Nt} (r : RC σ n W N) (hW : W ≤ 6) {w : Nat} (hw : w < W) :
    ∃ τ, f_X4_bringHome n (nI w) σ = some (0, τ) ∧ RC τ n W (bringN N w) ∧ Off [n + 3, n + 5] σ τ := by
  obtain ⟨r1, r2, r3, r4, r5, r6⟩ := id r
  unfold f_X4_bringHome
  simp only [ck_t r1, ck_t (inb_nI (show w < 6 by omega) (by omega)), nI_tn (show w < 2147483648 by omega), bn_e, (r6 w hw).1]
  refine ⟨_, rfl, ⟨r1, ?_, ?_, ?_, fun j hj => ?_, fun v hv => ?_⟩, (Off.pI (by simp)).tr (Off.pI (by simp))⟩
  · rw [gI_pI_n (Or.inl (by omega)), gI_pI_n (Or.inl (by omega))]; exact r2
  · rw [gI_pI_n (Or.inl (by omega)), gI_pI_n (Or.inl (by omega))]; exact r3
  · rw [gI_pI_n (Or.inl (by omega)), gI_pI_n (Or.inl (by omega))]; exact r4
  · rw [gI_pI_n (Or.inl (by omega)), gI_pI_n (Or.inl (by omega))]; exact r5 j hj
  · obtain ⟨q1, q2, q3, q4⟩ := r6 v hv
    refine ⟨?_, ?_, ?_, ?_⟩
    · rw [gI_pI_n (Or.inl (by omega)), gI_pI_n (Or.inl (by omega))]; exact q1
    · rw [gI_pI_n (Or.inl (by omega))]
      show _ = nI (updF (nG N) w _ v)
      by_cases z : v = w
      · subst z; rw [updF_s, gI_pI_s]
      · rw [updF_n z, gI_pI_n (Or.inr z)]; exact q2
    · rw [gI_pI_n (Or.inl (by omega)), gI_pI_n (Or.inl (by omega))]; exact q3
    · show _ = nI (updF (nE N) w _ v)
      by_cases z : v = w
      · subst z; rw [updF_s, gI_pI_s]; rfl
      · rw [updF_n z, gI_pI_n (Or.inr z), gI_pI_n (Or.inl (by omega))]; exact q4
theorem s_canTurn {σ : Mm} {t n : Nat} {T : Tw} {N : Nt} (h : TC σ t T) (hT : TwOk T) (r : RC σ n (tW T) N) (hN : NtOk T N) {w : Nat} (hw : w < tW T) : f_X4_canTurn n t (nI w) σ = some ((if tuN T N w then 1 else 0), σ) := by
  have hW := hT.2.2.1
  unfold f_X4_canTurn tuN
  simp only [ck_t r.1, ck_t h.1, ck_t (inb_nI (show w < 6 by omega) (by omega)), nI_tn (show w < 2147483648 by omega), jn_e, (h.2.2.2.2.2.2.1 w hw).1, cl_of _ (s_isOut h hT r hN hw)]
  by_cases k3 : tK T w = 3
  · rw [if_pos k3]; simp [k3]
  · rw [if_neg k3]
    cases outN T N w
    · simp
    · simp [k3]
theorem s_placeOf {σ : Mm} {t n : Nat} {T : Tw} {N : Nt} (h : TC σ t T) (hT : TwOk T) (r : RC σ n (tW T) N) (hN : NtOk T N) {w : Nat} (hw : w < tW T) : f_X4_placeOf n t (nI w) σ = some (nI (atN T N w), σ) := by
  have hW := hT.2.2.1
  obtain ⟨r1, r2, r3, r4, r5, r6⟩ := id r
  obtain ⟨q1, q2, q3, q4⟩ := r6 w hw
  obtain ⟨c1, c2, c3, c4⟩ := hN.2 w hw
  unfold f_X4_placeOf
  simp only [ck_t r1, ck_t h.1, ck_t (inb_nI (show w < 6 by omega) (by omega)), nI_tn (show w < 2147483648 by omega), bn_e, q1, q2, q4, cl_of _ (s_firstLane h hT c1 c2)]
  unfold atN
  by_cases e : nE N w = 1
  · obtain ⟨-, k, hk⟩ := c4 (by omega)
    rw [if_pos (show nI (nE N w) = 1 by rw [e]; rfl), if_pos e, hk]
    have hkL := (hT.2.2.2.2.1 _ _ k c1 c2 hk).1
    simp only [oI, cl_of _ (s_otherEnd h hT hkL c1)]
  · rw [if_neg (show ¬ nI (nE N w) = 1 from fun z => e ((nI_eq (b := 1) (by omega) (by omega)).mp z)), if_neg e]
