theorem s_laneAhead1 {σ : Mm} {t n : Nat} {T : Tw} (h : TC σ t T) (hT : TwOk T) (hn : isNight n = true) {w b g : Nat} (hw : w < tW T) (hb : gI σ (n + 2) w = nI b) (hbP : b < tP T) (hg : gI σ (n + 3) w = nI g) (hgP : g < tP T) : f_X4_laneAhead n t (nI w) σ = some (oI (if gI σ n 0 < gI σ (n + 4) w then none else tF T b g), σ) := by
  have hW := hT.2.2.1
  unfold f_X4_laneAhead
  rw [ck_t hn, ck_t h.1, ck_t (inb_nI (show w < 6 by omega) (by omega))]
  simp only [nI_tn (show w < 2147483648 by omega), hb, hg, ck_t (inb_nI (show w < 6 by omega) (by omega)), cl_of _ (s_firstLane h hT hbP hgP)]
  by_cases e : gI σ n 0 < gI σ (n + 4) w
  · rw [if_pos e, if_pos e]; rfl
  · rw [if_neg e, if_neg e]
/-- a lane is lit -/
theorem s_lightUp {σ : Mm} {t n : Nat} {T : Tw} (h : TC σ t T) (hT : TwOk T) (hn : isNight n = true) {k l : Nat} (hk : k < tL T) (hl : gI σ (n + 1) k = nI l) (hl30 : l ≤ 30) (ft : Int32) {lg : Int32} (hlg : LgOk lg) :
    ∃ τ, f_X4_lightUp n t (nI k) ft lg σ = some (0, τ) ∧ Off [n + 1, t + 3] σ τ ∧ ∀ j, gI τ (n + 1) j = if j = k then nI (max l (tE T (tT T k + lg) (nI l) ft (gI σ n 0))) else gI σ (n + 1) j := by
  have hL := hT.2.1
  have tn := town_night h.1 hn
  have ib8 : inb (nI k) 8 = true := inb_nI (by omega) (by omega)
  have ck8 : (nI k).toNatClampNeg = k := nI_tn (by omega)
  have hnn : ¬ tT T k + lg < 0 := by
    obtain ⟨m1, q1, q2⟩ := hT.2.2.2.2.2.2.2 k hk
    obtain ⟨m2, q3, q4⟩ := hlg
    rw [q2, q4, nI_add]
    exact nI_pos (by omega)
  obtain ⟨υ, u1, u2⟩ := h.2.2.2.2.2.2.2.2 σ (fun _ => rfl) (fun _ => rfl) (tT T k + lg) (nI l) ft (gI σ n 0) hnn
  have hE := hT.2.2.2.2.2.1 (tT T k + lg) (nI l) ft (gI σ n 0)
  obtain ⟨m, em⟩ : ∃ m, m = tE T (tT T k + lg) (nI l) ft (gI σ n 0) := ⟨_, rfl⟩
  rw [← em] at u1 hE ⊢
  have g1 : ∀ j, gI υ (n + 1) j = gI σ (n + 1) j := fun j => u2.1 _ (by simp; omega) j
  unfold f_X4_lightUp
  simp only [ck_t hn, ck_t h.1, ck_t ib8, ck8, hl, (h.2.2.2.2.2.1 k hk).2.2, cl_of _ u1, g1, bn_e]
  by_cases c : nI l < nI m
  · have c2 : l < m := (nI_ltI (by omega) (by omega)).mp c
    rw [if_pos c, Nat.max_eq_right (by omega)]
    refine ⟨_, rfl, (u2.mono (by simp)).tr (Off.pI (by simp)), fun j => ?_⟩
    by_cases q : j = k
    · subst q; rw [gI_pI_s, if_pos rfl]
    · rw [gI_pI_n (Or.inr q), if_neg q, g1]
  · have c2 : m ≤ l := by
      rcases Nat.lt_or_ge l m with q | q
      · exact absurd (nI_lt q (by omega)) c
      · exact q
    rw [if_neg c, Nat.max_eq_left c2]
    refine ⟨_, rfl, u2.mono (by simp), fun j => ?_⟩
    rw [g1]
    by_cases q : j = k
    · subst q; rw [if_pos rfl]; exact hl
    · rw [if_neg q]
theorem pass_B {T : Tw} {N : Nt} {lg : Int32} {w k : Nat} (h : lnA T N w = some k) : nB (passN T N lg) w = if onN T N w then othE T k (nB N w) else nB N w := by
  show (match lnA T N w with | some k => if onN T N w then othE T k (nB N w) else nB N w | none => nB N w) = _
  rw [h]
theorem pass_B0 {T : Tw} {N : Nt} {lg : Int32} {w : Nat} (h : lnA T N w = none) : nB (passN T N lg) w = nB N w := by
  show (match lnA T N w with | some k => if onN T N w then othE T k (nB N w) else nB N w | none => nB N w) = _
  rw [h]
theorem pass_E {T : Tw} {N : Nt} {lg : Int32} {w k : Nat} (h : lnA T N w = some k) : nE (passN T N lg) w = if onN T N w then 0 else nE N w + 1 := by
  show (match lnA T N w with | some _ => if onN T N w then 0 else nE N w + 1 | none => nE N w) = _
  rw [h]
theorem pass_E0 {T : Tw} {N : Nt} {lg : Int32} {w : Nat} (h : lnA T N w = none) : nE (passN T N lg) w = nE N w := by
  show (match lnA T N w with | some _ => if onN T N w then 0 else nE N w + 1 | none => nE N w) = _
  rw [h]
def ftI (T : Tw) (N : Nt) (i k : Nat) : Nat := cnt (fun w => lnA T N w == some k) i
def wsI (T : Tw) (N : Nt) (i : Nat) : Nat := bts (fun k => decide (0 < ftI T N i k)) (tL T)
theorem or_set {p q : Nat → Bool} {n k : Nat} (hn : n ≤ 8) (hk : k < n) (h : ∀ j, j < n → q j = (p j || decide (j = k))) : nI (bts p n) ||| ((1 : Int32) <<< (nI k &&& 31)) = nI (bts q n) := by
  rw [one_shl (by omega)]
  have e : bts p n ||| 2 ^ k = bts q n := by
    apply Nat.eq_of_testBit_eq
    intro i
    rw [Nat.testBit_or]
    by_cases hi : i < n
    · rw [bts_bit _ hi, bts_bit _ hi, h i hi, Nat.testBit_two_pow]
      congr 1
      simp [eq_comm]
    · rw [bts_high _ (by omega), bts_high _ (by omega), Nat.testBit_two_pow]
      simp
      omega
  rw [← e]
  apply Int32.toBitVec_inj.mp
  show BitVec.ofNat 32 (bts p n) ||| BitVec.ofNat 32 (2 ^ k) = BitVec.ofNat 32 (bts p n ||| 2 ^ k)
  rw [BitVec.ofNat_or]
/-- the walkers go, one behind another -/
theorem s_pass35 {σ : Mm} {t n : Nat} {T : Tw} {N : Nt} (lg : Int32) (h : TC σ t T) (hT : TwOk T) (r : RC σ n (tW T) N) (hN : NtOk T N) (h9 : gI σ n 9 = 0) (h10 : gI σ n 10 = 0) (h6 : ∀ j, j < tL T → gI σ (n + 6) j = 0) (kx : Mm → Option (Int32 × Mm)) :
    ∃ τ, lq2 (F_X4_pass_35 n t kx) 1000000 (0 : Int32) σ = kx τ ∧ Off [n, n + 2, n + 5, n + 6] σ τ ∧ (∀ j, j ≠ 9 → j ≠ 10 → gI τ n j = gI σ n j) ∧ gI τ n 9 = nI (bts (dkN T N) (tW T)) ∧ gI τ n 10 = nI (wsI T N (tW T)) ∧ (∀ j, j < tL T → gI τ (n + 6) j = nI (ftN T N j)) ∧ ∀ w, w < tW T → gI τ (n + 2) w = nI (nB (passN T N lg) w) ∧ gI τ (n + 5) w = nI (nE (passN T N lg) w) := by
  have hW := hT.2.2.1
  have hL := hT.2.1
  have hn := r.1
  have tn := town_night h.1 hn
  have q := lq2_inv (F := F_X4_pass_35 n t kx) (fun i => nI i) (fun i b => Off [n, n + 2, n + 5, n + 6] σ b ∧ (∀ j, j ≠ 9 → j ≠ 10 → gI b n j = gI σ n j) ∧ gI b n 9 = nI (bts (dkN T N) i) ∧ gI b n 10 = nI (wsI T N i) ∧ (∀ j, j < tL T → gI b (n + 6) j = nI (ftI T N i j)) ∧ ∀ w, w < tW T → gI b (n + 2) w = nI (if w < i then nB (passN T N lg) w else nB N w) ∧ gI b (n + 5) w = nI (if w < i then nE (passN T N lg) w else nE N w)) (tW T) kx ?_ ?_ (n := 1000000) (b0 := σ) ?_ (by omega)
  · obtain ⟨b, hb, e⟩ := q
    refine ⟨b, e, hb.1, hb.2.1, hb.2.2.1, hb.2.2.2.1, hb.2.2.2.2.1, fun w hw => ?_⟩
    have := hb.2.2.2.2.2 w hw
    rw [if_pos hw, if_pos hw] at this
    exact this
  · intro rec i b hi hb
    obtain ⟨o, b0, b9, b10, b6, bw⟩ := hb
    have hTb := h.off o (fun a ha => by simp only [List.mem_cons, List.not_mem_nil, or_false] at ha; omega)
    obtain ⟨q1, q2, q3, q4⟩ := r.2.2.2.2.2 i hi
    obtain ⟨k1, k2, k3, k4⟩ := hN.2 i hi
    have h1 : nI i < gI b t 2 := by rw [hTb.2.2.2.1]; exact nI_lt hi (by omega)
    have w2 : gI b (n + 2) i = nI (nB N i) := by have := (bw i hi).1; rw [if_neg (Nat.lt_irrefl i)] at this; exact this
    have w5 : gI b (n + 5) i = nI (nE N i) := by have := (bw i hi).2; rw [if_neg (Nat.lt_irrefl i)] at this; exact this
    have w3 : gI b (n + 3) i = nI (nG N i) := by rw [o.1 _ (by simp)]; exact q2
    have w4 : gI b (n + 4) i = nS N i := by rw [o.1 _ (by simp)]; exact q3
    have w0 : gI b n 0 = nT N := by rw [b0 0 (by decide) (by decide)]; exact r.2.1
    have la := s_laneAhead1 hTb hT hn hi w2 k1 w3 k2
    rw [w0, w4] at la
    have la : f_X4_laneAhead n t (nI i) b = some (oI (lnA T N i), b) := la
    cases hln : lnA T N i with
    | none =>
      rw [hln] at la
      refine ⟨b, ⟨o, b0, ?_, ?_, fun j hj => ?_, fun w hw => ?_⟩, ?_⟩
      · rw [b9]; simp only [bts, dkN, hln]; simp
      · rw [b10]; congr 1; unfold wsI; apply bts_congr; intro j _; unfold ftI; simp only [cnt, hln]; simp; rfl
      · rw [b6 j hj]; unfold ftI; simp only [cnt, hln]; simp
      · have := bw w hw
        by_cases e : w = i
        · subst e
          rw [if_neg (Nat.lt_irrefl w), if_neg (Nat.lt_irrefl w)] at this
          rw [if_pos (Nat.lt_succ_self w), if_pos (Nat.lt_succ_self w)]
          rw [pass_B0 hln, pass_E0 hln]
          exact this
        · have e2 : w < i + 1 ↔ w < i := by omega
          simp only [e2]
          exact this
      · simp only [F_X4_pass_35, if_pos h1, cl_of _ la, oI, cl_of _ (s_hasLane0 hTb), jn_e, if_true, nI_1]
    | some k =>
      rw [hln] at la
      have hF : tF T (nB N i) (nG N i) = some k := by
        unfold lnA at hln
        split at hln
        · cases hln
        · exact hln
      have hk := (hT.2.2.2.2.1 _ _ k k1 k2 hF).1
      have hl : gI b (n + 1) k = nI (nL N k) := by rw [o.1 _ (by simp)]; exact r.2.2.2.2.1 k (by omega)
      obtain ⟨τ, t1, t2, t3, t4, t5, t6, t7, t8⟩ := s_goAlong hTb hT hn hi hk w2 k1 w5 k3 hl (hN.1 k)
      have hne : ¬ (1 : Int32) = 0 := by decide
      have hon : (tK T i ≠ 3 ∨ 2 ≤ nE N i) ↔ onN T N i = true := by unfold onN; simp
      refine ⟨τ, ⟨o.tr t2, fun j j9 j10 => ?_, ?_, ?_, fun j hj => ?_, fun w hw => ?_⟩, ?_⟩
      · rw [t6 j j9 j10]; exact b0 j j9 j10
      · rw [t4, b9]
        have hd : dkN T N i = decide (nL N k = 0 ∧ tK T i ≠ 1 ∧ tK T i ≠ 2) := by
          simp only [dkN, hln]
          by_cases z : nL N k = 0 <;> simp [z]
        simp only [bts, hd]
        by_cases c : nL N k = 0 ∧ tK T i ≠ 1 ∧ tK T i ≠ 2
        · rw [if_pos c, or_bit (bts_lt _ i) (by omega), decide_eq_true c, Bool.toNat_true, Nat.mul_one]
        · rw [if_neg c, decide_eq_false c, Bool.toNat_false, Nat.mul_zero, Nat.add_zero]
      · rw [t5, b10]
        refine or_set hL hk (fun j hj => ?_)
        unfold ftI
        simp only [cnt, hln]
        by_cases e : j = k
        · subst e; simp
        · have : (some k == some j) = false := by simp; exact fun q => e q.symm
          rw [this]; simp [e]
      · rw [t3 j]
        unfold ftI
        simp only [cnt, hln]
        by_cases e : j = k
        · subst e
          rw [if_pos rfl, b6 j hj]
          unfold ftI
          simp [nI_1]
        · have : (some k == some j) = false := by simp; exact fun q => e q.symm
          rw [if_neg e, this, b6 j hj]
          rfl
      · rw [t8 w, t7 w]
        have := bw w hw
        by_cases e : w = i
        · subst e
          rw [if_pos rfl, if_pos rfl, if_pos (Nat.lt_succ_self w), if_pos (Nat.lt_succ_self w)]
          rw [pass_B hln, pass_E hln]
          by_cases c : tK T w ≠ 3 ∨ 2 ≤ nE N w
          · rw [if_pos c, if_pos c, if_pos (hon.mp c), if_pos (hon.mp c)]
            exact ⟨rfl, rfl⟩
          · rw [if_neg c, if_neg c, if_neg (fun q => c (hon.mpr q)), if_neg (fun q => c (hon.mpr q))]
            exact ⟨rfl, rfl⟩
        · have e2 : w < i + 1 ↔ w < i := by omega
          rw [if_neg e, if_neg e]
          simp only [e2]
          exact this
      · simp only [F_X4_pass_35, if_pos h1, cl_of _ la, oI, cl_of _ (s_hasLane1 hTb hT hk), jn_e, if_neg hne, cl_of _ t1, nI_1]
  · intro rec b hb
    have hTb := h.off hb.1 (fun a ha => by simp only [List.mem_cons, List.not_mem_nil, or_false] at ha; omega)
    have h1 : ¬ nI (tW T) < gI b t 2 := by rw [hTb.2.2.2.1]; exact nI_nlt (Nat.le_refl _) (by omega)
    simp only [F_X4_pass_35, if_neg h1]
  · refine ⟨Off.rf, fun _ _ _ => rfl, by rw [h9]; rfl, ?_, fun j hj => by rw [h6 j hj]; rfl, fun w hw => ?_⟩
    · rw [h10]
      have : wsI T N 0 = 0 := by
        unfold wsI
        have : bts (fun k => decide (0 < ftI T N 0 k)) (tL T) = bts (fun _ => false) (tL T) := bts_congr (fun j _ => by simp [ftI, cnt])
        rw [this]
        have key : ∀ m, bts (fun _ => false) m = 0 := by
          intro m
          induction m with
          | zero => rfl
          | succ m ih => simp [bts, ih]
        exact key _
      rw [this]; rfl
    · obtain ⟨q1, q2, q3, q4⟩ := r.2.2.2.2.2 w hw
      rw [if_neg (Nat.not_lt_zero w), if_neg (Nat.not_lt_zero w)]
      exact ⟨q1, q4⟩
