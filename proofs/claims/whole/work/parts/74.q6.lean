/-! what is watched -/
abbrev Wt : Type := Nat × (Nat → Nat) × (Nat → Nat) × (Nat → Int32)
def wM (w : Wt) : Nat := w.1
def wL (w : Wt) : Nat → Nat := w.2.1
def wA (w : Wt) : Nat → Nat := w.2.2.1
def wB (w : Wt) : Nat → Int32 := w.2.2.2
def WtOk (T : Tw) (w : Wt) : Prop := wM w ≤ 6 ∧ ∀ k, k < wM w → wL w k < tL T ∧ wA w k ≤ 30 ∧ (wB w k = 0 ∨ wB w k = 1)
def WC (σ : Mm) (a : Nat) (w : Wt) : Prop := isWatched a = true ∧ gI σ a 0 = nI (wM w) ∧ ∀ k, k < wM w → gI σ (a + 1) k = nI (wL w k) ∧ gI σ (a + 2) k = nI (wA w k) ∧ gI σ (a + 3) k = wB w k
def WR (σ : Mm) (r : Nat) (w : Wt) : Prop := gI σ 32 r = nI (wM w) ∧ ∀ k, k < wM w → gI σ 33 (6 * r + k) = nI (wL w k) ∧ gI σ 34 (6 * r + k) = nI (wA w k) ∧ gI σ 35 (6 * r + k) = wB w k
theorem WC.off {σ τ : Mm} {a : Nat} {w : Wt} {S : List Nat} (h : WC σ a w) (o : Off S σ τ) (hs : ∀ x, x ∈ S → x < a ∨ a + 3 < x) : WC τ a w := by
  have q : ∀ j, j ≤ 3 → ∀ k, gI τ (a + j) k = gI σ (a + j) k := fun j hj k => o.1 _ (fun hm => by have := hs _ hm; omega) k
  refine ⟨h.1, by rw [show gI τ a 0 = gI σ a 0 from q 0 (by omega) 0]; exact h.2.1, fun k hk => ?_⟩
  rw [q 1 (by omega), q 2 (by omega), q 3 (by omega)]; exact h.2.2 k hk
theorem WR.q {σ τ : Mm} {r : Nat} {w : Wt} (h : WR σ r w) (q : QM σ τ) : WR τ r w := by
  have e : ∀ a, a = 32 ∨ a = 33 ∨ a = 34 ∨ a = 35 → ∀ k, gI τ a k = gI σ a k := fun a ha k => q.1 a (by rcases ha with rfl | rfl | rfl | rfl <;> simp [qM, lawM]) k
  refine ⟨by rw [e 32 (by omega)]; exact h.1, fun k hk => ?_⟩
  rw [e 33 (by omega), e 34 (by omega), e 35 (by omega)]; exact h.2 k hk
theorem imx_N {x y : Nat} (hx : x < 2147483648) (hy : y < 2147483648) : imx (nI x) (nI y) = nI (max x y) := by
  unfold imx
  by_cases c : x < y
  · rw [if_pos (nI_lt c (by omega)), Nat.max_eq_right (by omega)]
  · rw [if_neg (fun z => c ((nI_ltI (by omega) (by omega)).mp z)), Nat.max_eq_left (by omega)]
def lastW (w : Wt) : Nat → Nat
  | 0 => 0
  | n + 1 => max (lastW w n) (wA w n)
theorem lastW_le {T : Tw} {w : Wt} (h : WtOk T w) : ∀ n, n ≤ wM w → lastW w n ≤ 30
  | 0, _ => Nat.zero_le _
  | n + 1, hn => by
    have h1 := lastW_le h n (by omega)
    have h2 := (h.2 n (by omega)).2.1
    unfold lastW
    omega
theorem lastW_ge {w : Wt} : ∀ {n k : Nat}, k < n → wA w k ≤ lastW w n := by
  intro n
  induction n with
  | zero => intro k hk; omega
  | succ n ih =>
    intro k hk
    unfold lastW
    by_cases z : k = n
    · subst z; omega
    · have := ih (show k < n by omega); omega
theorem s_lastMinute {σ : Mm} {a : Nat} {T : Tw} {w : Wt} (h : WC σ a w) (hw : WtOk T w) : f_X10_lastMinute a σ = some (nI (lastW w (wM w)), σ) := by
  have h6 := hw.1
  unfold f_X10_lastMinute
  rw [ck_t h.1, jn_e2]
  refine lq2_run (F := F_X10_lastMinute_4 a σ (fun x => some (x, σ))) (fun i => nI (lastW w i)) (fun i => nI i) (wM w) (some (nI (lastW w (wM w)), σ)) ?_ ?_ (n := 1000000) (by omega)
  · intro rec i hi
    have c1 : nI i < gI σ a 0 := by rw [h.2.1]; exact nI_lt hi (by omega)
    have l1 := lastW_le hw i (by omega)
    have l2 := (hw.2 i hi).2.1
    simp only [F_X10_lastMinute_4, if_pos c1, ck_t (inb_nI (show i < 6 by omega) (by omega)), nI_tn (show i < 2147483648 by omega), (h.2.2 i hi).2.1, imx_N (show lastW w i < 2147483648 by omega) (show wA w i < 2147483648 by omega), bn_e, nI_1]
    rfl
  · intro rec
    have c1 : ¬ nI (wM w) < gI σ a 0 := by rw [h.2.1]; exact nI_nlt (Nat.le_refl _) (by omega)
    simp only [F_X10_lastMinute_4, if_neg c1]
/-- what is watched of a minute is so -/
def tb1 (b k : Nat) : Int32 := if b.testBit k then 1 else 0
def soW (w : Wt) (i b : Nat) : Bool := (fst1 (fun k => decide (wA w k = i) && !decide (tb1 b (wL w k) = wB w k)) 0 (wM w)).isNone
theorem s_isSo {σ : Mm} {a : Nat} {T : Tw} {w : Wt} (h : WC σ a w) (hT : TwOk T) (hw : WtOk T w) {i b : Nat} (hi : i ≤ 30) (hb : b < 2147483648) : f_X10_isSo a (nI i) (nI b) σ = some ((if soW w i b then 1 else 0), σ) := by
  have h6 := hw.1
  have hL := hT.2.1
  unfold f_X10_isSo
  rw [ck_t h.1, jn_e2]
  have q := lq1_fst (F := F_X10_isSo_2 a (nI i) (nI b) σ (some (1, σ))) (fun k => decide (wA w k = i) && !decide (tb1 b (wL w k) = wB w k)) 0 (wM w) (fun _ => some (0, σ)) (some (1, σ)) ?_ ?_ ?_ (n := 1000000) (by omega)
  · refine q.trans ?_
    unfold soW
    cases fst1 (fun k => decide (wA w k = i) && !decide (tb1 b (wL w k) = wB w k)) 0 (wM w) <;> rfl
  · intro rec k _ hk hp
    have hk : k < wM w := by omega
    have c1 : nI k < gI σ a 0 := by rw [h.2.1]; exact nI_lt hk (by omega)
    obtain ⟨w1, w2, w3⟩ := h.2.2 k hk
    obtain ⟨v1, v2, v3⟩ := hw.2 k hk
    have hp1 : wA w k = i := by simp at hp; exact hp.1
    have hp2 : ¬ tb1 b (wL w k) = wB w k := by simp at hp; exact hp.2
    simp only [F_X10_isSo_2, if_pos c1, ck_t (inb_nI (show k < 6 by omega) (by omega)), nI_tn (show k < 2147483648 by omega), w1, w2, w3, jn_e, hp1, if_true]
    unfold tb1 at hp2
    by_cases z : b.testBit (wL w k) = true
    · rw [if_pos z] at hp2
      rw [if_pos ((shr_bit1 hb (show wL w k < 31 by omega)).mpr z), if_neg hp2]
    · rw [if_neg z] at hp2
      rw [if_neg (fun y => z ((shr_bit1 hb (show wL w k < 31 by omega)).mp y)), if_neg hp2]
  · intro rec k _ hk hp
    have hk : k < wM w := by omega
    have c1 : nI k < gI σ a 0 := by rw [h.2.1]; exact nI_lt hk (by omega)
    obtain ⟨w1, w2, w3⟩ := h.2.2 k hk
    obtain ⟨v1, v2, v3⟩ := hw.2 k hk
    simp only [F_X10_isSo_2, if_pos c1, ck_t (inb_nI (show k < 6 by omega) (by omega)), nI_tn (show k < 2147483648 by omega), w1, w2, w3, jn_e, nI_1]
    by_cases e : wA w k = i
    · have hp2 : tb1 b (wL w k) = wB w k := by simp [e] at hp; exact hp
      unfold tb1 at hp2
      by_cases z : b.testBit (wL w k) = true
      · rw [if_pos z] at hp2
        rw [if_pos ((shr_bit1 hb (show wL w k < 31 by omega)).mpr z), if_pos hp2, if_pos (show nI (wA w k) = nI i by rw [e])]
      · rw [if_neg z] at hp2
        rw [if_neg (fun y => z ((shr_bit1 hb (show wL w k < 31 by omega)).mp y)), if_pos hp2, if_pos (show nI (wA w k) = nI i by rw [e])]
    · have ne : ¬ nI (wA w k) = nI i := fun z => e ((nI_eq (by omega) (by omega)).mp z)
      simp only [if_neg ne]
      split <;> rfl
  · intro rec
    have c1 : ¬ nI (0 + wM w) < gI σ a 0 := by rw [h.2.1, Nat.zero_add]; exact nI_nlt (Nat.le_refl _) (by omega)
    simp only [F_X10_isSo_2, if_neg c1]
/-- what burns if just a set is out -/
def bsN (T : Tw) (N : Nt) (s i : Nat) : Nat := bts (brN (itN T 0 (restN N s) i)) (tL T)
theorem bsN_lt {T : Tw} {N : Nt} (hT : TwOk T) (s i : Nat) : bsN T N s i < 256 := Nat.lt_of_lt_of_le (bts_lt _ _) (show 2 ^ tL T ≤ 2 ^ 8 from Nat.pow_le_pow_right (by decide) hT.2.1)
def okW (T : Tw) (N : Nt) (w : Wt) (s : Nat) : Bool := (fst1 (fun k => !decide (tb1 (bsN T N s (wA w k)) (wL w k) = wB w k)) 0 (wM w)).isNone
theorem isNone_iff {p : Nat → Bool} {n : Nat} : (fst1 p 0 n).isNone = true ↔ ∀ i, i < n → p i = false := by
  constructor
  · intro h i hi
    cases e : fst1 p 0 n with
    | none => exact fst1_none e i (Nat.zero_le _) (by omega)
    | some k => rw [e] at h; cases h
  · intro h
    cases e : fst1 p 0 n with
    | none => rfl
    | some k => obtain ⟨-, h2, h3, -⟩ := fst1_some e; rw [h k (by omega)] at h3; cases h3
theorem okW_iff {T : Tw} {N : Nt} {w : Wt} {s last : Nat} (hl : lastW w (wM w) ≤ last) : okW T N w s = true ↔ ∀ i, i < last + 1 → soW w i (bsN T N s i) = true := by
  unfold okW soW
  rw [isNone_iff]
  constructor
  · intro h i _
    rw [isNone_iff]
    intro k hk
    have := h k hk
    by_cases e : wA w k = i
    · subst e; simp at this; simp [this]
    · simp [e]
  · intro h k hk
    have a := lastW_ge (w := w) hk
    have := (isNone_iff.mp (h (wA w k) (by omega))) k hk
    simpa using this
def restI (N : Nt) (s i : Nat) : Nt := ((nT N, nP N, nD N), nL N, nB N, fun v => if v < i ∧ s.testBit v = false then nB N v else nG N v, nS N, fun v => if v < i ∧ s.testBit v = false then 0 else nE N v)
theorem restI_G0 (N : Nt) (s v : Nat) : nG (restI N s 0) v = nG N v := by
  show (if v < 0 ∧ s.testBit v = false then nB N v else nG N v) = nG N v
  exact if_neg (fun z => absurd z.1 (Nat.not_lt_zero v))
theorem restI_E0 (N : Nt) (s v : Nat) : nE (restI N s 0) v = nE N v := by
  show (if v < 0 ∧ s.testBit v = false then 0 else nE N v) = nE N v
  exact if_neg (fun z => absurd z.1 (Nat.not_lt_zero v))
theorem s_litBySet {σ : Mm} {t m : Nat} {T : Tw} {N : Nt} {w : Wt} (hc : TC σ t T) (hT : TwOk T) (hm : (197 : Nat) ≠ m) (r : RC σ m (tW T) N) (hN : NtOk T N) (hw : WC σ 127 w) (hwk : WtOk T w) {s i : Nat} (hs : s < 2147483648) (hi : i ≤ 30) :
    ∃ τ, f_X0_litBySet t m 127 (nI s) (nI i) σ = some ((if okW T N w s then nI (bsN T N s i) else -1), τ) ∧ Off (tryC t) σ τ := by
  have hW := hT.2.2.1
  have hL := hT.2.1
  have tn := town_night hc.1 n197
  obtain ⟨σ1, l1, a1⟩ := At.first (N := N) 0 hc hT hm r
  obtain ⟨last, el⟩ : ∃ l, l = max i (lastW w (wM w)) := ⟨_, rfl⟩
  have l30 := lastW_le hwk (wM w) (Nat.le_refl _)
  unfold f_X0_litBySet
  rw [ck_t hc.1, ck_t r.1, ck_t hw.1, cl_of _ l1, jn_e2]
  obtain ⟨kx, ek⟩ : ∃ k : Mm → Option (Int32 × Mm), k = (fun (σ_45 : Mm) => cl (f_X10_lastMinute 127 σ_45) (fun r48 _ => bn (imx (nI i) r48) (fun v6_54 => jn (fun (x7_123 : Int32) (σ_123 : Mm) => some (x7_123, σ_123)) (fun k123 => lq3 (F_X0_litBySet_62 t 127 (nI i) v6_54 k123) 1000000 (0 : Int32) (0 : Int32) σ_45)))) := ⟨_, rfl⟩
  rw [← ek]
  have q := lq2_inv (F := F_X0_litBySet_11 t (nI s) kx) (fun i => nI i) (fun j b => Off (tryC t) σ b ∧ RC b 197 (tW T) (restI N s j)) (tW T) kx ?_ ?_ (n := 1000000) (b0 := σ1) ⟨a1.1, a1.2.2.congr rfl rfl rfl rfl (fun v _ => ⟨rfl, restI_G0 N s v, rfl, restI_E0 N s v⟩)⟩ (by omega)
  · obtain ⟨b, ⟨b1, b2⟩, e⟩ := q
    have bw : WC b 127 w := hw.off b1 (fun a ha => by simp only [tryC, List.mem_cons, List.not_mem_nil, or_false] at ha; omega)
    have b3 : RC b 197 (tW T) (restN N s) := b2.congr rfl rfl rfl rfl (fun v hv => by
      refine ⟨rfl, ?_, rfl, ?_⟩
      · show (if s.testBit v = true then nG N v else nB N v) = (if v < tW T ∧ s.testBit v = false then nB N v else nG N v)
        cases s.testBit v <;> simp [hv]
      · show (if s.testBit v = true then nE N v else 0) = (if v < tW T ∧ s.testBit v = false then 0 else nE N v)
        cases s.testBit v <;> simp [hv])
    have ok := restN_ok hN s
    have at0 : At σ t T 0 (restN N s) 0 b := ⟨b1, hc.trd b1, b3⟩
    obtain ⟨M, eM⟩ : ∃ M, M = (fst1 (fun j => !soW w j (bsN T N s j)) 0 (last + 1)).getD (last + 1) := ⟨_, rfl⟩
    have hM : M ≤ last + 1 := by rw [eM]; exact getD_le
    have q2 := lq3_inv (F := F_X0_litBySet_62 t 127 (nI i) (nI last) (fun x τ => some (x, τ))) (fun j => if i < j then nI (bsN T N s i) else 0) (fun j => nI j) (fun j b => At σ t T 0 (restN N s) j b) M (fun b => some ((if okW T N w s then nI (bsN T N s i) else -1), b)) ?_ ?_ (n := 1000000) (b0 := b) at0 (by omega)
    · obtain ⟨c, hc', e'⟩ := q2
      refine ⟨c, e.trans ?_, hc'.1⟩
      rw [ek]
      show cl (f_X10_lastMinute 127 b) _ = _
      rw [cl_of _ (s_lastMinute bw hwk), bn_e, imx_N (by omega) (by omega), ← el, jn_e2]
      exact e'
    · intro rec j c hj h
      have z : soW w j (bsN T N s j) = true := by
        have := getD_lt (p := fun j => !soW w j (bsN T N s j)) (n := last + 1) (by rw [← eM]; exact hj)
        simpa using this
      have cw : WC c 127 w := hw.off h.1 (fun a ha => by simp only [tryC, List.mem_cons, List.not_mem_nil, or_false] at ha; omega)
      have bl := bsN_lt (N := N) hT s j
      have so := s_isSo cw hT hwk (i := j) (b := bsN T N s j) (by omega) (by omega)
      rw [z] at so
      obtain ⟨τ, t1, t2, -, -⟩ := h.pass hT ok LgOk.z
      refine ⟨τ, t2, ?_⟩
      have c1 : ¬ nI last < nI j := nI_nlt (by omega) (by omega)
      have lt : f_X4_litBits 197 t c = some (nI (bsN T N s j), c) := h.lit hT ok
      simp only [F_X0_litBySet_62, if_neg c1, cl_of _ lt, cl_of _ so, if_true, if_neg one0, jn_e, cl_of _ t1, nI_1]
      by_cases e1 : j = i
      · subst e1
        rw [if_pos rfl, if_pos (Nat.lt_succ_self j)]
      · rw [if_neg (fun y => e1 ((nI_eq (by omega) (by omega)).mp y))]
        have : i < j + 1 ↔ i < j := by omega
        simp only [this]
    · intro rec c h
      by_cases c0 : M < last + 1
      · have z : soW w M (bsN T N s M) = false := by
          have := getD_at (p := fun j => !soW w j (bsN T N s j)) (n := last + 1) (by rw [← eM]; exact c0)
          rw [← eM] at this
          simpa using this
        have cw : WC c 127 w := hw.off h.1 (fun a ha => by simp only [tryC, List.mem_cons, List.not_mem_nil, or_false] at ha; omega)
        have bl := bsN_lt (N := N) hT s M
        have so := s_isSo cw hT hwk (i := M) (b := bsN T N s M)

        have M30 : M ≤ 30 := by omega
        have so := so M30 (by omega)
        rw [z] at so
        have c1 : ¬ nI last < nI M := nI_nlt (by omega) (by omega)
        have lt : f_X4_litBits 197 t c = some (nI (bsN T N s M), c) := h.lit hT ok
        have no : okW T N w s = false := by
          cases y : okW T N w s
          · rfl
          · have := (okW_iff (T := T) (N := N) (s := s) (last := last) (by omega)).mp y M c0; rw [z] at this; cases this
        simp only [F_X0_litBySet_62, if_neg c1, cl_of _ lt, cl_of _ so, no]
        rfl
      · have eq : M = last + 1 := by omega
        have yes : okW T N w s = true := (okW_iff (T := T) (N := N) (s := s) (last := last) (by omega)).mpr (fun j hj => by
          have := getD_lt (p := fun j => !soW w j (bsN T N s j)) (n := last + 1) (i := j) (by rw [← eM]; omega)
          simpa using this)
        have c1 : nI last < nI M := nI_lt (by omega) (by omega)
        simp only [F_X0_litBySet_62, if_pos c1, yes, if_true, if_pos (show i < M by omega)]
  · intro rec j b hj h
    have hcb := hc.trd h.1
    have c1 : nI j < gI b t 2 := by rw [hcb.2.2.2.1]; exact nI_lt hj (by omega)
    by_cases z : s.testBit j = false
    · obtain ⟨σ2, l2, r2, o2⟩ := s_bringHome h.2 hW hj
      refine ⟨σ2, ⟨h.1.tr (o2.mono (by simp [tryC])), r2.congr rfl rfl rfl rfl (fun v hv => ?_)⟩, ?_⟩
      · refine ⟨rfl, ?_, rfl, ?_⟩
        · show (if v < j + 1 ∧ s.testBit v = false then nB N v else nG N v) = updF (fun v => if v < j ∧ s.testBit v = false then nB N v else nG N v) j (nB N j) v
          by_cases y : v = j
          · subst y; rw [updF_s, if_pos ⟨Nat.lt_succ_self v, z⟩]
          · rw [updF_n y]
            have : v < j + 1 ↔ v < j := by omega
            simp only [this]
        · show (if v < j + 1 ∧ s.testBit v = false then 0 else nE N v) = updF (fun v => if v < j ∧ s.testBit v = false then 0 else nE N v) j 0 v
          by_cases y : v = j
          · subst y; rw [updF_s, if_pos ⟨Nat.lt_succ_self v, z⟩]
          · rw [updF_n y]
            have : v < j + 1 ↔ v < j := by omega
            simp only [this]
      · simp only [F_X0_litBySet_11, if_pos c1, jn_e, if_pos ((shr_bit0 hs (show j < 31 by omega)).mpr z), cl_of _ l2, nI_1]
    · refine ⟨b, ⟨h.1, h.2.congr rfl rfl rfl rfl (fun v hv => ?_)⟩, ?_⟩
      · refine ⟨rfl, ?_, rfl, ?_⟩
        · show (if v < j + 1 ∧ s.testBit v = false then nB N v else nG N v) = (if v < j ∧ s.testBit v = false then nB N v else nG N v)
          by_cases y : v = j
          · subst y; simp [z]
          · have : v < j + 1 ↔ v < j := by omega
            simp only [this]
        · show (if v < j + 1 ∧ s.testBit v = false then 0 else nE N v) = (if v < j ∧ s.testBit v = false then 0 else nE N v)
          by_cases y : v = j
          · subst y; simp [z]
          · have : v < j + 1 ↔ v < j := by omega
            simp only [this]
      · simp only [F_X0_litBySet_11, if_pos c1, jn_e, if_neg (fun y => z ((shr_bit0 hs (show j < 31 by omega)).mp y)), nI_1]
  · intro rec b h
    have hcb := hc.trd h.1
    have c1 : ¬ nI (tW T) < gI b t 2 := by rw [hcb.2.2.2.1]; exact nI_nlt (Nat.le_refl _) (by omega)
    simp only [F_X0_litBySet_11, if_neg c1]
