/-! who should wait -/
def bsW (T : Tw) (N : Nt) (w : Nat) : Nat := if homeN T N w then 1 else 3
def RW (T : Tw) (N : Nt) : Nat → Nat
  | 0 => 1
  | d + 1 => bsW T N (tW T - (d + 1)) * RW T N d
theorem bsW_pos (T : Tw) (N : Nt) (w : Nat) : 0 < bsW T N w ∧ bsW T N w ≤ 3 := by unfold bsW; split <;> omega
theorem RW_pos (T : Tw) (N : Nt) : ∀ d, 0 < RW T N d
  | 0 => Nat.one_pos
  | d + 1 => Nat.mul_pos (bsW_pos T N _).1 (RW_pos T N d)
theorem RW_le (T : Tw) (N : Nt) : ∀ d, RW T N d ≤ 3 ^ d
  | 0 => Nat.le_refl _
  | d + 1 => by
    rw [Nat.pow_succ, Nat.mul_comm]
    exact Nat.mul_le_mul (bsW_pos T N _).2 (RW_le T N d)
theorem RW_729 {T : Tw} (hT : TwOk T) (N : Nt) : RW T N (tW T) ≤ 729 := Nat.le_trans (RW_le T N _) (Nat.pow_le_pow_right (by decide) hT.2.2.1)
def digN (T : Tw) (N : Nt) (r w : Nat) : Nat := (r / RW T N (tW T - (w + 1))) % bsW T N w
theorem digN_lt (T : Tw) (N : Nt) (r w : Nat) : digN T N r w < 3 := by
  have h := bsW_pos T N w
  have := Nat.mod_lt (r / RW T N (tW T - (w + 1))) h.1
  unfold digN
  omega
def pon (m s : Int32) : Nat → Int32
  | 0 => s
  | k + 1 => imx (pon m s k) m + 1
def wtN (N : Nt) (ks : Nat → Nat) : Nt := ((nT N, nP N, nD N), nL N, nB N, nG N, fun w => pon (nT N) (nS N w) (ks w), nE N)
theorem wtN_ok {T : Tw} {N : Nt} (h : NtOk T N) (ks : Nat → Nat) : NtOk T (wtN N ks) := h
def dkD (T : Tw) (N : Nt) (r : Nat) : Nat := dsN T 0 (wtN N (digN T N r)) (tkN T 0 (wtN N (digN T N r)))
def wtD (T : Tw) (N : Nt) (r : Nat) : Nat := sm (digN T N r) (tW T)
theorem dkD_le {T : Tw} (hT : TwOk T) (N : Nt) (r : Nat) : dkD T N r ≤ 594 := by
  have h1 := dsN_le T 0 (wtN N (digN T N r)) hT.2.2.1 (tkN T 0 (wtN N (digN T N r)))
  have h2 := tkN_le T 0 (wtN N (digN T N r))
  unfold dkD
  omega
theorem sm_le {f : Nat → Nat} {m : Nat} (h : ∀ i, f i ≤ m) : ∀ n, sm f n ≤ m * n
  | 0 => Nat.zero_le _
  | n + 1 => by
    have h1 := sm_le h n
    have h2 := h n
    show sm f n + f n ≤ m * (n + 1)
    rw [Nat.mul_succ]; omega
theorem wtD_le {T : Tw} (hT : TwOk T) (N : Nt) (r : Nat) : wtD T N r ≤ 12 := by
  have := sm_le (f := digN T N r) (m := 2) (fun i => by have := digN_lt T N r i; omega) (tW T)
  have hW := hT.2.2.1
  unfold wtD
  omega
theorem sm_congr {f g : Nat → Nat} : ∀ {n}, (∀ i, i < n → f i = g i) → sm f n = sm g n
  | 0, _ => rfl
  | n + 1, h => by
    show sm f n + f n = sm g n + g n
    rw [sm_congr (fun i hi => h i (by omega)), h n (by omega)]
theorem sm_first (f : Nat → Nat) : ∀ n, sm f (n + 1) = f 0 + sm (fun j => f (j + 1)) n
  | 0 => by show 0 + f 0 = f 0 + 0; omega
  | n + 1 => by
    show sm f (n + 1) + f (n + 1) = f 0 + (sm (fun j => f (j + 1)) n + f (n + 1))
    rw [sm_first f n]; omega
theorem sm_rev : ∀ (n : Nat) (f : Nat → Nat), sm (fun j => f (n - 1 - j)) n = sm f n
  | 0, _ => rfl
  | n + 1, f => by
    show sm (fun j => f (n + 1 - 1 - j)) n + f (n + 1 - 1 - n) = _
    rw [sm_first f n, show n + 1 - 1 - n = 0 by omega]
    have e : sm (fun j => f (n + 1 - 1 - j)) n = sm (fun j => f (n - 1 - j + 1)) n := sm_congr (fun i hi => by congr 1; omega)
    rw [e, sm_rev n (fun j => f (j + 1))]
    omega
/-- the best of the first rows -/
def bsD (dk wt : Nat → Nat) : Nat → Option Nat
  | 0 => none
  | n + 1 => match bsD dk wt n with
    | none => some n
    | some b => if dk n < dk b ∨ (dk n = dk b ∧ wt n < wt b) then some n else some b
theorem bsD_some (dk wt : Nat → Nat) {n : Nat} (h : 0 < n) : ∃ b, bsD dk wt n = some b := by
  obtain ⟨n, rfl⟩ : ∃ k, n = k + 1 := ⟨n - 1, by omega⟩
  unfold bsD
  cases bsD dk wt n with
  | none => exact ⟨_, rfl⟩
  | some b => simp only []; split <;> exact ⟨_, rfl⟩
theorem bsD_lt (dk wt : Nat → Nat) : ∀ {n b : Nat}, bsD dk wt n = some b → b < n
  | 0, b, h => by cases h
  | n + 1, b, h => by
    unfold bsD at h
    cases e : bsD dk wt n with
    | none => rw [e] at h; cases h; omega
    | some c =>
      have := bsD_lt dk wt e
      rw [e] at h
      simp only [] at h
      split at h <;> cases h <;> omega
/-! in the class -/
theorem irm3N {a : Nat} (h : a < 2147483648) : irm (nI a) 3 = nI (a % 3) := by
  unfold irm
  exact pk_rem (d := 3) h (by decide) (by decide)
theorem div3N {a : Nat} (h : a < 2147483648) : nI a / 3 = nI (a / 3) := pk_div (d := 3) h (by decide) (by decide)
theorem s_layRow {σ : Mm} {t : Nat} {T : Tw} {N : Nt} (hc : TC σ t T) (hT : TwOk T) {r : Nat} (hr : r < 2147483648) :
    ∃ τ, f_X0_layRow t (nI (bts (homeN T N) (tW T))) (nI r) σ = some (nI (wtD T N r), τ) ∧ Off [204] σ τ ∧ ∀ w, w < tW T → gI τ 204 w = nI (digN T N r w) := by
  have hW := hT.2.2.1
  unfold f_X0_layRow
  rw [ck_t hc.1, bn_e, hc.2.2.2.1, jn_e2]
  obtain ⟨W, eW⟩ : ∃ W, W = tW T := ⟨_, rfl⟩
  rw [← eW] at hW ⊢
  have ix : ∀ i, i < W → nI (W - i) - 1 = nI (W - 1 - i) := fun i hi => by rw [nI_dec (by omega)]; congr 1; omega
  have q := lq4_inv (F := F_X0_layRow_14 (nI (bts (homeN T N) W)) (fun x τ => some (x, τ))) (fun i => nI (r / RW T N i)) (fun i => nI (sm (fun j => digN T N r (W - 1 - j)) i)) (fun i => nI (W - i) - 1) (fun i b => Off [204] σ b ∧ ∀ w, W - i ≤ w → w < W → gI b 204 w = nI (digN T N r w)) W (fun b => some (nI (sm (fun j => digN T N r (W - 1 - j)) W), b)) ?_ ?_ (n := 1000000) (b0 := σ) ⟨Off.rf, fun w h1 h2 => absurd h1 (by omega)⟩ (by omega)
  · obtain ⟨b, ⟨b1, b2⟩, e⟩ := q
    refine ⟨b, ?_, b1, fun w hw => b2 w (by omega) hw⟩
    have e : lq4 (F_X0_layRow_14 (nI (bts (homeN T N) W)) (fun x τ => some (x, τ))) 1000000 (nI (r / 1)) 0 (nI W - 1) σ = _ := e
    rw [Nat.div_one] at e
    rw [e]
    unfold wtD
    rw [← eW, sm_rev]
  · intro rec i b hi hb
    have i1 := ix i hi
    have i2 : nI (W - 1 - i) + (-1) = nI (W - (i + 1)) - 1 := by rw [← Int32.sub_eq_add_neg]; congr 2; omega
    obtain ⟨w, ew⟩ : ∃ w, w = W - 1 - i := ⟨_, rfl⟩
    have wl : w < W := by omega
    have np : ¬ nI w < 0 := nI_pos (by omega)
    have lt : bts (homeN T N) W < 2147483648 := Nat.lt_of_lt_of_le (bts_lt _ _) (Nat.le_trans (Nat.pow_le_pow_right (by decide) hW) (by decide))
    have sb := shr_bit0 lt (show w < 31 by omega)
    rw [bts_bit _ wl] at sb
    have dr : r / RW T N i ≤ r := Nat.div_le_self _ _
    have dg : digN T N r w = (r / RW T N i) % bsW T N w := by unfold digN; rw [← eW, show W - (w + 1) = i by omega]
    have nx : r / RW T N (i + 1) = r / RW T N i / bsW T N w := by
      show r / (bsW T N (tW T - (i + 1)) * RW T N i) = _
      rw [← eW, show W - (i + 1) = w by omega, Nat.div_div_eq_div_mul, Nat.mul_comm]
    have sn : sm (fun j => digN T N r (W - 1 - j)) (i + 1) = sm (fun j => digN T N r (W - 1 - j)) i + digN T N r w := by rw [ew]; rfl
    rw [i1, nx, sn]
    rw [← ew] at i2 ⊢
    refine ⟨pI (pI b 204 w 0) 204 w (nI (digN T N r w)), ⟨hb.1.tr ((Off.pI (by simp)).tr (Off.pI (by simp))), fun u h1 h2 => ?_⟩, ?_⟩
    · by_cases z : u = w
      · subst z; rw [gI_pI_s]
      · rw [gI_pI_n (Or.inr z), gI_pI_n (Or.inr z)]; exact hb.2 u (by omega) h2
    · simp only [F_X0_layRow_14, if_neg np, ck_t (inb_nI (show w < 6 by omega) (by omega)), nI_tn (show w < 2147483648 by omega), bn_e, jn_e, irm3N (show r / RW T N i < 2147483648 by omega), div3N (show r / RW T N i < 2147483648 by omega), i2]
      cases e : homeN T N w
      · rw [e] at sb
        have bw : bsW T N w = 3 := by unfold bsW; rw [e]; rfl
        rw [bw] at dg
        rw [if_pos (sb.mpr rfl), gI_pI_s, dg, bw, nI_add]
      · rw [e] at sb
        have bw : bsW T N w = 1 := by unfold bsW; rw [e]; rfl
        rw [bw, Nat.mod_one] at dg
        have ee : pI (pI b 204 w 0) 204 w (nI 0) = pI b 204 w 0 := pI_2 b 204 w 0 (nI 0)
        rw [if_neg (fun z => by have := sb.mp z; cases this), gI_pI_s, dg, bw, Nat.div_one, Nat.add_zero, ee]
        simp
  · intro rec b hb
    have z : nI (W - W) - 1 < 0 := by rw [Nat.sub_self]; decide
    simp only [F_X0_layRow_14, if_pos z]
def wtF (ks : Nat → Nat) (w k : Nat) : Nat → Nat := fun v => if v < w then ks v else if v = w then k else 0
theorem s_try50 {σ : Mm} {T : Tw} {N : Nt} {ks : Nat → Nat} {w : Nat} (hT : TwOk T) (hw : w < tW T) (hk : ks w < 3) (r : RC σ 197 (tW T) (wtN N (wtF ks w 0))) (h4 : gI σ 204 w = nI (ks w)) (kx : Mm → Option (Int32 × Mm)) :
    ∃ τ, lq2 (F_X0_tryRow_50 (nI w) kx) 1000000 (0 : Int32) σ = kx τ ∧ RC τ 197 (tW T) (wtN N (wtF ks (w + 1) 0)) ∧ Off [201] σ τ := by
  have hW := hT.2.2.1
  have q := lq2_inv (F := F_X0_tryRow_50 (nI w) kx) (fun i => nI i) (fun i b => Off [201] σ b ∧ RC b 197 (tW T) (wtN N (wtF ks w i))) (ks w) kx ?_ ?_ (n := 1000000) (b0 := σ) ⟨Off.rf, r⟩ (by omega)
  · obtain ⟨b, ⟨b1, b2⟩, e⟩ := q
    refine ⟨b, e, b2.congr rfl rfl rfl rfl (fun v _ => ⟨rfl, rfl, ?_, rfl⟩), b1⟩
    show pon (nT N) (nS N v) (wtF ks (w + 1) 0 v) = pon (nT N) (nS N v) (wtF ks w (ks w) v)
    congr 1
    unfold wtF
    by_cases z : v < w
    · rw [if_pos (by omega), if_pos z]
    · by_cases y : v = w
      · subst y; rw [if_pos (Nat.lt_succ_self v), if_neg z, if_pos rfl]
      · rw [if_neg (by omega), if_neg z, if_neg y]
        split <;> rfl
  · intro rec i b hi hb
    have c1 : nI i < gI b 204 w := by rw [hb.1.1 204 (by simp), h4]; exact nI_lt hi (by omega)
    obtain ⟨τ, t1, t2, t3⟩ := s_putOff hb.2 hW hw
    refine ⟨τ, ⟨hb.1.tr t3, t2.congr rfl rfl rfl rfl (fun v _ => ⟨rfl, rfl, ?_, rfl⟩)⟩, ?_⟩
    · show pon (nT N) (nS N v) (wtF ks w (i + 1) v) = updF (fun v => pon (nT N) (nS N v) (wtF ks w i v)) w (imx (pon (nT N) (nS N w) (wtF ks w i w)) (nT N) + 1) v
      by_cases y : v = w
      · subst y
        rw [updF_s]
        have e1 : wtF ks v (i + 1) v = i + 1 := by unfold wtF; rw [if_neg (Nat.lt_irrefl v), if_pos rfl]
        have e2 : wtF ks v i v = i := by unfold wtF; rw [if_neg (Nat.lt_irrefl v), if_pos rfl]
        rw [e1, e2]; rfl
      · rw [updF_n y]
        congr 1
        unfold wtF
        rw [if_neg y, if_neg y]
    · simp only [F_X0_tryRow_50, ck_t (inb_nI (show w < 6 by omega) (by omega)), nI_tn (show w < 2147483648 by omega), if_pos c1, cl_of _ t1, nI_1]
  · intro rec b hb
    have c1 : ¬ nI (ks w) < gI b 204 w := by rw [hb.1.1 204 (by simp), h4]; exact nI_nlt (Nat.le_refl _) (by omega)
    simp only [F_X0_tryRow_50, ck_t (inb_nI (show w < 6 by omega) (by omega)), nI_tn (show w < 2147483648 by omega), if_neg c1]
theorem s_try38 {σ : Mm} {t : Nat} {T : Tw} {N : Nt} {ks : Nat → Nat} (hc : TC σ t T) (hT : TwOk T) (hk : ∀ w, ks w < 3) (r : RC σ 197 (tW T) N) (h4 : ∀ w, w < tW T → gI σ 204 w = nI (ks w)) (kx : Mm → Option (Int32 × Mm)) :
    ∃ τ, lq2 (F_X0_tryRow_38 t kx) 1000000 (0 : Int32) σ = kx τ ∧ RC τ 197 (tW T) (wtN N ks) ∧ Off [201] σ τ := by
  have hW := hT.2.2.1
  have tn := town_night hc.1 n197
  have w0 : RC σ 197 (tW T) (wtN N (wtF ks 0 0)) := r.congr rfl rfl rfl rfl (fun v _ => ⟨rfl, rfl, by
    show pon (nT N) (nS N v) (wtF ks 0 0 v) = nS N v
    have : wtF ks 0 0 v = 0 := by unfold wtF; rw [if_neg (Nat.not_lt_zero v)]; split <;> rfl
    rw [this]; rfl, rfl⟩)
  have q := lq2_inv (F := F_X0_tryRow_38 t kx) (fun i => nI i) (fun i b => Off [201] σ b ∧ RC b 197 (tW T) (wtN N (wtF ks i 0))) (tW T) kx ?_ ?_ (n := 1000000) (b0 := σ) ⟨Off.rf, w0⟩ (by omega)
  · obtain ⟨b, ⟨b1, b2⟩, e⟩ := q
    refine ⟨b, e, b2.congr rfl rfl rfl rfl (fun v hv => ⟨rfl, rfl, ?_, rfl⟩), b1⟩
    show pon (nT N) (nS N v) (ks v) = pon (nT N) (nS N v) (wtF ks (tW T) 0 v)
    unfold wtF
    rw [if_pos hv]
  · intro rec i b hi hb
    have c1 : nI i < gI b t 2 := by rw [hb.1.1 t (by simp; omega), hc.2.2.2.1]; exact nI_lt hi (by omega)
    obtain ⟨τ, t1, t2, t3⟩ := s_try50 hT hi (hk i) hb.2 (by rw [hb.1.1 204 (by simp)]; exact h4 i hi) (fun σ_77 => rec (nI i + 1) σ_77)
    refine ⟨τ, ⟨hb.1.tr t3, t2⟩, ?_⟩
    simp only [F_X0_tryRow_38, if_pos c1, jn_e2]
    rw [t1, nI_1]
  · intro rec b hb
    have c1 : ¬ nI (tW T) < gI b t 2 := by rw [hb.1.1 t (by simp; omega), hc.2.2.2.1]; exact nI_nlt (Nat.le_refl _) (by omega)
    simp only [F_X0_tryRow_38, if_neg c1]
