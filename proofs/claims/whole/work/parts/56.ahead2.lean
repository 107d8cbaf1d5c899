theorem lq1_inv {α ω : Type} {F : (α → Option ω) → α → Option ω} (P : Nat → α → Prop) (M : Nat) (kx : α → Option ω) (hs : ∀ rec i b, i < M → P i b → ∃ b', P (i + 1) b' ∧ F rec b = rec b') (hx : ∀ rec b, P M b → F rec b = kx b) {n : Nat} {b0 : α} (h0 : P 0 b0) (hn : M < n) : ∃ b, P M b ∧ lq1 F n b0 = kx b := by
  have key : ∀ d i n b, i + d = M → d < n → P i b → ∃ b', P M b' ∧ lq1 F n b = kx b' := by
    intro d
    induction d with
    | zero =>
      intro i n b hi hn hp
      obtain ⟨n, rfl⟩ : ∃ k, n = k + 1 := ⟨n - 1, by omega⟩
      have : i = M := by omega
      subst this
      exact ⟨b, hp, hx _ b hp⟩
    | succ d ih =>
      intro i n b hi hn hp
      obtain ⟨n, rfl⟩ : ∃ k, n = k + 1 := ⟨n - 1, by omega⟩
      obtain ⟨b', hp', e⟩ := hs (lq1 F n) i b (by omega) hp
      obtain ⟨b2, hp2, e2⟩ := ih (i + 1) n b' (by omega) (by omega) hp'
      exact ⟨b2, hp2, e.trans e2⟩
  exact key M 0 n b0 (by omega) hn h0
theorem lq4_inv {α β γ δ ω : Type} {F : (α → β → γ → δ → Option ω) → α → β → γ → δ → Option ω} (s1 : Nat → α) (s2 : Nat → β) (s3 : Nat → γ) (P : Nat → δ → Prop) (M : Nat) (kx : δ → Option ω) (hs : ∀ rec i b, i < M → P i b → ∃ b', P (i + 1) b' ∧ F rec (s1 i) (s2 i) (s3 i) b = rec (s1 (i + 1)) (s2 (i + 1)) (s3 (i + 1)) b') (hx : ∀ rec b, P M b → F rec (s1 M) (s2 M) (s3 M) b = kx b) {n : Nat} {b0 : δ} (h0 : P 0 b0) (hn : M < n) : ∃ b, P M b ∧ lq4 F n (s1 0) (s2 0) (s3 0) b0 = kx b := by
  have key : ∀ d i n b, i + d = M → d < n → P i b → ∃ b', P M b' ∧ lq4 F n (s1 i) (s2 i) (s3 i) b = kx b' := by
    intro d
    induction d with
    | zero =>
      intro i n b hi hn hp
      obtain ⟨n, rfl⟩ : ∃ k, n = k + 1 := ⟨n - 1, by omega⟩
      have : i = M := by omega
      subst this
      exact ⟨b, hp, hx _ b hp⟩
    | succ d ih =>
      intro i n b hi hn hp
      obtain ⟨n, rfl⟩ : ∃ k, n = k + 1 := ⟨n - 1, by omega⟩
      obtain ⟨b', hp', e⟩ := hs (lq4 F n) i b (by omega) hp
      obtain ⟨b2, hp2, e2⟩ := ih (i + 1) n b' (by omega) (by omega) hp'
      exact ⟨b2, hp2, e.trans e2⟩
  exact key M 0 n b0 (by omega) hn h0
theorem lq5_inv {α β γ δ ε ω : Type} {F : (α → β → γ → δ → ε → Option ω) → α → β → γ → δ → ε → Option ω} (s1 : Nat → α) (s2 : Nat → β) (s3 : Nat → γ) (s4 : Nat → δ) (P : Nat → ε → Prop) (M : Nat) (kx : ε → Option ω) (hs : ∀ rec i b, i < M → P i b → ∃ b', P (i + 1) b' ∧ F rec (s1 i) (s2 i) (s3 i) (s4 i) b = rec (s1 (i + 1)) (s2 (i + 1)) (s3 (i + 1)) (s4 (i + 1)) b') (hx : ∀ rec b, P M b → F rec (s1 M) (s2 M) (s3 M) (s4 M) b = kx b) {n : Nat} {b0 : ε} (h0 : P 0 b0) (hn : M < n) : ∃ b, P M b ∧ lq5 F n (s1 0) (s2 0) (s3 0) (s4 0) b0 = kx b := by
  have key : ∀ d i n b, i + d = M → d < n → P i b → ∃ b', P M b' ∧ lq5 F n (s1 i) (s2 i) (s3 i) (s4 i) b = kx b' := by
    intro d
    induction d with
    | zero =>
      intro i n b hi hn hp
      obtain ⟨n, rfl⟩ : ∃ k, n = k + 1 := ⟨n - 1, by omega⟩
      have : i = M := by omega
      subst this
      exact ⟨b, hp, hx _ b hp⟩
    | succ d ih =>
      intro i n b hi hn hp
      obtain ⟨n, rfl⟩ : ∃ k, n = k + 1 := ⟨n - 1, by omega⟩
      obtain ⟨b', hp', e⟩ := hs (lq5 F n) i b (by omega) hp
      obtain ⟨b2, hp2, e2⟩ := ih (i + 1) n b' (by omega) (by omega) hp'
      exact ⟨b2, hp2, e.trans e2⟩
  exact key M 0 n b0 (by omega) hn h0
theorem lq6_inv {α β γ δ ε ζ ω : Type} {F : (α → β → γ → δ → ε → ζ → Option ω) → α → β → γ → δ → ε → ζ → Option ω} (s1 : Nat → α) (s2 : Nat → β) (s3 : Nat → γ) (s4 : Nat → δ) (s5 : Nat → ε) (P : Nat → ζ → Prop) (M : Nat) (kx : ζ → Option ω) (hs : ∀ rec i b, i < M → P i b → ∃ b', P (i + 1) b' ∧ F rec (s1 i) (s2 i) (s3 i) (s4 i) (s5 i) b = rec (s1 (i + 1)) (s2 (i + 1)) (s3 (i + 1)) (s4 (i + 1)) (s5 (i + 1)) b') (hx : ∀ rec b, P M b → F rec (s1 M) (s2 M) (s3 M) (s4 M) (s5 M) b = kx b) {n : Nat} {b0 : ζ} (h0 : P 0 b0) (hn : M < n) : ∃ b, P M b ∧ lq6 F n (s1 0) (s2 0) (s3 0) (s4 0) (s5 0) b0 = kx b := by
  have key : ∀ d i n b, i + d = M → d < n → P i b → ∃ b', P M b' ∧ lq6 F n (s1 i) (s2 i) (s3 i) (s4 i) (s5 i) b = kx b' := by
    intro d
    induction d with
    | zero =>
      intro i n b hi hn hp
      obtain ⟨n, rfl⟩ : ∃ k, n = k + 1 := ⟨n - 1, by omega⟩
      have : i = M := by omega
      subst this
      exact ⟨b, hp, hx _ b hp⟩
    | succ d ih =>
      intro i n b hi hn hp
      obtain ⟨n, rfl⟩ : ∃ k, n = k + 1 := ⟨n - 1, by omega⟩
      obtain ⟨b', hp', e⟩ := hs (lq6 F n) i b (by omega) hp
      obtain ⟨b2, hp2, e2⟩ := ih (i + 1) n b' (by omega) (by omega) hp'
      exact ⟨b2, hp2, e.trans e2⟩
  exact key M 0 n b0 (by omega) hn h0
theorem At.home0 {σ b : Mm} {t : Nat} {T : Tw} {lg : Int32} {N : Nt} {i : Nat} (h : At σ t T lg N i b) (hT : TwOk T) (hN : NtOk T N) (hi : i < tkN T lg N) : f_X4_isAllHome 197 t b = some (0, b) := by
  rw [h.home hT hN, tkN_lt hi]; rfl
theorem At.home1 {σ b : Mm} {t : Nat} {T : Tw} {lg : Int32} {N : Nt} (h : At σ t T lg N (tkN T lg N) b) (hT : TwOk T) (hN : NtOk T N) (hi : tkN T lg N < 99) : f_X4_isAllHome 197 t b = some (1, b) := by
  rw [h.home hT hN, tkN_at hi]; rfl
theorem i99 {i : Nat} (h : i < 99) : nI i < 99 := nI_lt (a := i) (b := 99) h (by omega)
theorem n99 {i : Nat} (h : 99 ≤ i) (h2 : i < 2147483648) : ¬ nI i < 99 := fun z => by have := (nI_ltI (a := i) (b := 99) h2 (by omega)).mp z; omega
theorem itN_T (T : Tw) (lg : Int32) (N : Nt) : ∀ i, nT (itN T lg N i) = nT N + nI i
  | 0 => by show nT N = nT N + nI 0; rw [show nI 0 = (0 : Int32) from rfl]; simp
  | i + 1 => by
    show nT (itN T lg N i) + 1 = _
    rw [itN_T T lg N i, Int32.add_assoc, nI_1]
theorem itN_dt (T : Tw) (lg : Int32) (N : Nt) (i : Nat) : nT (itN T lg N i) - nT N = nI i := by
  rw [itN_T, Int32.add_comm, Int32.add_sub_cancel]
theorem bit_dk {p : Nat → Bool} {n w : Nat} (hn : n ≤ 8) (hw : w < n) : (nI (bts p n) >>> (nI w &&& 31)) &&& 1 = nI (p w).toNat := by
  have l : bts p n < 2 ^ 8 := Nat.lt_of_lt_of_le (bts_lt _ _) (Nat.pow_le_pow_right (by decide) hn)
  rw [shr_bit (by omega) (by omega)]
  have := tb_div (bts p n) w
  rw [bts_bit p hw] at this
  cases e : p w
  · rw [e] at this
    have := of_decide_eq_false this.symm
    congr 1
    show _ = 0
    omega
  · rw [e] at this
    have := of_decide_eq_true this.symm
    congr 1
theorem s_darkTimesOf {σ : Mm} {t m : Nat} {T : Tw} {N : Nt} (hc : TC σ t T) (hT : TwOk T) (hm : (197 : Nat) ≠ m) (r : RC σ m (tW T) N) (hN : NtOk T N) {w : Nat} (hw : w < tW T) :
    ∃ τ, f_X0_darkTimesOf t m (nI w) σ = some (nI (sm (fun i => (dkN T (itN T 0 N i) w).toNat) (tkN T 0 N)), τ) ∧ Off (tryC t) σ τ := by
  have hle := tkN_le T 0 N
  have hW := hT.2.2.1
  obtain ⟨σ1, l1, a1⟩ := At.first (N := N) 0 hc hT hm r
  unfold f_X0_darkTimesOf
  rw [ck_t hc.1, ck_t r.1, cl_of _ l1, jn_e2]
  have q := lq3_inv (F := F_X0_darkTimesOf_14 t (nI w) (fun x τ => some (x, τ))) (fun i => nI (sm (fun i => (dkN T (itN T 0 N i) w).toNat) i)) (fun i => nI i) (fun i b => At σ t T 0 N i b) (tkN T 0 N) (fun b => some (nI (sm (fun i => (dkN T (itN T 0 N i) w).toNat) (tkN T 0 N)), b)) ?_ ?_ (n := 1000000) (b0 := σ1) a1 (by omega)
  · obtain ⟨b, hb, e⟩ := q
    exact ⟨b, e, hb.1⟩
  · intro rec i b hi hb
    obtain ⟨τ, t1, t2, t3, -⟩ := hb.pass hT hN LgOk.z
    refine ⟨τ, t2, ?_⟩
    simp only [F_X0_darkTimesOf_14, if_pos (i99 (show i < 99 by omega)), cl_of _ (hb.home0 hT hN hi), if_true, cl_of _ t1, t3, bit_dk (show tW T ≤ 8 by omega) hw, bn_e, nI_add, nI_1]
    rfl
  · intro rec b hb
    by_cases c : tkN T 0 N < 99
    · simp only [F_X0_darkTimesOf_14, if_pos (i99 c), cl_of _ (hb.home1 hT hN c), show ¬ (1 : Int32) = 0 by decide, if_false]
    · simp only [F_X0_darkTimesOf_14, if_neg (n99 (show 99 ≤ tkN T 0 N by omega) (by omega))]
theorem s_litBehind {σ : Mm} {t m : Nat} {T : Tw} {N : Nt} (hc : TC σ t T) (hT : TwOk T) (hm : (197 : Nat) ≠ m) (r : RC σ m (tW T) N) (hN : NtOk T N) {k : Nat} (hk : k < tL T) {M : Nat} (hM : M ≤ 99) :
    ∃ τ, f_X0_litBehind t m (nI k) (nI M) σ = some (nI (nL (itN T 0 N M) k), τ) ∧ Off (tryC t) σ τ := by
  have hL := hT.2.1
  obtain ⟨σ1, l1, a1⟩ := At.first (N := N) 0 hc hT hm r
  unfold f_X0_litBehind
  rw [ck_t hc.1, ck_t r.1, cl_of _ l1, jn_e2]
  have q := lq2_inv (F := F_X0_litBehind_11 t (nI M) (fun σ_33 => ck (inb (nI k) 8) (some ((gI σ_33 198 (nI k).toNatClampNeg), σ_33)))) (fun i => nI i) (fun i b => At σ t T 0 N i b) M (fun σ_33 => ck (inb (nI k) 8) (some ((gI σ_33 198 (nI k).toNatClampNeg), σ_33))) ?_ ?_ (n := 1000000) (b0 := σ1) a1 (by omega)
  · obtain ⟨b, hb, e⟩ := q
    refine ⟨b, ?_, hb.1⟩
    refine e.trans ?_
    rw [ck_t (inb_nI (show k < 8 by omega) (by omega)), nI_tn (show k < 2147483648 by omega), hb.2.2.2.2.2.2.1 k (by omega)]
  · intro rec i b hi hb
    obtain ⟨τ, t1, t2, -, -⟩ := hb.pass hT hN LgOk.z
    refine ⟨τ, t2, ?_⟩
    simp only [F_X0_litBehind_11, if_pos (nI_lt hi (show M < 2147483648 by omega)), cl_of _ t1, nI_1]
  · intro rec b hb
    simp only [F_X0_litBehind_11, if_neg (nI_nlt (Nat.le_refl M) (show M < 2147483648 by omega))]
def amax (f : Nat → Nat) : Nat → Nat
  | 0 => 0
  | i + 1 => if f (amax f i) < f (i + 1) then i + 1 else amax f i
theorem s_brightest {σ : Mm} {t m : Nat} {T : Tw} {N : Nt} (hc : TC σ t T) (hT : TwOk T) (hm : (197 : Nat) ≠ m) (r : RC σ m (tW T) N) (hN : NtOk T N) :
    ∃ τ, f_X0_brightest t m σ = some (nI (amax (fun i => cnt (brN (itN T 0 N i)) (tL T)) (tkN T 0 N)), τ) ∧ Off (tryC t) σ τ := by
  have hle := tkN_le T 0 N
  have hL := hT.2.1
  obtain ⟨σ1, l1, a1⟩ := At.first (N := N) 0 hc hT hm r
  unfold f_X0_brightest
  rw [ck_t hc.1, ck_t r.1, cl_of _ l1, cl_of _ (a1.lit hT hN), cl_of _ (cnt_brI hT σ1), jn_e2]
  obtain ⟨f, ef⟩ : ∃ f, f = (fun i => cnt (brN (itN T 0 N i)) (tL T)) := ⟨_, rfl⟩
  have fi : ∀ i, cnt (brN (itN T 0 N i)) (tL T) = f i := fun i => by rw [ef]
  have f8 : ∀ i, f i ≤ 8 := fun i => by rw [← fi]; exact Nat.le_trans (cnt_le _ _) hL
  rw [← ef, fi 0]
  have q := lq4_inv (F := F_X0_brightest_26 t (fun x τ => some (x, τ))) (fun i => nI (f (amax f i))) (fun i => nI (amax f i)) (fun i => nI i) (fun i b => At σ t T 0 N i b) (tkN T 0 N) (fun b => some (nI (amax f (tkN T 0 N)), b)) ?_ ?_ (n := 1000000) (b0 := σ1) a1 (by omega)
  · obtain ⟨b, hb, e⟩ := q
    exact ⟨b, e, hb.1⟩
  · intro rec i b hi hb
    obtain ⟨τ, t1, t2, -, -⟩ := hb.pass hT hN LgOk.z
    refine ⟨τ, t2, ?_⟩
    simp only [F_X0_brightest_26, if_pos (i99 (show i < 99 by omega)), cl_of _ (hb.home0 hT hN hi), if_true, cl_of _ t1, cl_of _ (t2.lit hT hN), cl_of _ (cnt_brI hT τ), fi, jn_e, bn_e, nI_1, amax]
    have b1 := f8 (amax f i)
    have b2 := f8 (i + 1)
    by_cases c : f (amax f i) < f (i + 1)
    · rw [if_pos (nI_lt c (by omega)), if_pos c]
    · rw [if_neg (fun z => c ((nI_ltI (by omega) (by omega)).mp z)), if_neg c]
  · intro rec b hb
    by_cases c : tkN T 0 N < 99
    · simp only [F_X0_brightest_26, if_pos (i99 c), cl_of _ (hb.home1 hT hN c), show ¬ (1 : Int32) = 0 by decide, if_false]
    · simp only [F_X0_brightest_26, if_neg (n99 (show 99 ≤ tkN T 0 N by omega) (by omega))]
