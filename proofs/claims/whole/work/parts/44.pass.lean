/-! loops with a state that is known by its properties -/
theorem lq2_inv {α β ω : Type} {F : (α → β → Option ω) → α → β → Option ω} (s1 : Nat → α) (P : Nat → β → Prop) (M : Nat) (kx : β → Option ω) (hs : ∀ rec i b, i < M → P i b → ∃ b', P (i + 1) b' ∧ F rec (s1 i) b = rec (s1 (i + 1)) b') (hx : ∀ rec b, P M b → F rec (s1 M) b = kx b) {n : Nat} {b0 : β} (h0 : P 0 b0) (hn : M < n) : ∃ b, P M b ∧ lq2 F n (s1 0) b0 = kx b := by
  have key : ∀ d i n b, i + d = M → d < n → P i b → ∃ b', P M b' ∧ lq2 F n (s1 i) b = kx b' := by
    intro d
    induction d with
    | zero =>
      intro i n b hi hn hp
      obtain ⟨n, rfl⟩ : ∃ k, n = k + 1 := ⟨n - 1, by omega⟩
      have : i = M := by omega
      subst this
      exact ⟨b, hp, hx _ b hp⟩
    | succ d ih =>
      intro i n b hi hn hp
      obtain ⟨n, rfl⟩ : ∃ k, n = k + 1 := ⟨n - 1, by omega⟩
      obtain ⟨b', hp', e⟩ := hs (lq2 F n) i b (by omega) hp
      obtain ⟨b2, hp2, e2⟩ := ih (i + 1) n b' (by omega) (by omega) hp'
      exact ⟨b2, hp2, e.trans e2⟩
  exact key M 0 n b0 (by omega) hn h0
theorem lq3_inv {α β γ ω : Type} {F : (α → β → γ → Option ω) → α → β → γ → Option ω} (s1 : Nat → α) (s2 : Nat → β) (P : Nat → γ → Prop) (M : Nat) (kx : γ → Option ω) (hs : ∀ rec i b, i < M → P i b → ∃ b', P (i + 1) b' ∧ F rec (s1 i) (s2 i) b = rec (s1 (i + 1)) (s2 (i + 1)) b') (hx : ∀ rec b, P M b → F rec (s1 M) (s2 M) b = kx b) {n : Nat} {b0 : γ} (h0 : P 0 b0) (hn : M < n) : ∃ b, P M b ∧ lq3 F n (s1 0) (s2 0) b0 = kx b := by
  have key : ∀ d i n b, i + d = M → d < n → P i b → ∃ b', P M b' ∧ lq3 F n (s1 i) (s2 i) b = kx b' := by
    intro d
    induction d with
    | zero =>
      intro i n b hi hn hp
      obtain ⟨n, rfl⟩ : ∃ k, n = k + 1 := ⟨n - 1, by omega⟩
      have : i = M := by omega
      subst this
      exact ⟨b, hp, hx _ b hp⟩
    | succ d ih =>
      intro i n b hi hn hp
      obtain ⟨n, rfl⟩ : ∃ k, n = k + 1 := ⟨n - 1, by omega⟩
      obtain ⟨b', hp', e⟩ := hs (lq3 F n) i b (by omega) hp
      obtain ⟨b2, hp2, e2⟩ := ih (i + 1) n b' (by omega) (by omega) hp'
      exact ⟨b2, hp2, e.trans e2⟩
  exact key M 0 n b0 (by omega) hn h0
/-! the class's night: what is home, what burns -/
theorem s_homeBits {σ : Mm} {t n : Nat} {T : Tw} {N : Nt} (h : TC σ t T) (hT : TwOk T) (r : RC σ n (tW T) N) (hN : NtOk T N) : f_X4_homeBits n t σ = some (nI (bts (homeN T N) (tW T)), σ) := by
  have hW := hT.2.2.1
  unfold f_X4_homeBits
  rw [ck_t r.1, ck_t h.1, jn_e]
  refine lq2_run (F := F_X4_homeBits_4 n t σ (fun x => some (x, σ))) (fun i => nI (bts (homeN T N) i)) (fun i => nI i) (tW T) _ ?_ ?_ (n := 1000000) (by omega)
  · intro rec i hi
    have h1 : nI i < gI σ t 2 := by rw [h.2.2.2.1]; exact nI_lt hi (by omega)
    simp only [F_X4_homeBits_4, if_pos h1, cl_of _ (s_isHome h hT r hN hi), jn_e, bn_e, nI_1, bts]
    cases e : homeN T N i
    · simp
    · simp only [if_true, show ¬ (1 : Int32) = 0 by decide, if_false, or_bit (bts_lt _ i) (show i < 31 by omega), Bool.toNat_true, Nat.mul_one]
  · intro rec
    have h1 : ¬ nI (tW T) < gI σ t 2 := by rw [h.2.2.2.1]; exact nI_nlt (Nat.le_refl _) (by omega)
    simp only [F_X4_homeBits_4, if_neg h1]
def brN (N : Nt) (k : Nat) : Bool := decide (0 < nL N k)
theorem s_litBits {σ : Mm} {t n : Nat} {T : Tw} {N : Nt} (h : TC σ t T) (hT : TwOk T) (r : RC σ n (tW T) N) (hN : NtOk T N) : f_X4_litBits n t σ = some (nI (bts (brN N) (tL T)), σ) := by
  have hL := hT.2.1
  unfold f_X4_litBits
  rw [ck_t r.1, ck_t h.1, jn_e]
  refine lq2_run (F := F_X4_litBits_4 n t σ (fun x => some (x, σ))) (fun i => nI (bts (brN N) i)) (fun i => nI i) (tL T) _ ?_ ?_ (n := 1000000) (by omega)
  · intro rec i hi
    have h1 : nI i < gI σ t 1 := by rw [h.2.2.1]; exact nI_lt hi (by omega)
    have hb := hN.1 i
    simp only [F_X4_litBits_4, if_pos h1, ck_t (inb_nI (show i < 8 by omega) (by omega)), jn_e, bn_e, nI_1, bts, nI_tn (show i < 2147483648 by omega), r.2.2.2.2.1 i (by omega)]
    by_cases e : 0 < nL N i
    · have e2 : 0 < nI (nL N i) := nI_lt (a := 0) e (by omega)
      simp only [if_pos e2, or_bit (bts_lt _ i) (show i < 31 by omega), brN, decide_eq_true e, Bool.toNat_true, Nat.mul_one]
    · have e2 : ¬ 0 < nI (nL N i) := nI_nlt (b := 0) (a := 0) (Nat.le_refl _) (by omega) |> fun q => by rw [show nL N i = 0 by omega]; exact q
      simp only [if_neg e2, brN, decide_eq_false e, Bool.toNat_false, Nat.mul_zero, Nat.add_zero]
  · intro rec
    have h1 : ¬ nI (tL T) < gI σ t 1 := by rw [h.2.2.1]; exact nI_nlt (Nat.le_refl _) (by omega)
    simp only [F_X4_litBits_4, if_neg h1]
def allH (T : Tw) (N : Nt) : Bool := (fst1 (fun w => !homeN T N w) 0 (tW T)).isNone
theorem s_isAllHome {σ : Mm} {t n : Nat} {T : Tw} {N : Nt} (h : TC σ t T) (hT : TwOk T) (r : RC σ n (tW T) N) (hN : NtOk T N) : f_X4_isAllHome n t σ = some ((if allH T N then 1 else 0), σ) := by
  have hW := hT.2.2.1
  unfold f_X4_isAllHome
  rw [ck_t r.1, ck_t h.1, jn_e]
  have q := lq1_fst (F := F_X4_isAllHome_2 n t σ (some (1, σ))) (fun w => !homeN T N w) 0 (tW T) (fun _ => some (0, σ)) (some (1, σ)) ?_ ?_ ?_ (n := 1000000) (by omega)
  · rw [show (0 : Int32) = nI 0 from rfl, q]
    unfold allH
    cases fst1 (fun w => !homeN T N w) 0 (tW T) <;> rfl
  · intro rec i _ hi hp
    have h1 : nI i < gI σ t 2 := by rw [h.2.2.2.1]; exact nI_lt (by omega) (by omega)
    have hp : homeN T N i = false := by simpa using hp
    simp only [F_X4_isAllHome_2, if_pos h1, cl_of _ (s_isHome h hT r hN (show i < tW T by omega)), hp]
    rfl
  · intro rec i _ hi hp
    have h1 : nI i < gI σ t 2 := by rw [h.2.2.2.1]; exact nI_lt (by omega) (by omega)
    have hp : homeN T N i = true := by simpa using hp
    simp only [F_X4_isAllHome_2, if_pos h1, cl_of _ (s_isHome h hT r hN (show i < tW T by omega)), hp, if_true, show ¬ (1 : Int32) = 0 by decide, if_false, nI_1]
  · intro rec
    have h1 : ¬ nI (0 + tW T) < gI σ t 2 := by rw [h.2.2.2.1, Nat.zero_add]; exact nI_nlt (Nat.le_refl _) (by omega)
    simp only [F_X4_isAllHome_2, if_neg h1]
/-- one goes along a lane: where he is then -/
theorem s_goOn {σ : Mm} {t n : Nat} {T : Tw} (h : TC σ t T) (hT : TwOk T) (hn : isNight n = true) {w k b e : Nat} (hw : w < tW T) (hk : k < tL T) (hb : gI σ (n + 2) w = nI b) (hbP : b < tP T) (he : gI σ (n + 5) w = nI e) (he3 : e < 3) :
    ∃ τ, J_X4_goAlong_63 n t (nI w) (nI k) (tK T w) σ = some (0, τ) ∧ Off [n + 2, n + 5] σ τ ∧ (∀ j, gI τ (n + 5) j = if j = w then (if tK T w ≠ 3 ∨ 2 ≤ e then 0 else nI (e + 1)) else gI σ (n + 5) j) ∧ (∀ j, gI τ (n + 2) j = if j = w then (if tK T w ≠ 3 ∨ 2 ≤ e then nI (othE T k b) else nI b) else gI σ (n + 2) j) := by
  have hW := hT.2.2.1
  have tn := town_night h.1 hn
  have ib6 : inb (nI w) 6 = true := inb_nI (by omega) (by omega)
  have cw : (nI w).toNatClampNeg = w := nI_tn (by omega)
  have o1 : ∀ v, Off [n + 2, n + 5] σ (pI σ (n + 5) w v) := fun v => Off.pI (by simp)
  have o2 : ∀ v u, Off [n + 2, n + 5] σ (pI (pI σ (n + 5) w v) (n + 5) w u) := fun v u => (o1 v).tr (Off.pI (by simp))
  have hoe : ∀ τ, Off [n + 2, n + 5] σ τ → f_X9_otherEnd t (nI k) (nI b) τ = some (nI (othE T k b), τ) := fun τ o => s_otherEnd (h.off o (fun a ha => by simp only [List.mem_cons, List.not_mem_nil, or_false] at ha; omega)) hT hk hbP
  have b2 : ∀ v u, gI (pI (pI σ (n + 5) w v) (n + 5) w u) (n + 2) w = nI b := fun v u => by rw [gI_pI_n (Or.inl (by omega)), gI_pI_n (Or.inl (by omega))]; exact hb
  unfold J_X4_goAlong_63
  simp only [ck_t ib6, bn_e, jn_e, cw, he, nI_1, gI_pI_s, b2, cl_of _ (hoe _ (o2 _ _))]
  have e3 : (nI (e + 1) < 3) ↔ e + 1 < 3 := by rw [show (3 : Int32) = nI 3 from rfl]; exact nI_ltI (by omega) (by omega)
  have go : ∃ τ, (some ((0 : Int32), pI (pI (pI σ (n + 5) w (nI (e + 1))) (n + 5) w 0) (n + 2) w (nI (othE T k b))) : Option (Int32 × Mm)) = some (0, τ) ∧ Off [n + 2, n + 5] σ τ ∧ (∀ j, gI τ (n + 5) j = if j = w then 0 else gI σ (n + 5) j) ∧ (∀ j, gI τ (n + 2) j = if j = w then nI (othE T k b) else gI σ (n + 2) j) := by
    refine ⟨_, rfl, (o2 _ _).tr (Off.pI (by simp)), fun j => ?_, fun j => ?_⟩
    · rw [gI_pI_n (Or.inl (by omega))]
      by_cases q : j = w
      · subst q; rw [gI_pI_s, if_pos rfl]
      · rw [gI_pI_n (Or.inr q), gI_pI_n (Or.inr q), if_neg q]
    · by_cases q : j = w
      · subst q; rw [gI_pI_s, if_pos rfl]
      · rw [gI_pI_n (Or.inr q), gI_pI_n (Or.inl (by omega)), gI_pI_n (Or.inl (by omega)), if_neg q]
  by_cases hk3 : tK T w = 3
  · rw [if_pos hk3]
    by_cases h3 : e + 1 < 3
    · rw [if_pos (e3.mpr h3)]
      have c : ¬ (tK T w ≠ 3 ∨ 2 ≤ e) := by rintro (q | q); exact q hk3; omega
      simp only [if_neg c]
      refine ⟨_, rfl, o1 _, fun j => ?_, fun j => ?_⟩
      · by_cases q : j = w
        · subst q; rw [gI_pI_s, if_pos rfl]
        · rw [gI_pI_n (Or.inr q), if_neg q]
      · rw [gI_pI_n (Or.inl (by omega))]
        by_cases q : j = w
        · subst q; rw [if_pos rfl]; exact hb
        · rw [if_neg q]
    · rw [if_neg (fun q => h3 (e3.mp q))]
      have c : tK T w ≠ 3 ∨ 2 ≤ e := Or.inr (by omega)
      simp only [if_pos c]
      exact go
  · rw [if_neg hk3]
    have c : tK T w ≠ 3 ∨ 2 ≤ e := Or.inl hk3
    simp only [if_pos c]
    exact go
theorem s_goAlong {σ : Mm} {t n : Nat} {T : Tw} (h : TC σ t T) (hT : TwOk T) (hn : isNight n = true) {w k b e l : Nat} (hw : w < tW T) (hk : k < tL T) (hb : gI σ (n + 2) w = nI b) (hbP : b < tP T) (he : gI σ (n + 5) w = nI e) (he3 : e < 3) (hl : gI σ (n + 1) k = nI l) (hl30 : l ≤ 30) :
    ∃ τ, f_X4_goAlong n t (nI w) (nI k) σ = some (0, τ) ∧ Off [n, n + 2, n + 5, n + 6] σ τ ∧ (∀ j, gI τ (n + 6) j = if j = k then gI σ (n + 6) k + 1 else gI σ (n + 6) j) ∧ gI τ n 9 = (if l = 0 ∧ tK T w ≠ 1 ∧ tK T w ≠ 2 then gI σ n 9 ||| ((1 : Int32) <<< (nI w &&& 31)) else gI σ n 9) ∧ gI τ n 10 = gI σ n 10 ||| ((1 : Int32) <<< (nI k &&& 31)) ∧ (∀ j, j ≠ 9 → j ≠ 10 → gI τ n j = gI σ n j) ∧ (∀ j, gI τ (n + 5) j = if j = w then (if tK T w ≠ 3 ∨ 2 ≤ e then 0 else nI (e + 1)) else gI σ (n + 5) j) ∧ (∀ j, gI τ (n + 2) j = if j = w then (if tK T w ≠ 3 ∨ 2 ≤ e then nI (othE T k b) else nI b) else gI σ (n + 2) j) := by
  have hW := hT.2.2.1
  have hL := hT.2.1
  have tn := town_night h.1 hn
  have hkd := (h.2.2.2.2.2.2.1 w hw).1
  have ib6 : inb (nI w) 6 = true := inb_nI (by omega) (by omega)
  have ib8 : inb (nI k) 8 = true := inb_nI (by omega) (by omega)
  have cw : (nI w).toNatClampNeg = w := nI_tn (by omega)
  have ck8 : (nI k).toNatClampNeg = k := nI_tn (by omega)
  have l0 : (nI l = 0) ↔ l = 0 := by rw [show (0 : Int32) = nI 0 from rfl]; exact nI_eq (by omega) (by omega)
  unfold f_X4_goAlong
  simp only [ck_t hn, ck_t h.1, ck_t ib6, ck_t ib8, bn_e, jn_e, cw, ck8, hkd]
  obtain ⟨σ1, e1⟩ : ∃ z, z = pI (pI σ (n + 6) k (gI σ (n + 6) k + 1)) n 10 (gI (pI σ (n + 6) k (gI σ (n + 6) k + 1)) n 10 ||| (1 : Int32) <<< (nI k &&& 31)) := ⟨_, rfl⟩
  rw [← e1]
  have o1 : Off [n, n + 2, n + 5, n + 6] σ σ1 := by rw [e1]; exact (Off.pI (by simp)).tr (Off.pI (by simp))
  have f6 : ∀ j, gI σ1 (n + 6) j = if j = k then gI σ (n + 6) k + 1 else gI σ (n + 6) j := fun j => by
    rw [e1, gI_pI_n (Or.inl (by omega))]
    by_cases q : j = k
    · subst q; rw [gI_pI_s, if_pos rfl]
    · rw [gI_pI_n (Or.inr q), if_neg q]
  have f0 : ∀ j, j ≠ 10 → gI σ1 n j = gI σ n j := fun j hj => by rw [e1, gI_pI_n (Or.inr hj), gI_pI_n (Or.inl (by omega))]
  have f10 : gI σ1 n 10 = gI σ n 10 ||| ((1 : Int32) <<< (nI k &&& 31)) := by rw [e1, gI_pI_s, gI_pI_n (Or.inl (by omega))]
  have fx : ∀ a, a ≠ n → a ≠ n + 6 → ∀ j, gI σ1 a j = gI σ a j := fun a h1 h2 j => by rw [e1, gI_pI_n (Or.inl h1), gI_pI_n (Or.inl h2)]
  -- what stands behind the join, from a memory that differs at the night's own cell alone
  have tail : ∀ υ, Off [n] σ1 υ → ∃ τ, J_X4_goAlong_63 n t (nI w) (nI k) (tK T w) υ = some (0, τ) ∧ Off [n, n + 2, n + 5, n + 6] σ τ ∧ (∀ j, gI τ (n + 6) j = if j = k then gI σ (n + 6) k + 1 else gI σ (n + 6) j) ∧ (∀ j, gI τ n j = gI υ n j) ∧ (∀ j, gI τ (n + 5) j = if j = w then (if tK T w ≠ 3 ∨ 2 ≤ e then 0 else nI (e + 1)) else gI σ (n + 5) j) ∧ (∀ j, gI τ (n + 2) j = if j = w then (if tK T w ≠ 3 ∨ 2 ≤ e then nI (othE T k b) else nI b) else gI σ (n + 2) j) := by
    intro υ o
    have oυ : Off [n, n + 2, n + 5, n + 6] σ υ := o1.tr (o.mono (by simp))
    have hυ := h.off oυ (fun a ha => by simp only [List.mem_cons, List.not_mem_nil, or_false] at ha; omega)
    have g : ∀ a, a ≠ n → ∀ j, gI υ a j = gI σ1 a j := fun a ha j => o.1 a (by simpa using ha) j
    obtain ⟨τ, t1, t2, t3, t4⟩ := s_goOn hυ hT hn hw hk (b := b) (e := e) (by rw [g _ (by omega), fx _ (by omega) (by omega)]; exact hb) hbP (by rw [g _ (by omega), fx _ (by omega) (by omega)]; exact he) he3
    refine ⟨τ, t1, oυ.tr (t2.mono (by simp)), fun j => ?_, fun j => ?_, fun j => ?_, fun j => ?_⟩
    · rw [t2.1 _ (by simp), g _ (by omega)]; exact f6 j
    · exact t2.1 _ (by simp) j
    · rw [t3, g _ (by omega), fx _ (by omega) (by omega)]
    · rw [t4, g _ (by omega), fx _ (by omega) (by omega)]
  have hl1 : gI σ1 (n + 1) k = nI l := by rw [fx _ (by omega) (by omega)]; exact hl
  rw [hl1]
  have plain : (¬ (l = 0 ∧ tK T w ≠ 1 ∧ tK T w ≠ 2)) → ∃ τ, J_X4_goAlong_63 n t (nI w) (nI k) (tK T w) σ1 = some (0, τ) ∧ Off [n, n + 2, n + 5, n + 6] σ τ ∧ (∀ j, gI τ (n + 6) j = if j = k then gI σ (n + 6) k + 1 else gI σ (n + 6) j) ∧ gI τ n 9 = (if l = 0 ∧ tK T w ≠ 1 ∧ tK T w ≠ 2 then gI σ n 9 ||| ((1 : Int32) <<< (nI w &&& 31)) else gI σ n 9) ∧ gI τ n 10 = gI σ n 10 ||| ((1 : Int32) <<< (nI k &&& 31)) ∧ (∀ j, j ≠ 9 → j ≠ 10 → gI τ n j = gI σ n j) ∧ (∀ j, gI τ (n + 5) j = if j = w then (if tK T w ≠ 3 ∨ 2 ≤ e then 0 else nI (e + 1)) else gI σ (n + 5) j) ∧ (∀ j, gI τ (n + 2) j = if j = w then (if tK T w ≠ 3 ∨ 2 ≤ e then nI (othE T k b) else nI b) else gI σ (n + 2) j) := by
    intro c
    obtain ⟨τ, t1, t2, t3, t4, t5, t6⟩ := tail σ1 Off.rf
    refine ⟨τ, t1, t2, t3, ?_, ?_, fun j h9 h10 => ?_, t5, t6⟩
    · rw [if_neg c, t4, f0 9 (by decide)]
    · rw [t4, f10]
    · rw [t4, f0 j h10]
  by_cases z : l = 0
  · rw [if_pos (l0.mpr z)]
    by_cases z1 : tK T w = 1
    · rw [if_pos z1]; exact plain (fun c => c.2.1 z1)
    · rw [if_neg z1]
      by_cases z2 : tK T w = 2
      · rw [if_pos z2]; exact plain (fun c => c.2.2 z2)
      · rw [if_neg z2]
        obtain ⟨τ, t1, t2, t3, t4, t5, t6⟩ := tail (pI σ1 n 9 (gI σ1 n 9 ||| (1 : Int32) <<< (nI w &&& 31))) (Off.pI (by simp))
        refine ⟨τ, t1, t2, t3, ?_, ?_, fun j h9 h10 => ?_, t5, t6⟩
        · rw [if_pos ⟨z, z1, z2⟩, t4, gI_pI_s, f0 9 (by decide)]
        · rw [t4, gI_pI_n (Or.inr (by decide)), f10]
        · rw [t4, gI_pI_n (Or.inr h9), f0 j h10]
  · rw [if_neg (fun q => z (l0.mp q))]; exact plain (fun c => z c.1)
