/-! the one behind whom most burns -/
def bst (g : Nat → Option Nat) (W : Nat) (o : Option (Nat × Nat)) : Prop := match o with
  | none => ∀ w, w < W → g w = none
  | some p => p.1 < W ∧ g p.1 = some p.2 ∧ ∀ w v, w < W → g w = some v → v < p.2 ∨ (v = p.2 ∧ p.1 ≤ w)
theorem bst_u {g : Nat → Option Nat} {W : Nat} {o o' : Option (Nat × Nat)} (h : bst g W o) (h' : bst g W o') : o = o' := by
  cases o with
  | none =>
    cases o' with
    | none => rfl
    | some p => have := h p.1 h'.1; rw [h'.2.1] at this; cases this
  | some p =>
    cases o' with
    | none => have := h' p.1 h.1; rw [h.2.1] at this; cases this
    | some q =>
      have h1 := h.2.2 q.1 q.2 h'.1 h'.2.1
      have h2 := h'.2.2 p.1 p.2 h.1 h.2.1
      have e1 : p.2 = q.2 := by omega
      have e2 : p.1 = q.1 := by omega
      rw [show p = q from Prod.ext e2 e1]
def thf (g : Nat → Option Nat) : Nat → Option (Nat × Nat)
  | 0 => none
  | w + 1 => match g w with
    | none => thf g w
    | some v => match thf g w with
      | none => some (w, v)
      | some p => if p.2 < v then some (w, v) else some p
theorem thf_b (g : Nat → Option Nat) : ∀ w, bst g w (thf g w)
  | 0 => fun w h => absurd h (Nat.not_lt_zero w)
  | w + 1 => by
    have ih := thf_b g w
    unfold thf
    cases e : g w with
    | none =>
      simp only []
      cases e2 : thf g w with
      | none =>
        rw [e2] at ih
        intro u hu
        by_cases z : u = w
        · rw [z]; exact e
        · exact ih u (by omega)
      | some p =>
        rw [e2] at ih
        refine ⟨by have := ih.1; omega, ih.2.1, fun u v hu hv => ?_⟩
        by_cases z : u = w
        · rw [z, e] at hv; cases hv
        · exact ih.2.2 u v (by omega) hv
    | some v =>
      simp only []
      cases e2 : thf g w with
      | none =>
        rw [e2] at ih
        refine ⟨Nat.lt_succ_self w, e, fun u v' hu hv => ?_⟩
        by_cases z : u = w
        · rw [z, e] at hv; cases hv; right; exact ⟨rfl, by omega⟩
        · have := ih u (by omega); rw [hv] at this; cases this
      | some p =>
        rw [e2] at ih
        simp only []
        by_cases c : p.2 < v
        · rw [if_pos c]
          refine ⟨Nat.lt_succ_self w, e, fun u v' hu hv => ?_⟩
          by_cases z : u = w
          · rw [z, e] at hv; cases hv; right; exact ⟨rfl, by omega⟩
          · have := ih.2.2 u v' (by omega) hv; left; show v' < v; omega
        · rw [if_neg c]
          refine ⟨by have := ih.1; omega, ih.2.1, fun u v' hu hv => ?_⟩
          by_cases z : u = w
          · rw [z, e] at hv; cases hv
            have := ih.1
            rcases Nat.lt_or_eq_of_le (Nat.not_lt.mp c) with y | y
            · left; exact y
            · right; exact ⟨y, by omega⟩
          · exact ih.2.2 u v' (by omega) hv
/-- those who come home in a minute are looked at, one behind another -/
def betr (o : Option (Nat × Nat)) (w m : Nat) : Bool := match o with
  | none => true
  | some p => decide (p.2 < m) || (decide (m = p.2) && decide (w < p.1))
def clf (came : Nat → Bool) (m : Nat) (o : Option (Nat × Nat)) : Nat → Option (Nat × Nat)
  | 0 => o
  | w + 1 => if came w && betr (clf came m o w) w m then some (w, m) else clf came m o w
theorem clf_b {g g' : Nat → Option Nat} {came : Nat → Bool} {m W : Nat} {o : Option (Nat × Nat)} (h : bst g W o) (h1 : ∀ w, w < W → came w = true → g w = none ∧ g' w = some m) (h2 : ∀ w, w < W → came w = false → g' w = g w) : ∀ w, w ≤ W → bst (fun u => if u < w then g' u else g u) W (clf came m o w) := by
  intro w
  induction w with
  | zero => intro _; simpa [clf] using h
  | succ w ih =>
    intro hw
    have ih := ih (by omega)
    unfold clf
    have nw : ∀ u, (if u < w + 1 then g' u else g u) = if u = w then g' w else (if u < w then g' u else g u) := by
      intro u
      by_cases z : u = w
      · subst z; simp
      · have y : u < w + 1 ↔ u < w := by omega
        simp only [y, z, if_false]
    simp only [nw]
    cases c : came w with
    | false =>
      have e := h2 w (by omega) c
      simp only [Bool.false_and, Bool.false_eq_true, if_false]
      have : (fun u => if u = w then g' w else (if u < w then g' u else g u)) = (fun u => if u < w then g' u else g u) := by
        funext u
        by_cases z : u = w
        · subst z; simp [e]
        · simp [z]
      rw [this]; exact ih
    | true =>
      obtain ⟨e1, e2⟩ := h1 w (by omega) c
      cases ho : clf came m o w with
      | none =>
        rw [ho] at ih
        simp only [betr, Bool.and_self, if_true]
        refine ⟨by show w < W; omega, by simp [e2], fun u v hu hv => ?_⟩
        by_cases z : u = w
        · subst z; simp only [if_true, e2, Option.some.injEq] at hv; right; exact ⟨hv.symm, Nat.le_refl _⟩
        · simp only [z, if_false] at hv; have := ih u hu; simp only [] at this; rw [hv] at this; cases this
      | some p =>
        rw [ho] at ih
        obtain ⟨i1, i2, i3⟩ := ih
        have pw : p.1 ≠ w := fun z => by rw [z] at i2; simp [e1] at i2
        cases b : betr (some p) w m with
        | true =>
          have b' : p.2 < m ∨ (m = p.2 ∧ w < p.1) := by simpa [betr] using b
          simp only [Bool.and_self, if_true]
          refine ⟨by show w < W; omega, by simp [e2], fun u v hu hv => ?_⟩
          by_cases z : u = w
          · subst z; simp only [if_true, e2, Option.some.injEq] at hv; right; exact ⟨hv.symm, Nat.le_refl _⟩
          · simp only [z, if_false] at hv
            have := i3 u v hu hv
            show v < m ∨ (v = m ∧ w ≤ u)
            omega
        | false =>
          have b' : ¬ (p.2 < m ∨ (m = p.2 ∧ w < p.1)) := fun z => by
            have : betr (some p) w m = true := by simpa [betr] using z
            rw [b] at this; cases this
          simp only [Bool.and_false, Bool.false_eq_true, if_false]
          refine ⟨i1, by simp only [pw, if_false]; exact i2, fun u v hu hv => ?_⟩
          by_cases z : u = w
          · subst z; simp only [if_true, e2, Option.some.injEq] at hv; subst hv; omega
          · simp only [z, if_false] at hv; exact i3 u v hu hv
theorem home_mono {T : Tw} {N : Nt} {lg : Int32} {i w : Nat} (h : homeN T (itN T lg N i) w = true) : homeN T (itN T lg N (i + 1)) w = true := by
  have e : tF T (nB (itN T lg N i) w) (nG (itN T lg N i) w) = none := by
    unfold homeN at h
    cases q : tF T (nB (itN T lg N i) w) (nG (itN T lg N i) w) with
    | none => rfl
    | some k => rw [q] at h; cases h
  have l : lnA T (itN T lg N i) w = none := by
    unfold lnA
    split
    · rfl
    · exact e
  unfold homeN
  show (tF T (nB (passN T (itN T lg N i) lg) w) (nG (itN T lg N i) w)).isNone = true
  rw [pass_B0 l, e]; rfl
theorem home_mono' {T : Tw} {N : Nt} {lg : Int32} {i j w : Nat} (hij : i ≤ j) (h : homeN T (itN T lg N i) w = true) : homeN T (itN T lg N j) w = true := by
  induction hij with
  | refl => exact h
  | step _ ih => exact home_mono ih
/-- how much burns as he comes home, if he does within so many minutes -/
def comN (T : Tw) (N : Nt) (i w : Nat) : Option Nat := match fst1 (fun j => homeN T (itN T 0 N j) w) 0 (i + 1) with
  | some j => if 0 < j then some (cnt (brN (itN T 0 N j)) (tL T)) else none
  | none => none
theorem comN_0 (T : Tw) (N : Nt) (w : Nat) : comN T N 0 w = none := by
  unfold comN
  cases e : fst1 (fun j => homeN T (itN T 0 N j) w) 0 (0 + 1) with
  | none => rfl
  | some k => have : k = 0 := by have := (fst1_some e).2.1; omega
              subst this; rfl
theorem comN_le {T : Tw} {N : Nt} {i w v : Nat} (hL : tL T ≤ 8) (h : comN T N i w = some v) : v ≤ 8 := by
  unfold comN at h
  cases e : fst1 (fun j => homeN T (itN T 0 N j) w) 0 (i + 1) with
  | none => rw [e] at h; cases h
  | some k =>
    rw [e] at h
    simp only [] at h
    split at h
    · cases h; exact Nat.le_trans (cnt_le _ _) hL
    · cases h
def camN (T : Tw) (N : Nt) (i w : Nat) : Bool := homeN T (itN T 0 N (i + 1)) w && !homeN T (itN T 0 N i) w
theorem com_cam {T : Tw} {N : Nt} {i w : Nat} (h : camN T N i w = true) : comN T N i w = none ∧ comN T N (i + 1) w = some (cnt (brN (itN T 0 N (i + 1))) (tL T)) := by
  unfold camN at h
  have h1 : homeN T (itN T 0 N (i + 1)) w = true := by cases q : homeN T (itN T 0 N (i + 1)) w <;> simp [q] at h ⊢
  have h2 : homeN T (itN T 0 N i) w = false := by cases q : homeN T (itN T 0 N i) w <;> simp [q] at h ⊢
  have e : fst1 (fun j => homeN T (itN T 0 N j) w) 0 (i + 1) = none := by
    cases q : fst1 (fun j => homeN T (itN T 0 N j) w) 0 (i + 1) with
    | none => rfl
    | some k =>
      obtain ⟨-, q2, q3, -⟩ := fst1_some q
      have := home_mono' (show k ≤ i by omega) q3
      rw [h2] at this; cases this
  refine ⟨by unfold comN; rw [e], ?_⟩
  unfold comN
  rw [fst1_succ_none e, if_pos h1]
  simp
theorem com_not {T : Tw} {N : Nt} {i w : Nat} (h : camN T N i w = false) : comN T N (i + 1) w = comN T N i w := by
  unfold comN
  cases q : fst1 (fun j => homeN T (itN T 0 N j) w) 0 (i + 1) with
  | some k => rw [fst1_succ_some q]
  | none =>
    rw [fst1_succ_none q]
    have h2 : homeN T (itN T 0 N i) w = false := fst1_none q i (Nat.zero_le _) (by omega)
    have h1 : homeN T (itN T 0 N (i + 1)) w = false := by
      unfold camN at h
      rw [h2] at h
      simpa using h
    rw [h1]; rfl
def of1 (o : Option (Nat × Nat)) : Int32 := oI (o.map Prod.fst)
def of2 (o : Option (Nat × Nat)) : Int32 := oI (o.map Prod.snd)
theorem s_bestFollowed {σ : Mm} {t m : Nat} {T : Tw} {N : Nt} (hc : TC σ t T) (hT : TwOk T) (hm : (197 : Nat) ≠ m) (r : RC σ m (tW T) N) (hN : NtOk T N) :
    ∃ τ, f_X0_bestFollowed t m σ = some (of1 (thf (comN T N (tkN T 0 N)) (tW T)), τ) ∧ Off (tryC t) σ τ := by
  have hle := tkN_le T 0 N
  have hW := hT.2.2.1
  have hL := hT.2.1
  obtain ⟨σ1, l1, a1⟩ := At.first (N := N) 0 hc hT hm r
  have hb : ∀ {i b}, At σ t T 0 N i b → f_X4_homeBits 197 t b = some (nI (bts (homeN T (itN T 0 N i)) (tW T)), b) := fun {i b} h => s_homeBits h.2.1 hT h.2.2 (itN_ok hT hN 0 i)
  unfold f_X0_bestFollowed
  rw [ck_t hc.1, ck_t r.1, cl_of _ l1, cl_of _ (hb a1), jn_e2]
  have z0 : thf (comN T N 0) (tW T) = none := by
    refine bst_u (thf_b _ _) (o' := none) (fun w _ => comN_0 T N w)
  have q := lq5_inv (F := F_X0_bestFollowed_26 t (fun x τ => some (x, τ))) (fun i => of1 (thf (comN T N i) (tW T))) (fun i => of2 (thf (comN T N i) (tW T))) (fun i => nI (bts (homeN T (itN T 0 N i)) (tW T))) (fun i => nI i) (fun i b => At σ t T 0 N i b) (tkN T 0 N) (fun b => some (of1 (thf (comN T N (tkN T 0 N)) (tW T)), b)) ?_ ?_ (n := 1000000) (b0 := σ1) a1 (by omega)
  · obtain ⟨b, hb, e⟩ := q
    rw [z0] at e
    exact ⟨b, e, hb.1⟩
  · intro rec i b hi h
    obtain ⟨τ, t1, t2, -, -⟩ := h.pass hT hN LgOk.z
    refine ⟨τ, t2, ?_⟩
    obtain ⟨c, ec⟩ : ∃ c, c = cnt (brN (itN T 0 N (i + 1))) (tL T) := ⟨_, rfl⟩
    have c8 : c ≤ 8 := by rw [ec]; exact Nat.le_trans (cnt_le _ _) hL
    obtain ⟨o, eo⟩ : ∃ o, o = thf (comN T N i) (tW T) := ⟨_, rfl⟩
    have bo : bst (comN T N i) (tW T) o := by rw [eo]; exact thf_b _ _
    have cb := clf_b (came := camN T N i) (m := c) bo (fun w _ hw => by rw [ec]; exact com_cam hw) (fun w _ hw => com_not hw)
    have fin : clf (camN T N i) c o (tW T) = thf (comN T N (i + 1)) (tW T) := by
      refine bst_u (g := comN T N (i + 1)) (W := tW T) ?_ (thf_b _ _)
      have := cb (tW T) (Nat.le_refl _)
      revert this
      cases clf (camN T N i) c o (tW T) with
      | none => intro k w hw; have := k w hw; simpa [hw] using this
      | some p =>
        intro k
        refine ⟨k.1, ?_, fun w v hw hv => k.2.2 w v hw (by simpa [hw] using hv)⟩
        have := k.2.1
        simpa [k.1] using this
    have m8 : ∀ w, w ≤ tW T → ∀ p, clf (camN T N i) c o w = some p → p.1 < 6 ∧ p.2 ≤ 8 := by
      intro w hw p hp
      have := cb w hw
      rw [hp] at this
      refine ⟨by have := this.1; omega, ?_⟩
      have g := this.2.1
      simp only [] at g
      split at g
      · exact comN_le hL g
      · exact comN_le hL g
    have hor : nI (bts (homeN T (itN T 0 N i)) (tW T)) ||| nI (bts (camN T N i) (tW T)) = nI (bts (homeN T (itN T 0 N (i + 1))) (tW T)) := by
      rw [bts_or]
      congr 1
      refine bts_congr (fun w _ => ?_)
      unfold camN
      cases h1 : homeN T (itN T 0 N i) w
      · simp
      · rw [home_mono h1]; rfl
    have q2 := lq3_run (F := F_X0_bestFollowed_84 t τ (nI (bts (camN T N i) (tW T))) (nI c) (fun x3_149 x4_149 => rec x3_149 x4_149 (nI (bts (homeN T (itN T 0 N (i + 1))) (tW T))) (nI (i + 1)) τ)) (fun w => of1 (clf (camN T N i) c o w)) (fun w => of2 (clf (camN T N i) c o w)) (fun w => nI w) (tW T) (rec (of1 (thf (comN T N (i + 1)) (tW T))) (of2 (thf (comN T N (i + 1)) (tW T))) (nI (bts (homeN T (itN T 0 N (i + 1))) (tW T))) (nI (i + 1)) τ) ?_ ?_ (n := 1000000) (by omega)
    · simp only [F_X0_bestFollowed_26, if_pos (i99 (show i < 99 by omega)), cl_of _ (h.home0 hT hN hi), if_true, cl_of _ t1, cl_of _ (hb t2), cl_of _ (t2.lit hT hN), cl_of _ (cnt_brI hT τ), ← ec, bn_e, andnB, jn_e2]
      have e2 : bts (fun k => homeN T (itN T 0 N (i + 1)) k && !homeN T (itN T 0 N i) k) (tW T) = bts (camN T N i) (tW T) := rfl
      rw [e2]
      simp only [hor, nI_1]
      rw [← eo]
      exact q2
    · intro rec2 w hw
      have c1 : nI w < gI τ t 2 := by rw [t2.2.1.2.2.2.1]; exact nI_lt hw (by omega)
      have lt : bts (camN T N i) (tW T) < 2147483648 := Nat.lt_of_lt_of_le (bts_lt _ _) (Nat.le_trans (Nat.pow_le_pow_right (by decide) hW) (by decide))
      have sb := shr_bit1 lt (show w < 31 by omega)
      rw [bts_bit _ hw] at sb
      simp only [F_X0_bestFollowed_84, if_pos c1, jn_e, clf, nI_1]
      cases cm : camN T N i w
      · have ns : ¬ ((nI (bts (camN T N i) (tW T)) >>> (nI w &&& 31)) &&& 1 = 1) := fun z => by rw [sb.mp z] at cm; cases cm
        simp [ns]
      · have ns : ((nI (bts (camN T N i) (tW T)) >>> (nI w &&& 31)) &&& 1 = 1) := sb.mpr cm
        cases ho : clf (camN T N i) c o w with
        | none =>
          have c2 : of2 none < nI c := by
            show (-1 : Int32) < nI c
            have : ∀ c, c ≤ 8 → (-1 : Int32) < nI c := by decide
            exact this c c8
          simp only [betr, Bool.and_self, if_true, if_pos c2, if_pos ns, if_neg one0]
          rfl
        | some p =>
          obtain ⟨p1, p2⟩ := m8 w (by omega) p ho
          have o2 : of2 (some p) = nI p.2 := rfl
          have o1 : of1 (some p) = nI p.1 := rfl
          have k1 : nI p.2 < nI c ↔ p.2 < c := nI_ltI (by omega) (by omega)
          have k2 : nI c = nI p.2 ↔ c = p.2 := nI_eq (by omega) (by omega)
          have k3 : nI w < nI p.1 ↔ w < p.1 := nI_ltI (by omega) (by omega)
          simp only [o1, o2, k1, k2, k3, if_pos ns, betr]
          by_cases z1 : p.2 < c
          · simp [z1]; rfl
          · by_cases z2 : c = p.2
            · by_cases z3 : w < p.1
              · simp [z2, z3]; rfl
              · simp [z2, z3, o1, o2]
            · simp [z1, z2, o1, o2]
    · intro rec2
      have c1 : ¬ nI (tW T) < gI τ t 2 := by rw [t2.2.1.2.2.2.1]; exact nI_nlt (Nat.le_refl _) (by omega)
      simp only [F_X0_bestFollowed_84, if_neg c1, fin]
  · intro rec b hb
    by_cases c : tkN T 0 N < 99
    · simp only [F_X0_bestFollowed_26, if_pos (i99 c), cl_of _ (hb.home1 hT hN c), show ¬ (1 : Int32) = 0 by decide, if_false]
    · simp only [F_X0_bestFollowed_26, if_neg (n99 (show 99 ≤ tkN T 0 N by omega) (by omega))]
theorem q_thief {σ μ : Mm} {t : Nat} {T : Tw} {N : Nt} (h : Bo σ μ t T N) : An f_X11_thief f_X12_thief σ μ := by
  obtain ⟨hT, hN, ⟨ht, hc, rc⟩, hM⟩ := h
  have hM := hM.q hT (QM.z μ 0)
  have hL := hT.2.1
  have hW := hT.2.2.1
  have n2' : (2 : Int32).toNatClampNeg = 2 := rfl
  have hle := tkN_le T 0 N
  obtain ⟨τ, t1, t2⟩ := s_bestFollowed hc hT ne6 rc hN
  obtain ⟨ν, n1, n2, n3⟩ := m_triesQ hM hT hN
  have hMn := hM.q hT n3
  have bt : ∀ j, j ≤ tkN T 0 N → f_X12_bits (gI ν 46 j) ν = some (nI (cnt (brN (itN T 0 N j)) (tL T)), ν) := fun j hj => by
    have lt : bts (brN (itN T 0 N j)) (tL T) < 256 := Nat.lt_of_lt_of_le (bts_lt _ _) (show 2 ^ tL T ≤ 2 ^ 8 from Nat.pow_le_pow_right (by decide) hL)
    rw [n2.2.2.2.2.2 j hj, m_bits (by omega), pc8_bts _ hL]
  have q := lq3_run (F := F_X12_thief_15 ν (fun x1_78 => some (x1_78, ν))) (fun w => of1 (thf (comN T N (tkN T 0 N)) w)) (fun w => of2 (thf (comN T N (tkN T 0 N)) w)) (fun w => nI w) (tW T) (some (of1 (thf (comN T N (tkN T 0 N)) (tW T)), ν)) ?_ ?_ (n := 1000000) (by omega)
  · unfold An f_X11_thief f_X12_thief
    simp only [bn_e, ht, cl_of _ t1, cl_of _ n1, jn_e2]
    exact ⟨_, _, _, rfl, q, tryQ hc.1 t2, (QM.z μ 0).tr n3⟩
  · intro rec w hw
    have c1 : nI w < gI ν 2 2 := by rw [hMn.1.2.2.1]; exact nI_lt hw (by omega)
    have e45 := (n2.2.2.2.2.1 w hw).2
    simp only [F_X12_thief_15, ck_t (show inb 2 8 = true from rfl), n2', if_pos c1, ck_t (inb_nI (show w < 6 by omega) (by omega)), nI_tn (show w < 2147483648 by omega), jn_e, bn_e, e45, nI_1, thf]
    unfold comN
    cases e : fst1 (fun j => homeN T (itN T 0 N j) w) 0 (tkN T 0 N + 1) with
    | none =>
      exact if_neg (show ¬ (0 : Int32) < -1 by decide)
    | some j =>
      have hj := (fst1_some e).2.1
      simp only [oI_some]
      by_cases z : 0 < j
      · have g0 : (0 : Int32) < nI j := (nI_gt0 (by omega)).mpr z
        simp only [if_pos z, if_pos g0, ck_t (inb_nI (show j < 100 by omega) (by omega)), nI_tn (show j < 2147483648 by omega), cl_of _ (bt j (by omega))]
        have c8 : cnt (brN (itN T 0 N j)) (tL T) ≤ 8 := Nat.le_trans (cnt_le _ _) hL
        cases ho : thf (comN T N (tkN T 0 N)) w with
        | none =>
          unfold comN at ho
          rw [ho]
          have c2 : of2 none < nI (cnt (brN (itN T 0 N j)) (tL T)) := by
            show (-1 : Int32) < nI _
            have : ∀ c, c ≤ 8 → (-1 : Int32) < nI c := by decide
            exact this _ c8
          simp only [if_pos c2]
          rfl
        | some p =>
          have pb := thf_b (comN T N (tkN T 0 N)) w
          rw [ho] at pb
          have p8 := comN_le hL pb.2.1
          unfold comN at ho
          rw [ho]
          have o2 : of2 (some p) = nI p.2 := rfl
          have k1 : nI p.2 < nI (cnt (brN (itN T 0 N j)) (tL T)) ↔ p.2 < cnt (brN (itN T 0 N j)) (tL T) := nI_ltI (by omega) (by omega)
          simp only [o2, k1]
          by_cases z1 : p.2 < cnt (brN (itN T 0 N j)) (tL T)
          · simp only [if_pos z1]; rfl
          · simp only [if_neg z1]; rfl
      · have : j = 0 := by omega
        subst this
        simp only [if_neg z]
        exact if_neg (show ¬ (0 : Int32) < nI 0 by decide)
  · intro rec
    have c1 : ¬ nI (tW T) < gI ν 2 2 := by rw [hMn.1.2.2.1]; exact nI_nlt (Nat.le_refl _) (by omega)
    simp only [F_X12_thief_15, ck_t (show inb 2 8 = true from rfl), n2', if_neg c1]
