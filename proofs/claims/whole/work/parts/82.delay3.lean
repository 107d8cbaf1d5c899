/-! rows in blocks -/
theorem RW_dvd (T : Tw) (N : Nt) {a b : Nat} (h : a ≤ b) : ∃ P, RW T N b = P * RW T N a := by
  induction h with
  | refl => exact ⟨1, (Nat.one_mul _).symm⟩
  | step _ ih =>
    obtain ⟨P, e⟩ := ih
    exact ⟨_ * P, by show _ * RW T N _ = _; rw [e, Nat.mul_assoc]⟩
theorem digN_eq {T : Tw} {N : Nt} {r r' w v : Nat} (hv : v < w) (hw : w ≤ tW T) (h : r / RW T N (tW T - w) = r' / RW T N (tW T - w)) : digN T N r v = digN T N r' v := by
  obtain ⟨P, e⟩ := RW_dvd T N (a := tW T - w) (b := tW T - (v + 1)) (by omega)
  unfold digN
  rw [e, Nat.mul_comm, ← Nat.div_div_eq_div_mul, ← Nat.div_div_eq_div_mul, h]
theorem digN_at {T : Tw} {N : Nt} {q k w : Nat} (hw : w < tW T) (hk : k < bsW T N w) : digN T N ((q * bsW T N w + k) * RW T N (tW T - (w + 1))) w = k := by
  unfold digN
  rw [Nat.mul_div_cancel _ (RW_pos T N _), Nat.add_comm, Nat.add_mul_mod_self_right, Nat.mod_eq_of_lt hk]
theorem RW_s {T : Tw} {N : Nt} {w : Nat} (hw : w < tW T) : RW T N (tW T - w) = bsW T N w * RW T N (tW T - (w + 1)) := by
  obtain ⟨d, ed⟩ : ∃ d, tW T - w = d + 1 := ⟨tW T - w - 1, by omega⟩
  rw [ed, show tW T - (w + 1) = d by omega]
  show bsW T N (tW T - (d + 1)) * RW T N d = _
  rw [show tW T - (d + 1) = w by omega]
/-! the reference's delays -/
def BR (σ : Mm) (T : Tw) (N : Nt) (n : Nat) : Prop := match bsD (dkD T N) (wtD T N) n with
  | none => gI σ 0 69 = -1 ∧ gI σ 0 70 = 0
  | some b => gI σ 0 69 = nI (dkD T N b) ∧ gI σ 0 70 = nI (wtD T N b) ∧ ∀ w, w < tW T → gI σ 48 w = nI (digN T N b w)
theorem BR.congr {σ τ : Mm} {T : Tw} {N : Nt} {n : Nat} (h : BR σ T N n) (e1 : gI τ 0 69 = gI σ 0 69) (e2 : gI τ 0 70 = gI σ 0 70) (e3 : ∀ w, gI τ 48 w = gI σ 48 w) : BR τ T N n := by
  unfold BR at h ⊢
  cases e : bsD (dkD T N) (wtD T N) n with
  | none => rw [e] at h; exact ⟨e1.trans h.1, e2.trans h.2⟩
  | some b => rw [e] at h; exact ⟨e1.trans h.1, e2.trans h.2.1, fun w hw => (e3 w).trans (h.2.2 w hw)⟩
def QF (σ τ : Mm) : Prop := (∀ a, a ∉ qM → ∀ k, gI τ a k = gI σ a k) ∧ (∀ j, 0 < j → j < 60 → gI τ 0 j = gI σ 0 j) ∧ (∀ a k, a ≠ 0 → gL τ a k = gL σ a k) ∧ (∀ a k, gR τ a k = gR σ a k)
theorem QF.rf {σ : Mm} : QF σ σ := ⟨fun _ _ _ => rfl, fun _ _ _ => rfl, fun _ _ _ => rfl, fun _ _ => rfl⟩
theorem QF.tr {σ τ υ : Mm} (h : QF σ τ) (g : QF τ υ) : QF σ υ := ⟨fun a ha k => (g.1 a ha k).trans (h.1 a ha k), fun j h1 h2 => (g.2.1 j h1 h2).trans (h.2.1 j h1 h2), fun a k ha => (g.2.2.1 a k ha).trans (h.2.2.1 a k ha), fun a k => (g.2.2.2 a k).trans (h.2.2.2 a k)⟩
theorem QF.of {S : List Nat} {σ τ : Mm} (o : Off S σ τ) (hs : ∀ a, a ∈ S → a ∈ qM) (h0 : ∀ j, 0 < j → j < 60 → gI τ 0 j = gI σ 0 j) : QF σ τ := ⟨fun a ha k => o.1 a (fun q => ha (hs a q)) k, h0, fun a k _ => o.2.1 a k, o.2.2⟩
theorem QF.tm {σ τ : Mm} {T : Tw} (g : QF σ τ) (h : TM σ T) : TM τ T := h.gi (fun a ha k => g.1 a (by simp only [qM, lawM, List.mem_cons, List.not_mem_nil, or_false]; omega) k)
def cel (μ : Mm) (T : Tw) (N : Nt) (ks : Nat → Nat) (j : Nat) : Int32 := if 23 ≤ j ∧ j < 23 + tW T then pon (nT N) (nS N (j - 23)) (ks (j - 23)) else gI μ 36 j
def DG (μ σ : Mm) (T : Tw) (N : Nt) (w : Nat) (ks : Nat → Nat) (r0 n : Nat) : Prop := QF μ σ ∧ (∀ j, j < 41 → gI σ 36 j = cel μ T N ks j) ∧ (∀ v, v < w → gI σ 47 v = nI (digN T N r0 v)) ∧ BR σ T N n
theorem cel_congr {μ : Mm} {T : Tw} {N : Nt} {ks ks' : Nat → Nat} (h : ∀ v, v < tW T → ks v = ks' v) (j : Nat) : cel μ T N ks j = cel μ T N ks' j := by
  unfold cel
  by_cases z : 23 ≤ j ∧ j < 23 + tW T
  · rw [if_pos z, if_pos z, h (j - 23) (by omega)]
  · rw [if_neg z, if_neg z]
theorem DG.rp {μ σ : Mm} {T : Tw} {N : Nt} {w r0 n : Nat} {ks : Nat → Nat} (g : DG μ σ T N w ks r0 n) (h : MI μ T N) (hT : TwOk T) : RP σ 36 0 T (wtN N ks) := by
  have hW := hT.2.2.1
  obtain ⟨r1, r2, r3, r4, r5⟩ := h.2.1
  have nc : ∀ j, j < 41 → ¬ (23 ≤ j ∧ j < 23 + tW T) → gI σ 36 (0 + j) = gI μ 36 (0 + j) := fun j hj z => by rw [Nat.zero_add, g.2.1 j hj]; unfold cel; rw [if_neg z]
  refine ⟨?_, ?_, ?_, fun k hk => ?_, fun u hu => ?_⟩
  · rw [nc 0 (by omega) (by omega)]; exact r1
  · rw [nc 1 (by omega) (by omega)]; exact r2
  · rw [nc 2 (by omega) (by omega)]; exact r3
  · rw [nc (3 + k) (by omega) (by omega)]; exact r4 k hk
  · obtain ⟨g1, g2, g3, g4, g5⟩ := r5 u hu
    refine ⟨?_, ?_, ?_, ?_, ?_⟩
    · rw [nc (11 + u) (by omega) (by omega)]; exact g1
    · rw [nc (17 + u) (by omega) (by omega)]; exact g2
    · rw [Nat.zero_add, g.2.1 (23 + u) (by omega)]
      unfold cel
      rw [if_pos (by omega), Nat.add_sub_cancel_left]
      rfl
    · rw [nc (29 + u) (by omega) (by omega)]; exact g4
    · intro z k hk
      rw [nc (35 + u) (by omega) (by omega)]; exact g5 z k hk
theorem DG.mi {μ σ : Mm} {T : Tw} {N : Nt} {w r0 n : Nat} {ks : Nat → Nat} (g : DG μ σ T N w ks r0 n) (h : MI μ T N) (hT : TwOk T) : MI σ T (wtN N ks) := ⟨g.1.tm h.1, g.rp h hT, by rw [g.1.2.1 56 (by decide) (by decide)]; exact h.2.2.1, by rw [g.1.2.1 57 (by decide) (by decide)]; exact h.2.2.2⟩
theorem m_wm {σ : Mm} {w : Nat} (hw : w < 6) : f_X12_waitsMore (nI w) σ = some (0, pI σ 36 (23 + w) (imx (gI σ 36 (23 + w)) (gI σ 36 0) + 1)) := by
  have n0 : (0 : Int32).toNatClampNeg = 0 := rfl
  unfold f_X12_waitsMore
  simp only [bn_e, a23, ck_t (inb_nI (show 23 + w < 41 by omega) (by omega)), ck_t (show inb 0 41 = true from rfl), nI_tn (show 23 + w < 2147483648 by omega), n0]
theorem m_del67 (σ : Mm) : ∃ τ, lq2 (F_X12_delays_67 (fun σ_91 => some (0, σ_91))) 1000000 (0 : Int32) σ = some (0, τ) ∧ Off [48] σ τ ∧ ∀ v, v < 6 → gI τ 48 v = gI σ 47 v := by
  have q := lq2_inv (F := F_X12_delays_67 (fun σ_91 => some (0, σ_91))) (fun i => nI i) (fun i b => Off [48] σ b ∧ ∀ w, w < i → gI b 48 w = gI σ 47 w) 6 (fun σ_91 => some (0, σ_91)) ?_ ?_ (n := 1000000) (b0 := σ) ⟨Off.rf, fun w hw => absurd hw (Nat.not_lt_zero w)⟩ (by omega)
  · obtain ⟨b, hb, e⟩ := q
    exact ⟨b, e, hb.1, hb.2⟩
  · intro rec i b hi hb
    have c1 : nI i < 6 := nI_lt (a := i) (b := 6) hi (by omega)
    have g : gI b 47 i = gI σ 47 i := hb.1.1 47 (by simp) i
    refine ⟨pI b 48 i (gI σ 47 i), ⟨hb.1.tr (Off.pI (by simp)), fun w hw => ?_⟩, ?_⟩
    · by_cases z : w = i
      · subst z; rw [gI_pI_s]
      · rw [gI_pI_n (Or.inr z)]; exact hb.2 w (by omega)
    · simp only [F_X12_delays_67, if_pos c1, ck_t (inb_nI (show i < 6 by omega) (by omega)), nI_tn (show i < 2147483648 by omega), bn_e, nI_1, g]
  · intro rec b hb
    have c1 : ¬ nI 6 < 6 := by decide
    simp only [F_X12_delays_67, if_neg c1]
theorem fb_e0 (fr : Int32 → Int32 → Mm → Option (Int32 × Mm)) (p1 p2 : Int32) (σ : Mm) (h : p1 = gI σ 2 2) : fb_X12_delays fr p1 p2 σ = cl (f_X12_tries σ) (fun _ σ11 => if (gI σ11 0 69) < 0 ∨ (¬ (gI σ11 0 69) < (gI σ11 0 61) ∧ ((gI σ11 0 61) = (gI σ11 0 69) → p2 < (gI σ11 0 70))) then lq2 (F_X12_delays_67 (fun σ_91 => some (0, σ_91))) 1000000 (0 : Int32) (pI (pI σ11 0 69 (gI σ11 0 61)) 0 70 p2) else some (0, σ11)) := by
  have n2 : (2 : Int32).toNatClampNeg = 2 := rfl
  unfold fb_X12_delays
  rw [ck_t (show inb 2 8 = true from rfl), n2, if_pos h]
  congr 1
  funext r σ11
  simp only [jn_e2, bn_e]
  by_cases a : gI σ11 0 69 < 0
  · rw [if_pos a, if_pos (Or.inl a)]
  · rw [if_neg a]
    by_cases b : gI σ11 0 69 < gI σ11 0 61
    · rw [if_pos b, if_neg (fun z => by rcases z with z | z; exact a z; exact z.1 b)]
    · rw [if_neg b]
      by_cases c : gI σ11 0 61 = gI σ11 0 69
      · rw [if_pos c]
        by_cases d : p2 < gI σ11 0 70
        · rw [if_pos d, if_pos (Or.inr ⟨b, fun _ => d⟩)]
        · rw [if_neg d, if_neg (fun z => by rcases z with z | z; exact a z; exact d (z.2 c))]
      · rw [if_neg c, if_pos (Or.inr ⟨b, fun z => absurd z c⟩)]
theorem fb_e1 (fr : Int32 → Int32 → Mm → Option (Int32 × Mm)) {w : Nat} (hw : w < 6) (p2 : Int32) (σ : Mm) (h : ¬ nI w = gI σ 2 2) : fb_X12_delays fr (nI w) p2 σ = lq2 (F_X12_delays_105 fr (nI w) p2 (fun σ_162 => some (0, pI σ_162 36 (23 + w) (gI σ 36 (23 + w))))) 1000000 (0 : Int32) σ := by
  have n2 : (2 : Int32).toNatClampNeg = 2 := rfl
  unfold fb_X12_delays
  rw [ck_t (show inb 2 8 = true from rfl), n2, if_neg h]
  simp only [bn_e, a23, ck_t (inb_nI (show 23 + w < 41 by omega) (by omega)), nI_tn (show 23 + w < 2147483648 by omega), jn_e2]
/-- a whole row is laid: it is tried -/
theorem m_leaf {μ σ : Mm} {T : Tw} {N : Nt} {r0 : Nat} (fr : Int32 → Int32 → Mm → Option (Int32 × Mm)) (h : MI μ T N) (hT : TwOk T) (hN : NtOk T N) (g : DG μ σ T N (tW T) (digN T N r0) r0 r0) :
    ∃ τ, fb_X12_delays fr (nI (tW T)) (nI (wtD T N r0)) σ = some (0, τ) ∧ DG μ τ T N (tW T) (digN T N r0) r0 (r0 + 1) := by
  have hW := hT.2.2.1
  have mi := g.mi h hT
  obtain ⟨σ1, l1, f1, o1, x1, y1⟩ := m_tries mi.1 hT (mi.rm hT) (wtN_ok hN _) mi.2.2.1
  have d1 : gI σ1 0 61 = nI (dkD T N r0) := f1.2.1
  have d594 := dkD_le hT N r0
  have w12 := wtD_le hT N r0
  have b1 : BR σ1 T N r0 := g.2.2.2.congr (x1 69 (by omega)) (x1 70 (by omega)) (fun w => o1.1 48 (by simp [trM, ghM, lawM]) w)
  have q1 : QF μ σ1 := g.1.tr (QF.of o1 (fun a ha => by simp only [trM, ghM, lawM, List.mem_cons, List.not_mem_nil, or_false] at ha; simp only [qM, lawM, List.mem_cons, List.not_mem_nil, or_false]; omega) (fun j _ h2 => x1 j (Or.inl h2)))
  have c1 : ∀ j, j < 41 → gI σ1 36 j = cel μ T N (digN T N r0) j := fun j hj => by rw [y1 j hj]; exact g.2.1 j hj
  have e1 : ∀ v, v < tW T → gI σ1 47 v = nI (digN T N r0 v) := fun v hv => by rw [o1.1 47 (by simp [trM, ghM, lawM])]; exact g.2.2.1 v hv
  rw [fb_e0 _ _ _ _ mi.1.2.2.1.symm, cl_of _ l1, d1]
  have wr : ∃ τ, lq2 (F_X12_delays_67 (fun σ_91 => some (0, σ_91))) 1000000 (0 : Int32) (pI (pI σ1 0 69 (nI (dkD T N r0))) 0 70 (nI (wtD T N r0))) = some (0, τ) ∧ QF μ τ ∧ (∀ j, j < 41 → gI τ 36 j = cel μ T N (digN T N r0) j) ∧ (∀ v, v < tW T → gI τ 47 v = nI (digN T N r0 v)) ∧ gI τ 0 69 = nI (dkD T N r0) ∧ gI τ 0 70 = nI (wtD T N r0) ∧ ∀ v, v < tW T → gI τ 48 v = nI (digN T N r0 v) := by
    obtain ⟨σ2, e2⟩ : ∃ y, y = pI (pI σ1 0 69 (nI (dkD T N r0))) 0 70 (nI (wtD T N r0)) := ⟨_, rfl⟩
    rw [← e2]
    have o2 : Off [0] σ1 σ2 := by rw [e2]; exact (Off.pI (by simp)).tr (Off.pI (by simp))
    obtain ⟨τ, t1, t2, t3⟩ := m_del67 σ2
    refine ⟨τ, t1, q1.tr ((QF.of o2 (by simp [qM]) (fun j h1 h2 => by rw [e2, gI_pI_n (Or.inr (by omega)), gI_pI_n (Or.inr (by omega))])).tr (QF.of t2 (by simp [qM]) (fun j _ _ => t2.1 0 (by simp) j))), fun j hj => ?_, fun v hv => ?_, ?_, ?_, fun v hv => ?_⟩
    · rw [t2.1 36 (by simp), o2.1 36 (by simp)]; exact c1 j hj
    · rw [t2.1 47 (by simp), o2.1 47 (by simp)]; exact e1 v hv
    · rw [t2.1 0 (by simp), e2, gI_pI_n (Or.inr (by decide)), gI_pI_s]
    · rw [t2.1 0 (by simp), e2, gI_pI_s]
    · rw [t3 v (by omega), o2.1 47 (by simp)]; exact e1 v hv
  cases q : bsD (dkD T N) (wtD T N) r0 with
  | none =>
    have b1' := b1
    unfold BR at b1'
    rw [q] at b1'
    have nx : bsD (dkD T N) (wtD T N) (r0 + 1) = some r0 := by unfold bsD; rw [q]
    rw [if_pos (Or.inl (by rw [b1'.1]; decide))]
    obtain ⟨τ, t1, t2, t3, t4, t5, t6, t7⟩ := wr
    refine ⟨τ, t1, t2, t3, t4, ?_⟩
    unfold BR
    rw [nx]
    exact ⟨t5, t6, t7⟩
  | some b =>
    have b1' := b1
    unfold BR at b1'
    rw [q] at b1'
    obtain ⟨p1, p2, p3⟩ := b1'
    have db := dkD_le hT N b
    have wb := wtD_le hT N b
    have k0 : ¬ nI (dkD T N b) < 0 := nI_pos (by omega)
    have k1 : nI (dkD T N b) < nI (dkD T N r0) ↔ dkD T N b < dkD T N r0 := nI_ltI (by omega) (by omega)
    have k2 : nI (dkD T N r0) = nI (dkD T N b) ↔ dkD T N r0 = dkD T N b := nI_eq (by omega) (by omega)
    have k3 : nI (wtD T N r0) < nI (wtD T N b) ↔ wtD T N r0 < wtD T N b := nI_ltI (by omega) (by omega)
    have nx : bsD (dkD T N) (wtD T N) (r0 + 1) = if dkD T N r0 < dkD T N b ∨ (dkD T N r0 = dkD T N b ∧ wtD T N r0 < wtD T N b) then some r0 else some b := by
      have : bsD (dkD T N) (wtD T N) (r0 + 1) = match bsD (dkD T N) (wtD T N) r0 with | none => some r0 | some b => if dkD T N r0 < dkD T N b ∨ (dkD T N r0 = dkD T N b ∧ wtD T N r0 < wtD T N b) then some r0 else some b := rfl
      rw [this, q]
    have kk : (gI σ1 0 69 < 0 ∨ ¬ gI σ1 0 69 < nI (dkD T N r0) ∧ (nI (dkD T N r0) = gI σ1 0 69 → nI (wtD T N r0) < gI σ1 0 70)) ↔ (dkD T N r0 < dkD T N b ∨ (dkD T N r0 = dkD T N b ∧ wtD T N r0 < wtD T N b)) := by
      rw [p1, p2, k1, k2, k3]
      constructor
      · intro z
        rcases z with z | ⟨z1, z2⟩
        · exact absurd z k0
        · by_cases y : dkD T N r0 = dkD T N b
          · exact Or.inr ⟨y, z2 y⟩
          · exact Or.inl (by omega)
      · intro z
        right
        rcases z with z | ⟨z1, z2⟩
        · exact ⟨by omega, fun y => by omega⟩
        · exact ⟨by omega, fun _ => z2⟩
    by_cases z : dkD T N r0 < dkD T N b ∨ (dkD T N r0 = dkD T N b ∧ wtD T N r0 < wtD T N b)
    · rw [if_pos (kk.mpr z)]
      obtain ⟨τ, t1, t2, t3, t4, t5, t6, t7⟩ := wr
      refine ⟨τ, t1, t2, t3, t4, ?_⟩
      unfold BR
      rw [nx, if_pos z]
      exact ⟨t5, t6, t7⟩
    · rw [if_neg (fun y => z (kk.mp y))]
      refine ⟨σ1, rfl, q1, c1, e1, ?_⟩
      unfold BR
      rw [nx, if_neg z]
      exact ⟨p1, p2, p3⟩
