/-! nights by draws -/
def drw (d : Int64) : Int64 := lrm ((d * 1103515245) + 12345) 2147483648
def drI (d : Int64) : Nat → Int64
  | 0 => d
  | n + 1 => drw (drI d n)
def dwS (d : Int64) : Int32 := (lrm (d / 65536) 31).toInt32
def sinN (T : Tw) (f : Nat → Int32) : Nt := ((0, 0, 0), fun _ => 0, tS T, tG T, f, fun _ => 0)
def dwF (d : Int64) (w : Nat) : Int32 := dwS (drI d (w + 1))
def drN (T : Tw) (d : Int64) : Nt := sinN T (dwF d)
def sinI (T : Tw) (f : Nat → Int32) (i : Nat) : Nt := sinN T (fun w => if w < i then f w else tM T w)
theorem sinI_0 (T : Tw) (f : Nat → Int32) (u : Nat) : nS (sinI T f 0) u = nS (beginN T) u := by
  show (if u < 0 then f u else tM T u) = tM T u
  exact if_neg (Nat.not_lt_zero u)
theorem sinI_W (T : Tw) (f : Nat → Int32) {u i : Nat} (h : u < i) : nS (sinN T f) u = nS (sinI T f i) u := by
  show f u = (if u < i then f u else tM T u)
  rw [if_pos h]
theorem drI_l (d : Int64) (i : Nat) : lrm ((drI d i * 1103515245) + 12345) 2147483648 = drI d (i + 1) := by
  simp only [drI, drw]
theorem dwF_l (d : Int64) (i : Nat) : (lrm (drI d (i + 1) / 65536) 31).toInt32 = dwF d i := by
  unfold dwF dwS
  exact Eq.refl _
def dK (W : Nat) (d : Int64) : Nat → Int64
  | 0 => d
  | k + 1 => drI (dK W d k) W
def mxF (f : Nat → Nat) : Nat → Nat
  | 0 => 0
  | n + 1 => max (mxF f n) (f n)
theorem mxF_le {f : Nat → Nat} {m : Nat} (h : ∀ i, f i ≤ m) : ∀ n, mxF f n ≤ m
  | 0 => Nat.zero_le _
  | n + 1 => by
    have h1 := mxF_le h n
    have h2 := h n
    unfold mxF
    omega
theorem sinN_ok {T : Tw} (hT : TwOk T) (f : Nat → Int32) : NtOk T (sinN T f) := ⟨fun _ => Nat.zero_le _, fun w hw => ⟨(hT.2.2.2.2.2.2.1 w hw).1, (hT.2.2.2.2.2.2.1 w hw).2, by show 0 < 3; omega, fun z => absurd z (Nat.lt_irrefl 0)⟩⟩
theorem drN_ok {T : Tw} (hT : TwOk T) (d : Int64) : NtOk T (drN T d) := sinN_ok hT _
/-- in one night it is dark so often -/
def nDk (T : Tw) (d : Int64) (k : Nat) : Nat := dsN T 0 (drN T (dK (tW T) d k)) (tkN T 0 (drN T (dK (tW T) d k)))
def nOl (T : Tw) (d : Int64) (k : Nat) : Nat := oilN T 0 (drN T (dK (tW T) d k)) (tkN T 0 (drN T (dK (tW T) d k)))
theorem nDk_le {T : Tw} (hT : TwOk T) (d : Int64) (k : Nat) : nDk T d k ≤ 594 := by
  have h1 := dsN_le T 0 (drN T (dK (tW T) d k)) hT.2.2.1 (tkN T 0 (drN T (dK (tW T) d k)))
  have h2 := tkN_le T 0 (drN T (dK (tW T) d k))
  unfold nDk
  omega
def nightsN (T : Tw) (d : Int64) (n : Nat) (x : Int32) : Int32 := if x = 0 then nI (sm (nDk T d) n) else if x = 1 then nI (mxF (nDk T d) n) else nI (sm (nOl T d) n)
theorem RC.setS {σ : Mm} {n W : Nat} {N N' : Nt} {w : Nat} {v : Int32} (r : RC σ n W N) (e1 : nT N' = nT N) (e2 : nP N' = nP N) (e3 : nD N' = nD N) (e4 : nL N' = nL N) (e5 : ∀ u, u < W → nB N' u = nB N u ∧ nG N' u = nG N u ∧ nE N' u = nE N u ∧ nS N' u = if u = w then v else nS N u) : RC (pI σ (n + 4) w v) n W N' := by
  obtain ⟨r1, r2, r3, r4, r5, r6⟩ := r
  refine ⟨r1, ?_, ?_, ?_, fun k hk => ?_, fun u hu => ?_⟩
  · rw [gI_pI_n (Or.inl (by omega)), e1]; exact r2
  · rw [gI_pI_n (Or.inl (by omega)), e2]; exact r3
  · rw [gI_pI_n (Or.inl (by omega)), e3]; exact r4
  · rw [gI_pI_n (Or.inl (by omega)), e4]; exact r5 k hk
  · obtain ⟨f1, f2, f3, f4⟩ := e5 u hu
    obtain ⟨g1, g2, g3, g4⟩ := r6 u hu
    refine ⟨?_, ?_, ?_, ?_⟩
    · rw [gI_pI_n (Or.inl (by omega)), f1]; exact g1
    · rw [gI_pI_n (Or.inl (by omega)), f2]; exact g2
    · rw [f4]
      by_cases z : u = w
      · subst z; rw [gI_pI_s, if_pos rfl]
      · rw [gI_pI_n (Or.inr z), if_neg z]; exact g3
    · rw [gI_pI_n (Or.inl (by omega)), f3]; exact g4
theorem RP.setS {σ : Mm} {T : Tw} {N N' : Nt} {w : Nat} {v : Int32} (r : RP σ 36 0 T N) (hW : tW T ≤ 6) (hw : w < 6) (e1 : nT N' = nT N) (e2 : nP N' = nP N) (e3 : nD N' = nD N) (e4 : nL N' = nL N) (eB : nB N' = nB N) (eG : nG N' = nG N) (eE : nE N' = nE N) (e5 : ∀ u, u < tW T → nS N' u = if u = w then v else nS N u) : RP (pI σ 36 (23 + w) v) 36 0 T N' := by
  obtain ⟨r1, r2, r3, r4, r5⟩ := r
  refine ⟨?_, ?_, ?_, fun k hk => ?_, fun u hu => ?_⟩
  · rw [gI_pI_n (Or.inr (by omega)), e1]; exact r1
  · rw [gI_pI_n (Or.inr (by omega)), e2]; exact r2
  · rw [gI_pI_n (Or.inr (by omega)), e3]; exact r3
  · rw [gI_pI_n (Or.inr (by omega)), e4]; exact r4 k hk
  · obtain ⟨g1, g2, g3, g4, g5⟩ := r5 u hu
    have ea : atN T N' u = atN T N u := by unfold atN; rw [eB, eG, eE]
    refine ⟨?_, ?_, ?_, ?_, ?_⟩
    · rw [gI_pI_n (Or.inr (by omega)), ea]; exact g1
    · rw [gI_pI_n (Or.inr (by omega)), eG]; exact g2
    · rw [e5 u hu]
      by_cases z : u = w
      · subst z; rw [Nat.zero_add, gI_pI_s, if_pos rfl]
      · rw [gI_pI_n (Or.inr (by omega)), if_neg z]; exact g3
    · rw [gI_pI_n (Or.inr (by omega)), eE]; exact g4
    · rw [eE, eB, eG, gI_pI_n (Or.inr (by omega))]; exact g5
theorem drawnNights_e (b1 : Nat) (p2 p3 p4 : Int32) (σ : Mm) : f_X0_drawnNights b1 p2 p3 p4 σ = ck (isTown b1) (lq6 (F_X0_drawnNights_16 b1 p3 (fun x7_127 x8_127 x9_127 σ_127 => (if p4 = 0 then some (x7_127, σ_127) else (if p4 = (1 : Int32) then some (x8_127, σ_127) else some (x9_127, σ_127))))) 1000000 p2.toInt64 (0 : Int32) (0 : Int32) (0 : Int32) (0 : Int32) σ) := by
  unfold f_X0_drawnNights
  simp only [jn_e2]
theorem s_dn33 {σ : Mm} {t : Nat} {T : Tw} (hc : TC σ t T) (hT : TwOk T) (r : RC σ 197 (tW T) (beginN T)) {dd : Nat → Int64} {f : Nat → Int32} (hs : ∀ i, lrm ((dd i * 1103515245) + 12345) 2147483648 = dd (i + 1)) (hf : ∀ i, (lrm (dd (i + 1) / 65536) 31).toInt32 = f i) (kx : Int64 → Mm → Option (Int32 × Mm)) :
    ∃ τ, lq3 (F_X0_drawnNights_33 t kx) 1000000 (dd 0) (0 : Int32) σ = kx (dd (tW T)) τ ∧ Off [201] σ τ ∧ RC τ 197 (tW T) (sinN T f) := by
  have hW := hT.2.2.1
  have tn := town_night hc.1 n197
  have q := lq3_inv (F := F_X0_drawnNights_33 t kx) (fun i => dd i) (fun i => nI i) (fun i b => Off [201] σ b ∧ RC b 197 (tW T) (sinI T f i)) (tW T) (kx (dd (tW T))) ?_ ?_ (n := 1000000) (b0 := σ) ⟨Off.rf, r.congr rfl rfl rfl rfl (fun u _ => ⟨rfl, rfl, sinI_0 T f u, rfl⟩)⟩ (by omega)
  · obtain ⟨b, ⟨b1, b2⟩, e⟩ := q
    exact ⟨b, e, b1, b2.congr rfl rfl rfl rfl (fun u hu => ⟨rfl, rfl, sinI_W T f hu, rfl⟩)⟩
  · intro rec i b hi hb
    have c1 : nI i < gI b t 2 := by rw [hb.1.1 t (by simp; omega), hc.2.2.2.1]; exact nI_lt hi (by omega)
    refine ⟨pI b 201 i (f i), ⟨hb.1.tr (Off.pI (by simp)), RC.setS (n := 197) hb.2 rfl rfl rfl rfl (fun u hu => ⟨rfl, rfl, rfl, ?_⟩)⟩, ?_⟩
    · show (if u < i + 1 then f u else tM T u) = if u = i then f i else (if u < i then f u else tM T u)
      by_cases z : u = i
      · subst z; simp
      · have : u < i + 1 ↔ u < i := by omega
        simp only [this, z, if_false]
    · simp only [F_X0_drawnNights_33, if_pos c1, bn_e, ck_t (inb_nI (show i < 6 by omega) (by omega)), nI_tn (show i < 2147483648 by omega), nI_1, hs, hf]
  · intro rec b hb
    have c1 : ¬ nI (tW T) < gI b t 2 := by rw [hb.1.1 t (by simp; omega), hc.2.2.2.1]; exact nI_nlt (Nat.le_refl _) (by omega)
    simp only [F_X0_drawnNights_33, if_neg c1]
theorem s_drawnNights {σ : Mm} {t : Nat} {T : Tw} (hc : TC σ t T) (hT : TwOk T) (x z : Int32) {n : Nat} (hn : n ≤ 20) :
    ∃ τ, f_X0_drawnNights t x (nI n) z σ = some (nightsN T x.toInt64 n z, τ) ∧ Off qC σ τ := by
  have tn := town_night hc.1 n197
  rw [drawnNights_e, ck_t hc.1]
  obtain ⟨d, ed⟩ : ∃ d, d = x.toInt64 := ⟨_, rfl⟩
  rw [← ed]
  obtain ⟨kx, ek⟩ : ∃ k : Int32 → Int32 → Int32 → Mm → Option (Int32 × Mm), k = (fun x7_127 x8_127 x9_127 σ_127 => (if z = 0 then some (x7_127, σ_127) else (if z = (1 : Int32) then some (x8_127, σ_127) else some (x9_127, σ_127)))) := ⟨_, rfl⟩
  rw [← ek]
  have q := lq6_inv (F := F_X0_drawnNights_16 t (nI n) kx) (fun k => dK (tW T) d k) (fun k => nI (sm (nDk T d) k)) (fun k => nI (mxF (nDk T d) k)) (fun k => nI (sm (nOl T d) k)) (fun k => nI k) (fun k b => Off qC σ b) n (fun b => kx (nI (sm (nDk T d) n)) (nI (mxF (nDk T d) n)) (nI (sm (nOl T d) n)) b) ?_ ?_ (n := 1000000) (b0 := σ) Off.rf (by omega)
  · obtain ⟨b, hb, e⟩ := q
    refine ⟨b, e.trans ?_, hb⟩
    rw [ek]
    unfold nightsN
    show (if z = 0 then _ else _) = _
    split
    · rfl
    · split <;> rfl
  · intro rec k b hk hb
    have hcb := hc.q hb
    have c1 : nI k < nI n := nI_lt hk (by omega)
    obtain ⟨σ1, l1, r1, o1⟩ := s_begin hcb hT n197
    have o1' : Off qC b σ1 := o1.mono (by simp [qC])
    obtain ⟨σ2, l2, o2, r2⟩ := s_dn33 (hcb.q o1') hT r1 (dd := fun i => drI (dK (tW T) d k) i) (drI_l _) (dwF_l _) (fun x5_85 σ_85 => cl (f_X0_oilToTheEnd t σ_85) (fun r89 σ89 => bn (nI (sm (nOl T d) k) + r89) (fun v9_93 => bn (nI (sm (nDk T d) k) + (gI σ89 197 2)) (fun v7_105 => bn (imx (nI (mxF (nDk T d) k)) (gI σ89 197 2)) (fun v8_119 => rec x5_85 v7_105 v8_119 v9_93 (nI k + 1) σ89)))))
    have o2' : Off qC b σ2 := o1'.tr (o2.mono (by simp [qC]))
    obtain ⟨σ3, l3, a3⟩ := s_oilToTheEnd (hcb.q o2') hT r2 (drN_ok hT _)
    have g3 : gI σ3 197 2 = nI (nDk T d k) := by
      have : gI σ3 197 2 = nD (itN T 0 (drN T (dK (tW T) d k)) (tkN T 0 (drN T (dK (tW T) d k)))) := a3.2.2.2.2.2.1
      rw [this, itN_D]
      show (0 : Int32) + nI (nDk T d k) = _
      simp
    have d1 := nDk_le hT d k
    have d2 := mxF_le (nDk_le hT d) k
    refine ⟨σ3, hb.tr (o2'.tr (tryQ hc.1 a3.1)), ?_⟩
    simp only [F_X0_drawnNights_16, if_pos c1, cl_of _ l1, jn_e2]
    refine Eq.trans l2 ?_
    simp only [cl_of _ l3, bn_e, g3, imx_N (show mxF (nDk T d) k < 2147483648 by omega) (show nDk T d k < 2147483648 by omega), nI_add, nI_1]
    rfl
  · intro rec b hb
    have c1 : ¬ nI n < nI n := nI_nlt (Nat.le_refl _) (by omega)
    simp only [F_X0_drawnNights_16, if_neg c1]
/-! and the reference's -/
theorem TM.gi {σ τ : Mm} {T : Tw} (h : TM σ T) (q : ∀ a, (0 < a ∧ a ≤ 14) ∨ a = 27 → ∀ k, gI τ a k = gI σ a k) : TM τ T := by
  obtain ⟨h1, h2, h3, h4, h5, h6, h7, h8⟩ := h
  refine ⟨by rw [q 2 (by omega)]; exact h1, by rw [q 2 (by omega)]; exact h2, by rw [q 2 (by omega)]; exact h3, by rw [q 2 (by omega)]; exact h4, fun k hk => ?_, fun w hw => ?_, fun a b ha hb => ?_, fun υ e => ?_⟩
  · rw [q 5 (by omega), q 6 (by omega), q 7 (by omega)]; exact h5 k hk
  · rw [q 8 (by omega), q 9 (by omega), q 10 (by omega), q 11 (by omega)]; exact h6 w hw
  · obtain ⟨w1, w2⟩ := h7 a b ha hb
    refine ⟨by rw [q 27 (by omega)]; exact w1, fun k hk => ?_⟩
    obtain ⟨q', w3, w4⟩ := w2 k hk
    refine ⟨q', w3, fun υ e => w4 υ (fun x hx j => ?_)⟩
    rw [e x hx j]
    apply q
    simp only [List.mem_cons, List.not_mem_nil, or_false] at hx
    omega
  · refine h8 υ (fun x hx j => ?_)
    rw [e x hx j]
    apply q
    simp only [List.mem_cons, List.not_mem_nil, or_false] at hx
    omega
def Og (σ b : Mm) : Prop := (∀ a, a ∉ ghM → ∀ k, gI b a k = gI σ a k) ∧ (∀ j, j < 60 ∨ 63 < j → gI b 0 j = gI σ 0 j) ∧ (∀ a k, a ≠ 0 → gL b a k = gL σ a k) ∧ (∀ a k, gR b a k = gR σ a k)
theorem Og.rf {σ : Mm} : Og σ σ := ⟨fun _ _ _ => rfl, fun _ _ => rfl, fun _ _ _ => rfl, fun _ _ => rfl⟩
theorem Og.tr {σ τ υ : Mm} (h : Og σ τ) (g : Og τ υ) : Og σ υ := ⟨fun a ha k => (g.1 a ha k).trans (h.1 a ha k), fun j hj => (g.2.1 j hj).trans (h.2.1 j hj), fun a k ha => (g.2.2.1 a k ha).trans (h.2.2.1 a k ha), fun a k => (g.2.2.2 a k).trans (h.2.2.2 a k)⟩
theorem Og.of {σ τ : Mm} {S : List Nat} (o : Off S σ τ) (hs : ∀ a, a ∈ S → a ∈ ghM) (h0 : ∀ j, j < 60 ∨ 63 < j → gI τ 0 j = gI σ 0 j) : Og σ τ := ⟨fun a ha k => o.1 a (fun q => ha (hs a q)) k, h0, fun a k _ => o.2.1 a k, o.2.2⟩
theorem Og.tm {σ τ : Mm} {T : Tw} (g : Og σ τ) (h : TM σ T) : TM τ T := h.gi (fun a ha k => g.1 a (by simp only [ghM, lawM, List.mem_cons, List.not_mem_nil, or_false]; omega) k)
theorem m_draws {σ : Mm} {d : Int64} {v : Int32} (hs : lrm ((gL σ 0 72 * 1103515245) + 12345) 2147483648 = d) (hf : (lrm (d / 65536) 31).toInt32 = v) : ∃ τ, f_X12_draws 31 σ = some (v, τ) ∧ Og σ τ ∧ gL τ 0 72 = d ∧ ∀ a k, gI τ a k = gI σ a k := by
  have g : gL (pL σ 0 72 d) 0 72 = d := by rw [gL_pL]; simp
  refine ⟨pL σ 0 72 d, ?_, ⟨fun _ _ _ => rfl, fun _ _ => rfl, fun a k ha => ?_, fun _ _ => rfl⟩, g, fun _ _ => rfl⟩
  · unfold f_X12_draws
    rw [hs, bn_e, g, ck_t (show decide (¬ (31 : Int32).toInt64 = 0) = true by decide), show (31 : Int32).toInt64 = 31 by decide, hf]
  · rw [gL_pL, if_neg (fun z => ha z.1)]
theorem m_nights81 {σ : Mm} {T : Tw} (h : TM σ T) (hT : TwOk T) (r : RP σ 36 0 T (beginN T)) {dd : Nat → Int64} {f : Nat → Int32} (hs : ∀ i, lrm ((dd i * 1103515245) + 12345) 2147483648 = dd (i + 1)) (hf : ∀ i, (lrm (dd (i + 1) / 65536) 31).toInt32 = f i) (hd : gL σ 0 72 = dd 0) (kx : Mm → Option (Int32 × Mm)) :
    ∃ τ, lq2 (F_X12_nights_81 kx) 1000000 (0 : Int32) σ = kx τ ∧ Og σ τ ∧ RP τ 36 0 T (sinN T f) ∧ gL τ 0 72 = dd (tW T) := by
  have hW := hT.2.2.1
  have n2 : (2 : Int32).toNatClampNeg = 2 := rfl
  have cg : ∀ {b : Mm} {N N' : Nt}, RP b 36 0 T N → nT N' = nT N → nP N' = nP N → nD N' = nD N → nL N' = nL N → nB N' = nB N → nG N' = nG N → nE N' = nE N → (∀ u, u < tW T → nS N' u = nS N u) → RP b 36 0 T N' := by
    intro b N N' r e1 e2 e3 e4 e5 e6 e7 e8
    obtain ⟨r1, r2, r3, r4, r5⟩ := r
    refine ⟨by rw [e1]; exact r1, by rw [e2]; exact r2, by rw [e3]; exact r3, by rw [e4]; exact r4, fun u hu => ?_⟩
    obtain ⟨g1, g2, g3, g4, g5⟩ := r5 u hu
    have ea : atN T N' u = atN T N u := by unfold atN; rw [e5, e6, e7]
    exact ⟨by rw [ea]; exact g1, by rw [e6]; exact g2, by rw [e8 u hu]; exact g3, by rw [e7]; exact g4, by rw [e7, e5, e6]; exact g5⟩
  have q := lq2_inv (F := F_X12_nights_81 kx) (fun i => nI i) (fun i b => Og σ b ∧ RP b 36 0 T (sinI T f i) ∧ gL b 0 72 = dd i) (tW T) kx ?_ ?_ (n := 1000000) (b0 := σ) ⟨Og.rf, cg r rfl rfl rfl rfl rfl rfl rfl (fun u _ => sinI_0 T f u), hd⟩ (by omega)
  · obtain ⟨b, ⟨b1, b2, b3⟩, e⟩ := q
    exact ⟨b, e, b1, cg b2 rfl rfl rfl rfl rfl rfl rfl (fun u hu => sinI_W T f hu), b3⟩
  · intro rec i b hi hb
    obtain ⟨b1, b2, b3⟩ := hb
    have hTb := b1.tm h
    have c1 : nI i < gI b 2 2 := by rw [hTb.2.2.1]; exact nI_lt hi (by omega)
    obtain ⟨τ, t1, t2, t3, t4⟩ := m_draws (σ := b) (by rw [b3]; exact hs i) (hf i)
    have rt : RP τ 36 0 T (sinI T f i) := b2.copy hW (fun j _ => t4 36 _)
    refine ⟨pI τ 36 (23 + i) (f i), ⟨b1.tr (t2.tr (Og.of (S := [36]) (Off.pI (by simp)) (by simp [ghM]) (fun j _ => gI_pI_n (Or.inl (by decide))))), RP.setS rt hW (by omega) rfl rfl rfl rfl rfl rfl rfl (fun u hu => ?_), by rw [gL_pI, t3]⟩, ?_⟩
    · show (if u < i + 1 then f u else tM T u) = if u = i then f i else (if u < i then f u else tM T u)
      by_cases z : u = i
      · subst z; simp
      · have : u < i + 1 ↔ u < i := by omega
        simp only [this, z, if_false]
    · simp only [F_X12_nights_81, ck_t (show inb 2 8 = true from rfl), n2, if_pos c1, cl_of _ t1, a23, ck_t (inb_nI (show 23 + i < 41 by omega) (by omega)), nI_tn (show 23 + i < 2147483648 by omega), bn_e, nI_1]
  · intro rec b hb
    have c1 : ¬ nI (tW T) < gI b 2 2 := by rw [(hb.1.tm h).2.2.1]; exact nI_nlt (Nat.le_refl _) (by omega)
    simp only [F_X12_nights_81, ck_t (show inb 2 8 = true from rfl), n2, if_neg c1]
theorem nights_e (p1 p2 p3 : Int32) (σ : Mm) (v1 : ¬ p1 < 0 ∧ ¬ (9999 : Int32) < p1) (v2 : ¬ p2 < 1 ∧ ¬ (20 : Int32) < p2) (v3 : ¬ p3 < 0 ∧ ¬ (2 : Int32) < p3) : f_X12_nights p1 p2 p3 σ = cl (f_X12_copies 36 (0 : Int32) 37 (0 : Int32) (pL (pI σ 0 0 0) 0 72 p1.toInt64)) (fun _ σ53 => lq5 (F_X12_nights_68 p2 (fun x4_153 x5_153 x6_153 σ_153 => cl (f_X12_copies 37 (0 : Int32) 36 (0 : Int32) σ_153) (fun _ σ163 => (if p3 = 0 then some (x4_153, σ163) else (if p3 = (1 : Int32) then some (x5_153, σ163) else some (x6_153, σ163)))))) 1000000 (0 : Int32) (0 : Int32) (0 : Int32) (0 : Int32) σ53) := by
  unfold f_X12_nights
  simp only [bn_e, cl_of _ (m_within p1 0 9999 _), cl_of _ (m_within p2 1 20 _), cl_of _ (m_within p3 0 2 _), if_pos v1, if_pos v2, if_pos v3, if_neg one0, jn_e2]
theorem m_nights {σ : Mm} {T : Tw} {N : Nt} (h : MI σ T N) (hT : TwOk T) {x z : Int32} {n : Nat} (v1 : ¬ x < 0 ∧ ¬ (9999 : Int32) < x) (v2 : ¬ nI n < 1 ∧ ¬ (20 : Int32) < nI n) (v3 : ¬ z < 0 ∧ ¬ (2 : Int32) < z) (hn : n ≤ 20) :
    ∃ τ, f_X12_nights x (nI n) z σ = some (nightsN T x.toInt64 n z, τ) ∧ QM σ τ := by
  have hW := hT.2.2.1
  rw [nights_e x (nI n) z σ v1 v2 v3]
  obtain ⟨d, ed⟩ : ∃ d, d = x.toInt64 := ⟨_, rfl⟩
  rw [← ed]
  obtain ⟨σ0, e0⟩ : ∃ y, y = pL (pI σ 0 0 0) 0 72 d := ⟨_, rfl⟩
  rw [← e0]
  have i0 : ∀ a k, gI σ0 a k = gI (pI σ 0 0 0) a k := fun a k => by rw [e0, gI_pL]
  have g0 : gL σ0 0 72 = d := by rw [e0, gL_pL]; simp
  have q0 : QM σ σ0 := (QM.z σ 0).tr ⟨fun a _ k => i0 a k, fun j _ _ => i0 0 j, fun j _ => i0 36 j, fun a k ha => by rw [e0, gL_pL, if_neg (fun y => ha y.1)], fun a k => by rw [e0, gR_pL]⟩
  have h0 := h.q hT q0
  obtain ⟨σ1, l1, o1, c1⟩ := cp37 σ0
  obtain ⟨a1, a2, a3', a4⟩ := Mi.first (Or.inl rfl) h0 hT o1
  have g1 : gL σ1 0 72 = d := by rw [o1.2.1]; exact g0
  rw [cl_of _ l1]
  obtain ⟨kx, ek⟩ : ∃ k : Int32 → Int32 → Int32 → Mm → Option (Int32 × Mm), k = (fun x4_153 x5_153 x6_153 σ_153 => cl (f_X12_copies 37 (0 : Int32) 36 (0 : Int32) σ_153) (fun _ σ163 => (if z = 0 then some (x4_153, σ163) else (if z = (1 : Int32) then some (x5_153, σ163) else some (x6_153, σ163))))) := ⟨_, rfl⟩
  rw [← ek]
  have q := lq5_inv (F := F_X12_nights_68 (nI n) kx) (fun k => nI (sm (nDk T d) k)) (fun k => nI (mxF (nDk T d) k)) (fun k => nI (sm (nOl T d) k)) (fun k => nI k) (fun k b => Og σ1 b ∧ gL b 0 72 = dK (tW T) d k) n (fun b => kx (nI (sm (nDk T d) n)) (nI (mxF (nDk T d) n)) (nI (sm (nOl T d) n)) b) ?_ ?_ (n := 1000000) (b0 := σ1) ⟨Og.rf, g1⟩ (by omega)
  · obtain ⟨b, ⟨b1, b2⟩, e⟩ := q
    obtain ⟨σ3, l3, o3, c3⟩ := bk37 b
    refine ⟨σ3, e.trans ?_, q0.tr ⟨fun a ha k => ?_, fun j j1 j2 => ?_, fun j hj => ?_, fun a k ha => ?_, fun a k => ?_⟩⟩
    · rw [ek]
      show cl (f_X12_copies 37 0 36 0 b) _ = _
      rw [cl_of _ l3]
      unfold nightsN
      split
      · rfl
      · split <;> rfl
    · have m36 : a ≠ 36 := fun y => ha (by rw [y]; simp [qM])
      have m37 : a ≠ 37 := fun y => ha (by rw [y]; simp [qM])
      rw [o3.1 a (by simpa using m36), b1.1 a (fun y => ha (by simp only [ghM, lawM, List.mem_cons, List.not_mem_nil, or_false] at y; simp only [qM, lawM, List.mem_cons, List.not_mem_nil, or_false]; omega)), o1.1 a (by simpa using m37)]
    · rw [o3.1 0 (by simp), b1.2.1 j (Or.inl j2), o1.1 0 (by simp)]
    · rw [c3 j hj, b1.1 37 (by simp [ghM, lawM]), c1 j hj]
    · rw [o3.2.1, b1.2.2.1 a k ha, o1.2.1]
    · rw [o3.2.2, b1.2.2.2, o1.2.2]
  · intro rec k b hk hb
    obtain ⟨b1, b2⟩ := hb
    have hTb := b1.tm a1
    have cc : nI k < nI n := nI_lt hk (by omega)
    obtain ⟨s1, l1, r1, o1⟩ := m_fresh hTb hT
    have og1 : Og σ1 s1 := b1.tr (Og.of o1 (by simp [ghM]) (fun j _ => o1.1 0 (by simp) j))
    obtain ⟨s2, l2, g2, r2, d2⟩ := m_nights81 (og1.tm a1) hT r1 (dd := fun i => drI (dK (tW T) d k) i) (drI_l _) (dwF_l _) (by rw [o1.2.1]; exact b2) (fun σ_114 => cl (f_X12_goesHome σ_114) (fun _ σ115 => bn (nI (sm (nDk T d) k) + (gI σ115 0 61)) (fun v4_125 => bn (imx (nI (mxF (nDk T d) k)) (gI σ115 0 61)) (fun v5_136 => bn (nI (sm (nOl T d) k) + (gI σ115 0 62)) (fun v6_145 => rec v4_125 v5_136 v6_145 (nI k + 1) σ115)))))
    have og2 := og1.tr g2
    have r57 : gI s2 0 57 = 63 := by rw [og2.2.1 57 (by omega)]; exact a4
    have r56 : gI s2 0 56 = 0 := by rw [og2.2.1 56 (by omega)]; exact a3'
    obtain ⟨s3, l3, gm⟩ := m_goesHome (og2.tm a1) hT (RM.of_RP r2 hW r57) (drN_ok hT (dK (tW T) d k)) r56
    obtain ⟨m1, m2, m3, m4, m5, m6, -⟩ := gm
    have m5 : gI s3 0 61 = nI (nDk T d k) := m5
    have m6 : gI s3 0 62 = nI (nOl T d k) := m6
    have dd1 := nDk_le hT d k
    have dd2 := mxF_le (nDk_le hT d) k
    refine ⟨s3, ⟨og2.tr (Og.of m1 (fun a ha => ha) m2), by rw [m1.2.1]; exact d2⟩, ?_⟩
    simp only [F_X12_nights_68, if_pos cc, cl_of _ l1, jn_e2]
    refine Eq.trans l2 ?_
    simp only [cl_of _ l3, bn_e, m5, m6, imx_N (show mxF (nDk T d) k < 2147483648 by omega) (show nDk T d k < 2147483648 by omega), nI_add, nI_1]
    rfl
  · intro rec b hb
    have c1 : ¬ nI n < nI n := nI_nlt (Nat.le_refl _) (by omega)
    simp only [F_X12_nights_68, if_neg c1]
theorem q_nights {σ μ : Mm} {t : Nat} {T : Tw} {N : Nt} (h : Bo σ μ t T N) (x y z : Int32) : An (f_X11_nights x y z) (f_X12_nights x y z) σ μ := by
  obtain ⟨hT, hN, ⟨ht, hc, rc⟩, hM⟩ := h
  by_cases v : (¬ x < 0 ∧ ¬ (9999 : Int32) < x) ∧ (¬ y < 1 ∧ ¬ (20 : Int32) < y) ∧ (¬ z < 0 ∧ ¬ (2 : Int32) < z)
  · obtain ⟨v1, v2, v3⟩ := v
    have y0 : ¬ y < 0 := fun q => v2.1 (Int32.lt_trans q (by decide))
    obtain ⟨n, hn, rfl⟩ := in_le (n := 20) (by omega) y0 v2.2
    obtain ⟨τ, t1, t2⟩ := s_drawnNights hc hT x z hn
    obtain ⟨ν, n1, n2⟩ := m_nights hM hT v1 v2 v3 hn
    refine ⟨_, τ, ν, ?_, n1, t2, n2⟩
    unfold f_X11_nights
    simp only [jn_e2, if_neg v1.1, if_neg v1.2, if_neg v2.1, if_neg v2.2, if_neg v3.1, if_neg v3.2, bn_e, ht, cl_of _ t1]
  · refine ⟨-1, σ, pI μ 0 0 0, ?_, ?_, Off.rf, QM.z μ 0⟩
    · unfold f_X11_nights
      simp only [jn_e2]
      repeat' split
      all_goals first
        | rfl
        | (exfalso; apply v; refine ⟨⟨?_, ?_⟩, ⟨?_, ?_⟩, ?_, ?_⟩ <;> assumption)
    · unfold f_X12_nights
      simp only [bn_e, cl_of _ (m_within x 0 9999 _), cl_of _ (m_within y 1 20 _), cl_of _ (m_within z 0 2 _), jn_e2]
      by_cases c1 : ¬ x < 0 ∧ ¬ (9999 : Int32) < x
      · by_cases c2 : ¬ y < 1 ∧ ¬ (20 : Int32) < y
        · by_cases c3 : ¬ z < 0 ∧ ¬ (2 : Int32) < z
          · exact absurd ⟨c1, c2, c3⟩ v
          · simp only [if_pos c1, if_pos c2, if_neg c3, if_neg one0, if_true]
        · simp only [if_pos c1, if_neg c2, if_neg one0, if_true]
      · simp only [if_neg c1, if_true]
