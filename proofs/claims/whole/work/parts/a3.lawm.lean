/-! the reference's steps where a value is wanted -/
def facN (s : Nat → Nat) (n p : Nat) : Nat := if wdT s n p 19 then 1 else if wdT s n p 20 then 2 else if wdT s n p 21 then 3 else if wdT s n p 22 then 4 else 0
theorem m_fact {σ μ : Mm} {s : Nat → Nat} {n p : Nat} (h : Rd σ μ s n p) : f_X12_fact μ = some (nI (facN s n p), μ) := by
  have lw : ∀ i, i < 23 → gI μ 0 6 = 1 → (lg_cmp (gL μ 0 7) (lN (kw27 i)) = 0 ↔ wdT s n p i = true) := fun i hi z => by
    have w := (h.word hi).2
    unfold f_X12_isWord at w
    rw [jn_e2, if_pos z] at w
    by_cases y : lg_cmp (gL μ 0 7) (lN (kw27 i)) = 0
    · rw [if_pos y] at w
      cases e : wdT s n p i
      · rw [e] at w; exact absurd (show (1 : Int32) = b1I false from (Prod.mk.inj (Option.some.inj w)).1) (by decide)
      · exact ⟨fun _ => rfl, fun _ => y⟩
    · rw [if_neg y] at w
      cases e : wdT s n p i
      · exact ⟨fun q => absurd q y, fun q => by cases q⟩
      · rw [e] at w; exact absurd (show (0 : Int32) = b1I true from (Prod.mk.inj (Option.some.inj w)).1) (by decide)
  unfold f_X12_fact facN
  by_cases z : gI μ 0 6 = 1
  · have l19 : lg_cmp (gL μ 0 7) 404923 = 0 ↔ _ := lw 19 (by omega) z
    have l20 : lg_cmp (gL μ 0 7) 240023 = 0 ↔ _ := lw 20 (by omega) z
    have l21 : lg_cmp (gL μ 0 7) 121898 = 0 ↔ _ := lw 21 (by omega) z
    have l22 : lg_cmp (gL μ 0 7) 237470 = 0 ↔ _ := lw 22 (by omega) z
    rw [if_pos z]
    by_cases y1 : wdT s n p 19 = true
    · rw [if_pos (l19.mpr y1), if_pos y1]; rfl
    · rw [if_neg (fun q => y1 (l19.mp q)), if_neg y1]
      by_cases y2 : wdT s n p 20 = true
      · rw [if_pos (l20.mpr y2), if_pos y2]; rfl
      · rw [if_neg (fun q => y2 (l20.mp q)), if_neg y2]
        by_cases y3 : wdT s n p 21 = true
        · rw [if_pos (l21.mpr y3), if_pos y3]; rfl
        · rw [if_neg (fun q => y3 (l21.mp q)), if_neg y3]
          by_cases y4 : wdT s n p 22 = true
          · rw [if_pos (l22.mpr y4), if_pos y4]; rfl
          · rw [if_neg (fun q => y4 (l22.mp q)), if_neg y4]; rfl
  · rw [if_neg z]
    have : ∀ i, wdT s n p i = false := fun i => by
      unfold wdT
      apply decide_eq_false
      intro y
      have q := h.2.2.2.2.2.2.2.1
      rw [y.1] at q
      exact z q
    rw [this 19, this 20, this 21, this 22]
    rfl
theorem vT_fac {s : Nat → Nat} {n p : Nat} {v : Nat × Nat} (h : vT s n p = some v) : (0 < facN s n p ∧ facN s n p < 5 ∧ v.2 = facN s n p ∧ tkK s n p = 2) ∨ (facN s n p = 0 ∧ tkK s n p = 3 ∧ v.2 = 100 + tkV s n p) := by
  unfold vT at h
  unfold facN
  by_cases y1 : wdT s n p 19 = true
  · rw [if_pos y1] at h ⊢; cases h; exact Or.inl ⟨by decide, by decide, rfl, (of_decide_eq_true y1).1⟩
  · rw [if_neg y1] at h ⊢
    by_cases y2 : wdT s n p 20 = true
    · rw [if_pos y2] at h ⊢; cases h; exact Or.inl ⟨by decide, by decide, rfl, (of_decide_eq_true y2).1⟩
    · rw [if_neg y2] at h ⊢
      by_cases y3 : wdT s n p 21 = true
      · rw [if_pos y3] at h ⊢; cases h; exact Or.inl ⟨by decide, by decide, rfl, (of_decide_eq_true y3).1⟩
      · rw [if_neg y3] at h ⊢
        by_cases y4 : wdT s n p 22 = true
        · rw [if_pos y4] at h ⊢; cases h; exact Or.inl ⟨by decide, by decide, rfl, (of_decide_eq_true y4).1⟩
        · rw [if_neg y4] at h ⊢
          by_cases z : tkK s n p = 3
          · rw [if_pos z] at h; cases h; exact Or.inr ⟨rfl, z, rfl⟩
          · rw [if_neg z] at h; cases h
theorem vT_no {s : Nat → Nat} {n p : Nat} (h : vT s n p = none) : facN s n p = 0 ∧ ¬ tkK s n p = 3 := by
  unfold vT at h
  unfold facN
  by_cases y1 : wdT s n p 19 = true
  · rw [if_pos y1] at h; cases h
  · rw [if_neg y1] at h ⊢
    by_cases y2 : wdT s n p 20 = true
    · rw [if_pos y2] at h; cases h
    · rw [if_neg y2] at h ⊢
      by_cases y3 : wdT s n p 21 = true
      · rw [if_pos y3] at h; cases h
      · rw [if_neg y3] at h ⊢
        by_cases y4 : wdT s n p 22 = true
        · rw [if_pos y4] at h; cases h
        · rw [if_neg y4] at h ⊢
          by_cases z : tkK s n p = 3
          · rw [if_pos z] at h; cases h
          · exact ⟨rfl, z⟩
theorem m_isNum {σ μ : Mm} {s : Nat → Nat} {n p : Nat} (h : Rd σ μ s n p) : gI μ 0 6 = 2 ↔ tkK s n p = 3 := by
  have k4 := tkK_le s n p
  rw [h.2.2.2.2.2.2.2.1, show (2 : Int32) = nI 2 from rfl, nI_eq (by omega) (by omega)]
  omega
/-- what is not a loop pops -/
theorem m_pop {μ : Mm} {o : Nat → Bool} {k : Int32 → Int32 → Mm → Option (Int32 × Mm)} : ∀ {d n}, d ≤ 6 → OpOk μ o d → d < n → lq1 (F_X12_reads_152 k μ) n (nI d) = k (nI (popD o d)) 0 μ
  | d, 0, _, _, h => absurd h (by omega)
  | 0, n + 1, _, _, _ => by
    show F_X12_reads_152 k μ _ (nI 0) = _
    unfold F_X12_reads_152
    rw [if_neg (by decide)]; rfl
  | d + 1, n + 1, hd, ho, hn => by
    show F_X12_reads_152 k μ (lq1 (F_X12_reads_152 k μ) n) (nI (d + 1)) = _
    have ih := m_pop (k := k) (show d ≤ 6 by omega) (fun j h1 h2 => ho j h1 (by omega)) (show d < n by omega)
    generalize lq1 (F_X12_reads_152 k μ) n = rc at ih ⊢
    unfold F_X12_reads_152
    have z : (0 : Int32) < nI (d + 1) := nI_lt (a := 0) (b := d + 1) (by omega) (by omega)
    rw [if_pos z, ck_t (inb_nI (by omega) (by omega)), nI_tn (by omega), ho (d + 1) (by omega) (by omega)]
    unfold popD
    cases o (d + 1)
    · rw [if_neg (by decide), if_neg (by decide)]
    · rw [if_pos (by decide), if_pos rfl, show nI (d + 1) + -1 = nI d by rw [show (-1 : Int32) = -nI 1 from rfl, ← Int32.sub_eq_add_neg, pk_sub (by omega), Nat.add_sub_cancel], ih]
theorem m_pop0 {μ : Mm} {o : Nat → Bool} {k : Int32 → Int32 → Mm → Option (Int32 × Mm)} : ∀ {d n}, d ≤ 6 → OpOk μ o d → d < n → lq1 (F_X12_reads_379 0 k μ) n (nI d) = k (nI (popD o d)) 0 μ
  | d, 0, _, _, h => absurd h (by omega)
  | 0, n + 1, _, _, _ => by
    show F_X12_reads_379 0 k μ _ (nI 0) = _
    unfold F_X12_reads_379
    rw [if_neg (by decide)]; rfl
  | d + 1, n + 1, hd, ho, hn => by
    show F_X12_reads_379 0 k μ (lq1 (F_X12_reads_379 0 k μ) n) (nI (d + 1)) = _
    have ih := m_pop0 (k := k) (show d ≤ 6 by omega) (fun j h1 h2 => ho j h1 (by omega)) (show d < n by omega)
    generalize lq1 (F_X12_reads_379 0 k μ) n = rc at ih ⊢
    unfold F_X12_reads_379
    have z : (0 : Int32) < nI (d + 1) := nI_lt (a := 0) (b := d + 1) (by omega) (by omega)
    rw [if_pos z, ck_t (inb_nI (by omega) (by omega)), nI_tn (by omega), ho (d + 1) (by omega) (by omega)]
    unfold popD
    cases o (d + 1)
    · rw [if_neg (by decide), if_neg (by decide)]
    · rw [if_pos (by decide), if_pos rfl, show nI (d + 1) + -1 = nI d by rw [show (-1 : Int32) = -nI 1 from rfl, ← Int32.sub_eq_add_neg, pk_sub (by omega), Nat.add_sub_cancel], ih]
/-- a code is put -/
def muP (μ : Mm) (c : Nat) (v : Int32) : Mm := pI (pI μ 14 c v) 0 23 (nI (c + 1))
theorem muP_f {σ μ : Mm} {s : Nat → Nat} {n p c : Nat} (h : Rd σ μ s n p) (v : Int32) : (∀ j, gI (muP μ c v) 16 j = gI μ 16 j) ∧ gI (muP μ c v) 0 23 = nI (c + 1) ∧ (∀ j, gI (muP μ c v) 14 j = if j = c then v else gI μ 14 j) ∧ (∀ j, gI (muP μ c v) 15 j = gI μ 15 j) ∧ LMf μ (muP μ c v) ∧ Rd σ (muP μ c v) s n p := by
  unfold muP
  refine ⟨fun j => ?_, ?_, fun j => ?_, fun j => ?_, (LMf.pA (by omega)).tr LMf.p0, ?_⟩
  · rw [gI_pI_n (Or.inl (by decide)), gI_pI_n (Or.inl (by decide))]
  · rw [gI_pI_s]
  · rw [gI_pI_n (Or.inl (by decide)), gI_pI]
    by_cases z : j = c
    · rw [if_pos ⟨rfl, z⟩, if_pos z]
    · rw [if_neg (fun y => z y.2), if_neg z]
  · rw [gI_pI_n (Or.inl (by decide)), gI_pI_n (Or.inl (by decide))]
  · exact h.cm (fun j => by rw [gI_pI_n (Or.inl (by decide)), gI_pI_n (Or.inl (by decide))]) (fun j hj => by rw [gI_pI_n (Or.inr (by omega)), gI_pI_n (Or.inl (by decide))]) rfl
/-- a value -/
theorem m_leaf1 {σ μ : Mm} {s : Nat → Nat} {n p c d : Nat} {v : Nat × Nat} {o : Nat → Bool} (h : Rd σ μ s n p) (hd : d < 5) (hc : gI μ 0 23 = nI c) (hc2 : c < 2000) (ho : OpOk μ o d) (hv : vT s n p = some v) (μ2 : Mm) (h2 : f_X12_nextToken (muP μ c (nI v.2)) = some (0, μ2)) : StpL 1 d 1 μ (popD o d) 0 μ2 := by
  intro m
  have fc := m_fact h
  have w16 : f_X12_isWord 10631 μ = _ := (h.word (i := 16) (by omega)).2
  have g40 : f_X12_isSign 40 μ = _ := (h.sign (c := 40) (by omega)).2
  obtain ⟨m1, m2, m3, m4, m5, m6⟩ := muP_f h (c := c) (nI v.2)
  have ho2 : OpOk (muP μ c (nI v.2)) o d := fun j h1 h3 => by rw [m4]; exact ho j h1 h3
  have pv : f_X12_puts (nI v.2) μ = some (0, muP μ c (nI v.2)) := m_puts hc hc2 _
  have d5 : ¬ nI d = 5 := fun z => by have := (nI_eq (b := 5) (by omega) (by omega)).mp z; omega
  have nm := m_isNum h
  have z16 : wdT s n p 16 = false ∧ sgT s n p 40 = false := by
    rcases vT_fac hv with ⟨_, _, _, k2⟩ | ⟨_, k3, _⟩
    · constructor
      · unfold vT at hv
        cases e : wdT s n p 16
        · rfl
        · rw [wd_ex e (by omega) (show 19 < 23 by omega) (by omega), wd_ex e (by omega) (show 20 < 23 by omega) (by omega), wd_ex e (by omega) (show 21 < 23 by omega) (by omega), wd_ex e (by omega) (show 22 < 23 by omega) (by omega), if_neg (show ¬ tkK s n p = 3 by omega)] at hv
          cases hv
      · unfold sgT; exact decide_eq_false (fun w => by omega)
    · exact ⟨by unfold wdT; exact decide_eq_false (fun w => by omega), by unfold sgT; exact decide_eq_false (fun w => by omega)⟩
  rw [z16.1] at w16; rw [z16.2] at g40
  have pp : ∀ k, lq1 (F_X12_reads_152 k (muP μ c (nI v.2))) 1000000 (nI d) = k (nI (popD o d)) 0 (muP μ c (nI v.2)) := fun k => m_pop (by omega) ho2 (by omega)
  show F_X12_reads_11 (lq3 F_X12_reads_11 m) (nI d) (nI 1) μ = lq3 F_X12_reads_11 m (nI (popD o d)) 0 μ2
  generalize lq3 F_X12_reads_11 m = rc
  unfold F_X12_reads_11 J_X12_reads_65
  rcases vT_fac hv with ⟨f0, f5, fv, k2⟩ | ⟨f0, k3, fv⟩
  · have z0 : ¬ nI (facN s n p) = 0 := fun z => by have := (nI_eq (b := 0) (by omega) (by omega)).mp z; omega
    have z1 : (0 : Int32) < nI (facN s n p) := nI_lt (a := 0) f0 (by omega)
    rw [fv] at pv pp h2
    simp only [if_neg (show ¬ nI 1 = 0 by decide), cl_of _ fc, cl_of _ w16, cl_of _ g40, if_pos b1F0, jn_e2, if_neg z0, if_neg d5, if_pos z1, cl_of _ pv, pp, cl_of _ h2]
  · rw [f0] at fc
    rw [fv] at pv pp h2
    have e1 : (100 : Int32) + gI μ 0 8 = nI (100 + tkV s n p) := by
      rw [h.2.2.2.2.2.2.2.2.2 k3, show (100 : Int32) = nI 100 from rfl, nI_add]
    simp only [if_neg (show ¬ nI 1 = 0 by decide), cl_of _ fc, cl_of _ w16, cl_of _ g40, if_pos b1F0, jn_e2, show nI 0 = 0 from rfl, if_true, if_pos (nm.mpr k3), if_neg d5, if_neg (show ¬ (0 : Int32) < 0 by decide), e1, cl_of _ pv, pp, cl_of _ h2]
/-- `not`, and the opening sign -/
def muO (μ : Mm) (c d : Nat) (v u : Int32) : Mm := pI (pI (muP μ c v) 15 (d + 1) u) 16 (d + 1) 0
theorem muO_f {σ μ : Mm} {s : Nat → Nat} {n p c d : Nat} (h : Rd σ μ s n p) (v u : Int32) : (∀ j, gI (muO μ c d v u) 16 j = if j = d + 1 then 0 else gI μ 16 j) ∧ gI (muO μ c d v u) 0 23 = nI (c + 1) ∧ (∀ j, gI (muO μ c d v u) 14 j = if j = c then v else gI μ 14 j) ∧ (∀ j, gI (muO μ c d v u) 15 j = if j = d + 1 then u else gI μ 15 j) ∧ LMf μ (muO μ c d v u) ∧ Rd σ (muO μ c d v u) s n p := by
  obtain ⟨m1, m2, m3, m4, m5, m6⟩ := muP_f h (c := c) v
  unfold muO
  refine ⟨fun j => ?_, ?_, fun j => ?_, fun j => ?_, m5.tr ((LMf.pA (by omega)).tr (LMf.pA (by omega))), ?_⟩
  · rw [gI_pI]
    by_cases z : j = d + 1
    · rw [if_pos ⟨rfl, z⟩, if_pos z]
    · rw [if_neg (fun y => z y.2), if_neg z, gI_pI_n (Or.inl (by decide)), m1]
  · rw [gI_pI_n (Or.inl (by decide)), gI_pI_n (Or.inl (by decide)), m2]
  · rw [gI_pI_n (Or.inl (by decide)), gI_pI_n (Or.inl (by decide)), m3]
  · rw [gI_pI_n (Or.inl (by decide)), gI_pI]
    by_cases z : j = d + 1
    · rw [if_pos ⟨rfl, z⟩, if_pos z]
    · rw [if_neg (fun y => z y.2), if_neg z, m4]
  · exact m6.cm (fun j => by rw [gI_pI_n (Or.inl (by decide)), gI_pI_n (Or.inl (by decide))]) (fun j hj => by rw [gI_pI_n (Or.inl (by decide)), gI_pI_n (Or.inl (by decide))]) rfl
theorem fac_n {s : Nat → Nat} {n p : Nat} (h : wdT s n p 16 = true ∨ sgT s n p 40 = true) : facN s n p = 0 ∧ vT s n p = none := by
  have w : ∀ i, 18 < i → i < 23 → wdT s n p i = false := fun i h1 h2 => by
    rcases h with h | h
    · exact wd_ex h (by omega) h2 (by omega)
    · exact sg_wd h
  have k3 : ¬ tkK s n p = 3 := fun z => by
    rcases h with h | h
    · have := (of_decide_eq_true h).1; omega
    · have := (of_decide_eq_true h).1; omega
  unfold facN vT
  rw [w 19 (by omega) (by omega), w 20 (by omega) (by omega), w 21 (by omega) (by omega), w 22 (by omega) (by omega), if_neg k3]
  exact ⟨rfl, rfl⟩
theorem m_open1 {σ μ : Mm} {s : Nat → Nat} {n p c d : Nat} (h : Rd σ μ s n p) (hd : d < 5) (hc : gI μ 0 23 = nI c) (hc2 : c < 2000) (b : Bool) (hb : if b then wdT s n p 16 = true else sgT s n p 40 = true) (μ2 : Mm) (h2 : f_X12_nextToken (muO μ c d (if b then 30 else 28) (if b then 1 else 2)) = some (0, μ2)) : StpL 1 d 1 μ (d + 1) 1 μ2 := by
  intro m
  have fc := m_fact h
  have w16 : f_X12_isWord 10631 μ = _ := (h.word (i := 16) (by omega)).2
  have g40 : f_X12_isSign 40 μ = _ := (h.sign (c := 40) (by omega)).2
  have pv : ∀ v, f_X12_puts v μ = some (0, muP μ c v) := fun v => m_puts hc hc2 v
  have d5 : ¬ nI d = 5 := fun z => by have := (nI_eq (b := 5) (by omega) (by omega)).mp z; omega
  have d1 : nI d + 1 = nI (d + 1) := nI_1 d
  have id7 : inb (nI (d + 1)) 7 = true := inb_nI (show d + 1 < 7 by omega) (by omega)
  have td : (nI (d + 1)).toNatClampNeg = d + 1 := nI_tn (by omega)
  have nz : vp_nar .boolean (0 : Int32) = 0 := by decide
  show F_X12_reads_11 (lq3 F_X12_reads_11 m) (nI d) (nI 1) μ = lq3 F_X12_reads_11 m (nI (d + 1)) (nI 1) μ2
  generalize lq3 F_X12_reads_11 m = rc
  unfold muO at h2
  unfold F_X12_reads_11 J_X12_reads_65 J_X12_reads_99
  cases b
  · have hb : sgT s n p 40 = true := hb
    rw [(fac_n (Or.inr hb)).1] at fc
    rw [hb] at g40; rw [sg_wd hb] at w16
    have h2 : f_X12_nextToken (pI (pI (muP μ c 28) 15 (d + 1) 2) 16 (d + 1) 0) = some (0, μ2) := h2
    simp only [if_neg (show ¬ nI 1 = 0 by decide), cl_of _ fc, cl_of _ w16, cl_of _ g40, if_pos b1F0, if_neg b1T0, jn_e2, show nI 0 = 0 from rfl, if_true, if_neg d5, cl_of _ (pv _), d1, ck_t id7, td, bn_e, nz, cl_of _ h2]
  · have hb : wdT s n p 16 = true := hb
    rw [(fac_n (Or.inl hb)).1] at fc
    rw [hb] at w16; rw [wd_sg hb] at g40
    have h2 : f_X12_nextToken (pI (pI (muP μ c 30) 15 (d + 1) 1) 16 (d + 1) 0) = some (0, μ2) := h2
    simp only [if_neg (show ¬ nI 1 = 0 by decide), cl_of _ fc, cl_of _ w16, cl_of _ g40, if_pos b1F0, if_neg b1T0, jn_e2, show nI 0 = 0 from rfl, if_true, if_neg d5, cl_of _ (pv _), d1, ck_t id7, td, bn_e, nz, cl_of _ h2]
/-- no value stands where one is wanted -/
theorem m_fail1 {σ μ : Mm} {s : Nat → Nat} {n p d : Nat} (h : Rd σ μ s n p) (hd : d ≤ 5) (m : Nat) :
    (vT s n p = none → wdT s n p 16 = false → sgT s n p 40 = false → lq3 F_X12_reads_11 (m + 1) (nI d) (nI 1) μ = cl (f_X12_fails 1 μ) (fun r σ => some (r, σ))) ∧
    ((∃ v, vT s n p = some v) ∨ wdT s n p 16 = true ∨ sgT s n p 40 = true → d = 5 → lq3 F_X12_reads_11 (m + 1) (nI d) (nI 1) μ = cl (f_X12_fails 5 μ) (fun r σ => some (r, σ))) := by
  have fc := m_fact h
  have w16 : f_X12_isWord 10631 μ = _ := (h.word (i := 16) (by omega)).2
  have g40 : f_X12_isSign 40 μ = _ := (h.sign (c := 40) (by omega)).2
  have nm := m_isNum h
  show (_ → _ → _ → F_X12_reads_11 (lq3 F_X12_reads_11 m) (nI d) (nI 1) μ = _) ∧ (_ → _ → F_X12_reads_11 (lq3 F_X12_reads_11 m) (nI d) (nI 1) μ = _)
  generalize lq3 F_X12_reads_11 m = rc
  unfold F_X12_reads_11 J_X12_reads_65
  refine ⟨fun hv h1 h2 => ?_, fun hc h5 => ?_⟩
  · obtain ⟨f0, k3⟩ := vT_no hv
    rw [f0] at fc; rw [h1] at w16; rw [h2] at g40
    simp only [if_neg (show ¬ nI 1 = 0 by decide), cl_of _ fc, cl_of _ w16, cl_of _ g40, if_pos b1F0, jn_e2, show nI 0 = 0 from rfl, if_true, if_neg (fun z => k3 (nm.mp z))]
  · have d5 : nI d = 5 := by rw [h5]; rfl
    simp only [if_neg (show ¬ nI 1 = 0 by decide), cl_of _ fc, cl_of _ w16, cl_of _ g40, jn_e2, d5, if_true]
    rcases hc with ⟨v, hv⟩ | hn | hp
    · rcases vT_fac hv with ⟨f0, f5, fv, k2⟩ | ⟨f0, k3, fv⟩
      · have z0 : ¬ nI (facN s n p) = 0 := fun z => by have := (nI_eq (b := 0) (by omega) (by omega)).mp z; omega
        rw [if_neg z0]
      · simp only [if_pos (nm.mpr k3), ite_self]
    · simp only [hn, if_neg b1T0, ite_self]
    · simp only [hp, if_neg b1T0, ite_self]
