/-- a fact or a number: the class's step, the reference's code -/
def vT (s : Nat → Nat) (n p : Nat) : Option (Nat × Nat) := if wdT s n p 19 then some (8, 1) else if wdT s n p 20 then some (9, 2) else if wdT s n p 21 then some (10, 3) else if wdT s n p 22 then some (11, 4) else if tkK s n p = 3 then some (12 + tkV s n p, 100 + tkV s n p) else none
theorem vT_lt {s : Nat → Nat} {n p : Nat} {v : Nat × Nat} (hp : p ≤ n) (h : vT s n p = some v) : 8 ≤ v.1 ∧ v.1 < 32768 ∧ isV (nI v.2) ∧ p < tkE s n p ∧ ∀ x, valS x (nI v.1) = valM x (nI v.2) := by
  unfold vT at h
  have wd : ∀ i, wdT s n p i = true → p < tkE s n p := fun i hi => kw_adv hp (Or.inl (of_decide_eq_true hi).1)
  split at h
  · rename_i z; cases h; exact ⟨by decide, by decide, Or.inl rfl, wd _ z, fun x => rfl⟩
  · split at h
    · rename_i z; cases h; exact ⟨by decide, by decide, Or.inr (Or.inl rfl), wd _ z, fun x => rfl⟩
    · split at h
      · rename_i z; cases h; exact ⟨by decide, by decide, Or.inr (Or.inr (Or.inl rfl)), wd _ z, fun x => rfl⟩
      · split at h
        · rename_i z; cases h; exact ⟨by decide, by decide, Or.inr (Or.inr (Or.inr (Or.inl rfl))), wd _ z, fun x => rfl⟩
        · split at h
          · rename_i z
            cases h
            have vl := tkV_lt (σ := (fun _ _ => 0, fun _ _ => 0, fun _ _ => 0)) hp z
            have ge : ¬ nI (100 + tkV s n p) < 100 := fun w => by have := (nI_ltI (b := 100) (by omega) (by omega)).mp w; omega
            refine ⟨by show 8 ≤ 12 + _; omega, by show 12 + _ < 32768; omega, Or.inr (Or.inr (Or.inr (Or.inr ge))), kw_adv hp (Or.inr z), fun x => ?_⟩
            show valS x (nI (12 + tkV s n p)) = valM x (nI (100 + tkV s n p))
            unfold valS valM
            have ne : ∀ k, k < 12 → ¬ nI (12 + tkV s n p) = nI k := fun k hk w => by have := (nI_eq (by omega) (by omega)).mp w; omega
            have n8 : ¬ nI (12 + tkV s n p) = (8 : Int32) := ne 8 (by omega)
            have n9 : ¬ nI (12 + tkV s n p) = (9 : Int32) := ne 9 (by omega)
            have n10 : ¬ nI (12 + tkV s n p) = (10 : Int32) := ne 10 (by omega)
            have n11 : ¬ nI (12 + tkV s n p) = (11 : Int32) := ne 11 (by omega)
            rw [if_neg n8, if_neg n9, if_neg n10, if_neg n11, if_pos ge, show (12 : Int32) = nI 12 from rfl, show (100 : Int32) = nI 100 from rfl, pk_sub (by omega), pk_sub (by omega), Nat.add_sub_cancel_left, Nat.add_sub_cancel_left]
          · cases h
/-- the class's part -/
theorem c_part {σ μ : Mm} {s : Nat → Nat} {n p d b1 : Nat} (h : Rd σ μ s n p) (hb : isLaw b1 = true) (hd : d ≤ 5) (fr0 : Nat → Int32 → Int32 → Mm → Option (Int32 × Mm)) (fr1 : Nat → Int32 → Mm → Option (Int32 × Mm)) :
    (∀ v, vT s n p = some v → d < 5 → fb_X6_readPart fr0 fr1 b1 (nI d) σ = cl (f_X8_advance σ) (fun _ σ118 => cl (f_X1_add b1 (nI v.1) σ118) (fun _ σ199 => some ((1 : Int32), σ199)))) ∧
    (wdT s n p 16 = true → d < 5 → fb_X6_readPart fr0 fr1 b1 (nI d) σ = cl (f_X8_advance σ) (fun _ σ118 => cl (fr1 b1 (nI (d + 1)) σ118) (fun r163 σ163 => (if r163 = 0 then some ((0 : Int32), σ163) else cl (f_X1_add b1 (0 : Int32) σ163) (fun _ σ173 => some ((1 : Int32), σ173)))))) ∧
    (sgT s n p 40 = true → d < 5 → fb_X6_readPart fr0 fr1 b1 (nI d) σ = cl (f_X8_advance σ) (fun _ σ118 => cl (fr0 b1 (0 : Int32) (nI (d + 1)) σ118) (fun r132 σ132 => (if r132 = 0 then some ((0 : Int32), σ132) else cl (f_X6_readSign (41 : Int32) σ132) (fun r141 σ141 => (if r141 = 0 then some ((0 : Int32), σ141) else some ((1 : Int32), σ141))))))) ∧
    ((∃ v, vT s n p = some v) ∨ wdT s n p 16 = true ∨ sgT s n p 40 = true → d = 5 → fb_X6_readPart fr0 fr1 b1 (nI d) σ = cl (f_X6_wrong (5 : Int32) σ) (fun r110 σ110 => some (r110, σ110))) ∧
    (vT s n p = none → wdT s n p 16 = false → sgT s n p 40 = false → fb_X6_readPart fr0 fr1 b1 (nI d) σ = cl (f_X6_wrong (1 : Int32) σ) (fun r99 σ99 => some (r99, σ99))) := by
  obtain ⟨_, _, _, h4, h5, h6⟩ := id h
  have w16 : f_X8_isWord 16 σ = _ := (h.word (i := 16) (by omega)).1
  have g40 : f_X8_isSign 40 σ = _ := (h.sign (c := 40) (by omega)).1
  have k4 := tkK_le s n p
  have e2 : nI (tkK s n p) = 2 ↔ tkK s n p = 2 := kI k4 (c := 2) (by omega)
  have e3 : nI (tkK s n p) = 3 ↔ tkK s n p = 3 := kI k4 (c := 3) (by omega)
  have l5 : nI d < 5 ↔ d < 5 := nI_ltI (b := 5) (by omega) (by omega)
  have d1 : nI d + 1 = nI (d + 1) := nI_1 d
  -- whether a fact stands here
  have fc : ∀ (A B : Option (Int32 × Mm)), (if gI σ 4 2 = 2 then (if gI σ 4 6 < 19 then A else if 22 < gI σ 4 6 then A else B) else A) = if (wdT s n p 19 || wdT s n p 20 || wdT s n p 21 || wdT s n p 22) = true then B else A := by
    intro A B
    rw [h5.2.2.1]
    by_cases z : tkK s n p = 2
    · rw [if_pos (e2.mpr z), (h5.2.2.2.1 z).2]
      have wd : ∀ i, i < 23 → wdT s n p i = decide (wxF (tk32 s n p) 23 = some i) := fun i hi => by
        unfold wdT
        rw [decide_eq_decide, wxF_iff hi]
        exact ⟨fun y => y.2.symm, fun y => ⟨z, y.symm⟩⟩
      rw [wd 19 (by omega), wd 20 (by omega), wd 21 (by omega), wd 22 (by omega)]
      cases e : wxF (tk32 s n p) 23 with
      | none => rw [oI_none, if_pos (by decide)]; rfl
      | some i =>
        have hi := (wxF_some e).1
        have k1 : nI i < 19 ↔ i < 19 := nI_ltI (b := 19) (by omega) (by omega)
        have k2 : (22 : Int32) < nI i ↔ 22 < i := nI_ltI (a := 22) (by omega) (by omega)
        rw [oI_some]
        by_cases y : i < 19
        · rw [if_pos (k1.mpr y)]
          have n1 : i ≠ 19 := by omega
          have n2 : i ≠ 20 := by omega
          have n3 : i ≠ 21 := by omega
          have n4 : i ≠ 22 := by omega
          simp [n1, n2, n3, n4]
        · rw [if_neg (fun w => y (k1.mp w)), if_neg (fun w => by have := k2.mp w; omega)]
          have : i = 19 ∨ i = 20 ∨ i = 21 ∨ i = 22 := by omega
          rcases this with rfl | rfl | rfl | rfl <;> rfl
    · rw [if_neg (fun w => z (e2.mp w))]
      have : ∀ i, wdT s n p i = false := fun i => by unfold wdT; exact decide_eq_false (fun y => z y.1)
      rw [this 19, this 20, this 21, this 22]; rfl
  have wv : ∀ i, i < 23 → wdT s n p i = true → gI σ 4 6 = nI i := fun i hi y => by
    have y := of_decide_eq_true y
    rw [(h5.2.2.2.1 y.1).2, (wxF_iff hi).mpr y.2.symm]; rfl
  have sub : ∀ i, i < 4 → (8 : Int32) + nI (19 + i) - 19 = nI (8 + i) := by decide
  unfold fb_X6_readPart
  rw [ck_t hb]
  simp only [jn_e2]
  rw [fc]
  unfold J_X6_readPart_40 J_X6_readPart_103
  simp only [cl_of _ w16, cl_of _ g40, bn_e, jn_e2, h5.2.2.1]
  refine ⟨fun v hv hd5 => ?_, fun hn hd5 => ?_, fun hp hd5 => ?_, fun hc hd5 => ?_, fun h1 h2 h3 => ?_⟩
  · have dj : (∃ i, i < 4 ∧ wdT s n p (19 + i) = true ∧ v = (8 + i, 1 + i) ∧ (wdT s n p 19 || wdT s n p 20 || wdT s n p 21 || wdT s n p 22) = true) ∨ (tkK s n p = 3 ∧ v = (12 + tkV s n p, 100 + tkV s n p) ∧ ¬ (wdT s n p 19 || wdT s n p 20 || wdT s n p 21 || wdT s n p 22) = true) := by
      unfold vT at hv
      split at hv
      · rename_i y; cases hv; exact Or.inl ⟨0, by omega, y, rfl, by simp [y]⟩
      · split at hv
        · rename_i y; cases hv; exact Or.inl ⟨1, by omega, y, rfl, by simp [y]⟩
        · split at hv
          · rename_i y; cases hv; exact Or.inl ⟨2, by omega, y, rfl, by simp [y]⟩
          · split at hv
            · rename_i y; cases hv; exact Or.inl ⟨3, by omega, y, rfl, by simp [y]⟩
            · rename_i y0 y1 y2 y3
              split at hv
              · rename_i y; cases hv; exact Or.inr ⟨y, rfl, by simp [y0, y1, y2, y3]⟩
              · cases hv
    rcases dj with ⟨i, hi, y, hv2, hor⟩ | ⟨y, hv2, zo⟩
    · have z16 := wd_ex y (by omega) (show 16 < 23 by omega) (by omega)
      have z40 := wd_sg (a := 40) y
      have w2 : tkK s n p = 2 := (of_decide_eq_true y).1
      rw [z16, z40, wv (19 + i) (by omega) y, sub i hi, hv2]
      simp only [if_pos hor, if_pos (l5.mpr hd5), if_pos b1F0, if_neg one0, if_true, if_false, if_pos (e2.mpr w2), if_neg (fun w => absurd (e3.mp w) (by omega))]
    · have z16 : wdT s n p 16 = false := by unfold wdT; exact decide_eq_false (fun w => by omega)
      have z40 : sgT s n p 40 = false := by unfold sgT; exact decide_eq_false (fun w => by omega)
      rw [z16, z40, h5.2.2.2.2.1 y, hv2, show (12 : Int32) + nI (tkV s n p) = nI (12 + tkV s n p) by rw [show (12 : Int32) = nI 12 from rfl, nI_add]]
      simp only [if_neg zo, if_pos (l5.mpr hd5), if_pos b1F0, if_neg one0, if_true, if_false, if_pos (e3.mpr y)]
  · have zo : ¬ (wdT s n p 19 || wdT s n p 20 || wdT s n p 21 || wdT s n p 22) = true := by
      rw [wd_ex hn (by omega) (show 19 < 23 by omega) (by omega), wd_ex hn (by omega) (show 20 < 23 by omega) (by omega), wd_ex hn (by omega) (show 21 < 23 by omega) (by omega), wd_ex hn (by omega) (show 22 < 23 by omega) (by omega)]; decide
    rw [hn, wd_sg hn, d1]
    simp only [if_neg zo, if_pos (l5.mpr hd5), if_pos b1F0, if_neg b1T0, if_neg one0, if_true, if_false]
  · have zo : ¬ (wdT s n p 19 || wdT s n p 20 || wdT s n p 21 || wdT s n p 22) = true := by
      rw [sg_wd hp, sg_wd hp, sg_wd hp, sg_wd hp]; decide
    rw [hp, sg_wd (i := 16) hp, d1]
    simp only [if_neg zo, if_pos (l5.mpr hd5), if_pos b1F0, if_neg b1T0, if_neg one0, if_true, if_false]
  · have n5 : ¬ nI d < 5 := fun w => by have := l5.mp w; omega
    simp only [if_neg n5, if_true]
    rcases hc with ⟨v, hv⟩ | hn | hp
    · unfold vT at hv
      by_cases zo : (wdT s n p 19 || wdT s n p 20 || wdT s n p 21 || wdT s n p 22) = true
      · simp only [if_pos zo, if_neg one0]
      · have o1 : wdT s n p 19 = false := by cases e : wdT s n p 19; rfl; exact absurd (by simp [e]) zo
        have o2 : wdT s n p 20 = false := by cases e : wdT s n p 20; rfl; exact absurd (by simp [e]) zo
        have o3 : wdT s n p 21 = false := by cases e : wdT s n p 21; rfl; exact absurd (by simp [e]) zo
        have o4 : wdT s n p 22 = false := by cases e : wdT s n p 22; rfl; exact absurd (by simp [e]) zo
        rw [o1, o2, o3, o4, if_neg (by decide), if_neg (by decide), if_neg (by decide), if_neg (by decide)] at hv
        split at hv
        · rename_i y
          simp only [if_neg zo, if_pos (e3.mpr y), ite_self]
        · cases hv
    · simp only [hn, if_neg b1T0, if_neg one0, ite_self]
    · simp only [hp, if_neg b1T0, if_neg one0, ite_self]
  · unfold vT at h1
    have zo : ¬ (wdT s n p 19 || wdT s n p 20 || wdT s n p 21 || wdT s n p 22) = true := by
      intro w
      cases e1 : wdT s n p 19
      · cases e2 : wdT s n p 20
        · cases e3 : wdT s n p 21
          · cases e4 : wdT s n p 22
            · rw [e1, e2, e3, e4] at w; cases w
            · rw [e1, e2, e3, e4] at h1; cases h1
          · rw [e1, e2, e3] at h1; cases h1
        · rw [e1, e2] at h1; cases h1
      · rw [e1] at h1; cases h1
    have nk : ¬ tkK s n p = 3 := fun y => by
      have o1 : wdT s n p 19 = false := by cases e : wdT s n p 19; rfl; exact absurd (by simp [e]) zo
      have o2 : wdT s n p 20 = false := by cases e : wdT s n p 20; rfl; exact absurd (by simp [e]) zo
      have o3 : wdT s n p 21 = false := by cases e : wdT s n p 21; rfl; exact absurd (by simp [e]) zo
      have o4 : wdT s n p 22 = false := by cases e : wdT s n p 22; rfl; exact absurd (by simp [e]) zo
      rw [o1, o2, o3, o4, if_neg (by decide), if_neg (by decide), if_neg (by decide), if_neg (by decide), if_pos y] at h1
      cases h1
    simp only [if_neg zo, h2, h3, if_true, if_pos b1F0, if_neg (fun w => nk (e3.mp w))]
