/-! what a level of the law means -/
theorem semC_bin2 {f : Nat → Int32} {i j k h : Nat} {E1 E2 : Vx → Int32} {c : Int32} (hij : i ≤ j) (hjk : j ≤ k) (s1 : SemC f i j h E1) (s2 : SemC f j k (h + 1) E2) (hc : f k = c) (h8 : c < 8) (h0 : ¬ c = 0) : SemC f i (k + 1) h (fun x => jnS c (E1 x) (E2 x)) := fun x st hs => by
  rw [show k + 1 - i = (j - i + (k - j)) + 1 by omega]
  show stepS x (f (i + (j - i + (k - j)))) (runS x f i (j - i + (k - j)) st) = _
  rw [runS_add, s1 x st hs, show i + (j - i) = j by omega, s2 x (E1 x :: st) (by show st.length + 1 ≤ h + 1; omega), show i + (j - i + (k - j)) = k by omega, hc]
  unfold stepS
  rw [if_pos h8, if_neg h0]
def LkQ (k : Nat) (g : Nat → Int32) (c c' d : Nat) (o : Nat → Bool) (E : Vx → Int32) : Prop := if k = 0 then L0Sem g c c' d o E else if k = 1 then L1Sem g c c' d o E else if k = 2 then L2Sem g c c' d o E else if k = 3 then L3Sem g c c' d o E else PartSem g c c' d o E
def AcQ (k i : Nat) (g : Nat → Int32) (c c' d : Nat) (o : Nat → Bool) (E : Vx → Int32) : Prop := if k = 1 ∧ i = 0 then L2Sem g c c' d o E else LkQ k g c c' d o E
theorem LkQ.congr {k : Nat} {g g' : Nat → Int32} {c c' d : Nat} {o : Nat → Bool} {E : Vx → Int32} (h : LkQ k g c c' d o E) (e : ∀ j, c ≤ j → j < c' → g' j = g j) : LkQ k g' c c' d o E := by
  have r : ∀ x S, rnE x g' c (c' - c) S = rnE x g c (c' - c) S := fun x S => rnE_congr (fun j h1 h2 => e j h1 (by omega))
  unfold LkQ at h ⊢
  by_cases k0 : k = 0
  · rw [if_pos k0] at h ⊢; intro x f a1 a2 a3 a4 a5 a6; rw [r]; exact h x f a1 a2 a3 a4 a5 a6
  · rw [if_neg k0] at h ⊢
    by_cases k1 : k = 1
    · rw [if_pos k1] at h ⊢; intro x f a1 a2 a3 a4 a5; rw [r]; exact h x f a1 a2 a3 a4 a5
    · rw [if_neg k1] at h ⊢
      by_cases k2 : k = 2
      · rw [if_pos k2] at h ⊢; intro x f a1 a2 a3 a4; rw [r]; exact h x f a1 a2 a3 a4
      · rw [if_neg k2] at h ⊢
        by_cases k3 : k = 3
        · rw [if_pos k3] at h ⊢; intro x f a1 a2; rw [r]; exact h x f a1 a2
        · rw [if_neg k3] at h ⊢; intro x f a1; rw [r]; exact h x f a1
theorem AcQ.congr {k i : Nat} {g g' : Nat → Int32} {c c' d : Nat} {o : Nat → Bool} {E : Vx → Int32} (h : AcQ k i g c c' d o E) (e : ∀ j, c ≤ j → j < c' → g' j = g j) : AcQ k i g' c c' d o E := by
  unfold AcQ at h ⊢
  by_cases z : k = 1 ∧ i = 0
  · rw [if_pos z] at h ⊢; exact LkQ.congr (k := 2) h e
  · rw [if_neg z] at h ⊢; exact h.congr e
theorem acQ_0 {k : Nat} {g : Nat → Int32} {c c' d : Nat} {o : Nat → Bool} {E : Vx → Int32} (hk : k < 4) (hp : popD o d = d) (h : LkQ (k + 1) g c c' d o E) : AcQ k 0 g c c' d o E := by
  have : k = 0 ∨ k = 1 ∨ k = 2 ∨ k = 3 := by omega
  rcases this with rfl | rfl | rfl | rfl
  · exact l0_l1 h
  · exact h
  · exact l2_l3 h
  · exact l3_part hp h
theorem acQ_e {k i : Nat} {g : Nat → Int32} {c c' d : Nat} {o : Nat → Bool} {E : Vx → Int32} (h : AcQ k i g c c' d o E) : LkQ k g c c' d o E := by
  unfold AcQ at h
  by_cases z : k = 1 ∧ i = 0
  · rw [if_pos z] at h; rw [z.1]; exact l1_l2 h
  · rw [if_neg z] at h; exact h
theorem acQ_s {k i : Nat} {g : Nat → Int32} {c c1 c2 d p n : Nat} {s : Nat → Nat} {o : Nat → Bool} {E1 E2 : Vx → Int32} {op : Nat × Nat} (hk : k < 4) (hp : popD o d = d) (hi : k = 1 → i = 0) (hop : opT s n p k = some op) (hc : c ≤ c1) (hc2 : c1 < c2) (h1 : AcQ k i g c c1 d o E1) (hg : g c1 = nI op.2) (h2 : LkQ (k + 1) g (c1 + 1) c2 d o E2) : AcQ k (i + 1) g c c2 d o (fun x => jnS (nI op.1) (E1 x) (E2 x)) := by
  have : k = 0 ∨ k = 1 ∨ k = 2 ∨ k = 3 := by omega
  rcases this with rfl | rfl | rfl | rfl
  · have h1 : L0Sem g c c1 d o E1 := h1
    have h2 : L1Sem g (c1 + 1) c2 d o E2 := h2
    show L0Sem g c c2 d o _
    unfold opT at hop
    rw [if_pos rfl] at hop
    split at hop
    · cases hop; exact l0_and (op := 26) (Or.inl rfl) hc hc2 h1 hg h2
    · split at hop
      · cases hop; exact l0_and (op := 27) (Or.inr rfl) hc hc2 h1 hg h2
      · cases hop
  · have i0 := hi rfl
    subst i0
    have h1 : L2Sem g c c1 d o E1 := h1
    have h2 : L2Sem g (c1 + 1) c2 d o E2 := h2
    show L1Sem g c c2 d o _
    unfold opT at hop
    rw [if_neg (by decide), if_pos rfl] at hop
    split at hop
    · cases hop; exact l1_cmp (op := 24) (Or.inl rfl) hc hc2 h1 hg h2
    · split at hop
      · cases hop; exact l1_cmp (op := 25) (Or.inr rfl) hc hc2 h1 hg h2
      · cases hop
  · have h1 : L2Sem g c c1 d o E1 := h1
    have h2 : L3Sem g (c1 + 1) c2 d o E2 := h2
    show L2Sem g c c2 d o _
    unfold opT at hop
    rw [if_neg (by decide), if_neg (by decide), if_pos rfl] at hop
    split at hop
    · cases hop; exact l2_sum (op := 20) (Or.inl rfl) hc hc2 h1 hg h2
    · split at hop
      · cases hop; exact l2_sum (op := 21) (Or.inr rfl) hc hc2 h1 hg h2
      · cases hop
  · have h1 : L3Sem g c c1 d o E1 := h1
    have h2 : PartSem g (c1 + 1) c2 d o E2 := h2
    show L3Sem g c c2 d o _
    unfold opT at hop
    rw [if_neg (by decide), if_neg (by decide), if_neg (by decide)] at hop
    split at hop
    · cases hop; exact l3_mul hc hc2 hp h1 hg h2
    · cases hop
theorem op_rng {s : Nat → Nat} {n p k : Nat} {op : Nat × Nat} (h : opT s n p k = some op) : 0 < op.1 ∧ op.1 < 8 := by
  unfold opT at h
  split at h
  · split at h
    · cases h; decide
    · split at h
      · cases h; decide
      · cases h
  · split at h
    · split at h
      · cases h; decide
      · split at h
        · cases h; decide
        · cases h
    · split at h
      · split at h
        · cases h; decide
        · split at h
          · cases h; decide
          · cases h
      · split at h
        · cases h; decide
        · cases h
theorem op_isO {s : Nat → Nat} {n p k : Nat} {op : Nat × Nat} (h : opT s n p k = some op) : isO (nI op.2) := by
  unfold opT at h
  split at h
  · split at h
    · cases h; exact Or.inr (Or.inr (Or.inr (Or.inr (Or.inr (Or.inl rfl)))))
    · split at h
      · cases h; exact Or.inr (Or.inr (Or.inr (Or.inr (Or.inr (Or.inr rfl)))))
      · cases h
  · split at h
    · split at h
      · cases h; exact Or.inr (Or.inr (Or.inr (Or.inl rfl)))
      · split at h
        · cases h; exact Or.inr (Or.inr (Or.inr (Or.inr (Or.inl rfl))))
        · cases h
    · split at h
      · split at h
        · cases h; exact Or.inl rfl
        · split at h
          · cases h; exact Or.inr (Or.inl rfl)
          · cases h
      · split at h
        · cases h; exact Or.inr (Or.inr (Or.inl rfl))
        · cases h
/-! with how deep it stands -/
def LkS (k : Nat) (g : Nat → Int32) (c c' d : Nat) (o : Nat → Bool) (E : Vx → Int32) : Prop := LkQ k g c c' d o E ∧ Dp g c c' d d o
def AcS (k i : Nat) (g : Nat → Int32) (c c' d : Nat) (o : Nat → Bool) (E : Vx → Int32) : Prop := AcQ k i g c c' d o E ∧ Dp g c c' d d o
def PtS (g : Nat → Int32) (c c' d : Nat) (o : Nat → Bool) (E : Vx → Int32) : Prop := PartSem g c c' d o E ∧ Dp g c c' d (popD o d) o
theorem LkS.congr {k : Nat} {g g' : Nat → Int32} {c c' d : Nat} {o : Nat → Bool} {E : Vx → Int32} (h : LkS k g c c' d o E) (e : ∀ j, c ≤ j → j < c' → g' j = g j) : LkS k g' c c' d o E := ⟨h.1.congr e, h.2.congr e⟩
theorem AcS.congr {k i : Nat} {g g' : Nat → Int32} {c c' d : Nat} {o : Nat → Bool} {E : Vx → Int32} (h : AcS k i g c c' d o E) (e : ∀ j, c ≤ j → j < c' → g' j = g j) : AcS k i g' c c' d o E := ⟨h.1.congr e, h.2.congr e⟩
theorem acS_0 {k : Nat} {g : Nat → Int32} {c c' d : Nat} {o : Nat → Bool} {E : Vx → Int32} (hk : k < 4) (hp : popD o d = d) (h : LkS (k + 1) g c c' d o E) : AcS k 0 g c c' d o E := ⟨acQ_0 hk hp h.1, h.2⟩
theorem acS_e {k i : Nat} {g : Nat → Int32} {c c' d : Nat} {o : Nat → Bool} {E : Vx → Int32} (h : AcS k i g c c' d o E) : LkS k g c c' d o E := ⟨acQ_e h.1, h.2⟩
theorem acS_s {k i : Nat} {g : Nat → Int32} {c c1 c2 d p n : Nat} {s : Nat → Nat} {o : Nat → Bool} {E1 E2 : Vx → Int32} {op : Nat × Nat} (hd : d ≤ 5) (hk : k < 4) (hp : popD o d = d) (hi : k = 1 → i = 0) (hop : opT s n p k = some op) (hc : c ≤ c1) (hc2 : c1 < c2) (h1 : AcS k i g c c1 d o E1) (hg : g c1 = nI op.2) (h2 : LkS (k + 1) g (c1 + 1) c2 d o E2) : AcS k (i + 1) g c c2 d o (fun x => jnS (nI op.1) (E1 x) (E2 x)) := ⟨acQ_s hk hp hi hop hc hc2 h1.1 hg h2.1, dp_bin hd hc hc2 h1.2 (by rw [hg]; exact op_isO hop) h2.2⟩
/-! one step of both -/
theorem stp_next {σ μ μa : Mm} {t B n p len c d w d' w' : Nat} {s : Nat → Nat} {v : Int32} (ht : isTown t = true) (h : LSt σ μ t s n p len c) (hadv : p < tkE s n p) (mc : gI μa 0 23 = nI (c + 1)) (m14 : ∀ j, gI μa 14 j = if j = c then v else gI μ 14 j) (m15 : ∀ j, j ≤ B → gI μa 15 j = gI μ 15 j) (m16 : ∀ j, j < B → gI μa 16 j = gI μ 16 j) (lm : LMf μ μa) (rd : Rd σ μa s n p) (st : ∀ μ2, f_X12_nextToken μa = some (0, μ2) → StpL 1 d w μ d' w' μ2) : ∃ σ1 μ2, f_X8_advance σ = some (0, σ1) ∧ LSt σ1 μ2 t s n (tkE s n p) len (c + 1) ∧ Sg t B σ μ p len c d w σ1 μ2 (tkE s n p) len (c + 1) d' w' ∧ gI μ2 14 c = v ∧ (∀ j, gI μ2 15 j = gI μa 15 j) ∧ (∀ j, gI μ2 16 j = gI μa 16 j) ∧ (∀ j, gI σ1 (t + 2) j = gI σ (t + 2) j) := by
  have ta := town_a ht
  obtain ⟨σ1, μ2, a1, a2, a3, a4, a5⟩ := rd.next
  obtain ⟨h1, h2, h3, h4, h5, h6, h7⟩ := h
  have st2 : ∀ j, gI σ1 (t + 2) j = gI σ (t + 2) j := fun j => a3.1 _ (by omega) j
  have e14 : ∀ j, gI μ2 14 j = if j = c then v else gI μ 14 j := fun j => by rw [a4.1 14 (by decide)]; exact m14 j
  refine ⟨σ1, μ2, a1, ⟨a5, ?_, ?_, by omega, ?_, by omega, by omega⟩, ⟨by omega, by omega, by omega, by omega, by omega, a3.cf.lc ta, lm.tr a4.mf.lm, fun j _ => st2 j, fun j hj => ?_, fun j hj => ?_, fun j hj => ?_, 1, by omega, st μ2 a2⟩, ?_, fun j => a4.1 15 (by decide) j, fun j => a4.1 16 (by decide) j, st2⟩
  · rw [a3.1 3 (by decide)]; exact h2
  · rw [a3.1 _ (by omega)]; exact h3
  · rw [a4.2.1 23 (by decide) (by decide) (by decide) (by decide)]; exact mc
  · rw [e14, if_neg (by omega)]
  · rw [a4.1 15 (by decide)]; exact m15 j hj
  · rw [a4.1 16 (by decide)]; exact m16 j hj
  · rw [e14, if_pos rfl]
/-- a stretch, and a step of the class behind it -/
theorem Sg.add {t B : Nat} {σ μ σ' μ' σ2 : Mm} {p p1 len c d w q len' c' d' w' : Nat} (h : Sg t B σ μ p len c d w σ' μ' q len' c' d' w') (hl : len' + p + 1 ≤ len + q) (f : LCf t σ' σ2) (e : ∀ j, j < len' → gI σ2 (t + 2) j = gI σ' (t + 2) j) : Sg t B σ μ p len c d w σ2 μ' q (len' + 1) c' d' w' := by
  obtain ⟨a1, a2, a3, a4, a5, a6, a7, a8, a9, a10, a11, a12⟩ := h
  exact ⟨a1, by omega, by omega, a4, a5, a6.tr f, a7, fun j hj => (e j (by omega)).trans (a8 j hj), a9, a10, a11, a12⟩
theorem Sg.op {t B : Nat} {σ μ σ' μ' : Mm} {p len c d w q len' c' d' w' : Nat} {o : Nat → Bool} (h : Sg t B σ μ p len c d w σ' μ' q len' c' d' w') {e : Nat} (he : e ≤ B) (ho : OpOk μ o e) : OpOk μ' o e := fun j h1 h2 => by
  rw [h.2.2.2.2.2.2.2.2.2.1 j (by omega)]; exact ho j h1 h2
theorem Sg.b14 {t B : Nat} {σ μ σ' μ' : Mm} {p len c d w q len' c' d' w' : Nat} (h : Sg t B σ μ p len c d w σ' μ' q len' c' d' w') {j : Nat} (hj : j < c) : gI μ' 14 j = gI μ 14 j := h.2.2.2.2.2.2.2.2.1 j hj
theorem Sg.bS {t B : Nat} {σ μ σ' μ' : Mm} {p len c d w q len' c' d' w' : Nat} (h : Sg t B σ μ p len c d w σ' μ' q len' c' d' w') {j : Nat} (hj : j < len) : gI σ' (t + 2) j = gI σ (t + 2) j := h.2.2.2.2.2.2.2.1 j hj
theorem Sg.b16 {t B : Nat} {σ μ σ' μ' : Mm} {p len c d w q len' c' d' w' : Nat} (h : Sg t B σ μ p len c d w σ' μ' q len' c' d' w') {j : Nat} (hj : j < B) : gI μ' 16 j = gI μ 16 j := h.2.2.2.2.2.2.2.2.2.2.1 j hj
theorem Sg.pos {t B : Nat} {σ μ σ' μ' : Mm} {p len c d w q len' c' d' w' : Nat} (h : Sg t B σ μ p len c d w σ' μ' q len' c' d' w') : p ≤ q ∧ len ≤ len' ∧ len' + p ≤ len + q ∧ c ≤ c' ∧ c' + p ≤ c + q := ⟨h.1, h.2.1, h.2.2.1, h.2.2.2.1, h.2.2.2.2.1⟩
/-- both stop here -/
theorem sf_at {σ μ : Mm} {t n p len c d w k : Nat} {s : Nat → Nat} (ht : isTown t = true) (h : LSt σ μ t s n p len c) (h0 : 0 < k) (hk : k ≤ 5) (hm : ∀ m, lq3 F_X12_reads_11 (m + 1) (nI d) (nI w) μ = cl (f_X12_fails (nI k) μ) (fun r τ => some (r, τ))) : ∃ σ' μ', f_X6_wrong (nI k) σ = some (0, σ') ∧ Sf t n σ μ p c d w σ' μ' := by
  obtain ⟨σ', μ', a1, a2, a3, a4, a5⟩ := h.1.bad h0 hk
  refine ⟨σ', μ', a1, a3.lc (town_a ht), a4.lm, a5, fun j _ => a4.1 14 (by decide) j, 1, by omega, fun m => ?_⟩
  rw [hm m, cl_of _ a2]
