/-! how deep the reference stands while it works a law -/
def cdOk (c : Int32) : Prop := isV c ∨ c = 20 ∨ c = 21 ∨ c = 22 ∨ c = 24 ∨ c = 25 ∨ c = 26 ∨ c = 27 ∨ c = 28 ∨ c = 29 ∨ c = 30
def Dq (g : Nat → Int32) (c c' : Nat) (S : Es) (d' : Nat) (o : Nat → Bool) (x : Vx) : Prop := (∀ i, i ≤ c' - c → (rnE x g c i S).1 ≤ 5 ∧ (i < c' - c → cdOk (g (c + i)) ∧ (g (c + i) = 29 → 0 < (rnE x g c i S).1))) ∧ (rnE x g c (c' - c) S).1 = d' ∧ BnOk (rnE x g c (c' - c) S).2 o d'
theorem Dq.tr {g : Nat → Int32} {c c1 c2 d1 d2 : Nat} {S : Es} {o1 o2 : Nat → Bool} {x : Vx} (h1 : c ≤ c1) (h2 : c1 ≤ c2) (a : Dq g c c1 S d1 o1 x) (b : ∀ f, BnOk f o1 d1 → Dq g c1 c2 (d1, f) d2 o2 x) : Dq g c c2 S d2 o2 x := by
  obtain ⟨a1, a2, a3⟩ := a
  have e : rnE x g c (c1 - c) S = (d1, (rnE x g c (c1 - c) S).2) := by rw [← a2]
  obtain ⟨b1, b2, b3⟩ := b _ a3
  have sp : ∀ j, rnE x g c (c1 - c + j) S = rnE x g c1 j (d1, (rnE x g c (c1 - c) S).2) := fun j => by
    rw [rnE_add, ← e, show c + (c1 - c) = c1 by omega]
  refine ⟨fun i hi => ?_, ?_, ?_⟩
  · by_cases z : i < c1 - c
    · have := a1 i (by omega)
      exact ⟨this.1, fun _ => this.2 z⟩
    · obtain ⟨j, rfl⟩ : ∃ j, i = c1 - c + j := ⟨i - (c1 - c), by omega⟩
      rw [sp]
      have := b1 j (by omega)
      rw [show c + (c1 - c + j) = c1 + j by omega]
      exact ⟨this.1, fun q => this.2 (by omega)⟩
  · rw [show c2 - c = c1 - c + (c2 - c1) by omega, sp]; exact b2
  · rw [show c2 - c = c1 - c + (c2 - c1) by omega, sp]; exact b3
theorem Dq.one {g : Nat → Int32} {c d' : Nat} {S : Es} {o : Nat → Bool} {x : Vx} (h5 : S.1 ≤ 5) (hc : cdOk (g c)) (h9 : g c = 29 → 0 < S.1) (hd : (stepE x (g c) S).1 = d') (hd5 : d' ≤ 5) (hb : BnOk (stepE x (g c) S).2 o d') : Dq g c (c + 1) S d' o x := by
  have e : rnE x g c 1 S = stepE x (g c) S := rfl
  refine ⟨fun i hi => ?_, ?_, ?_⟩
  · have : i = 0 ∨ i = 1 := by omega
    rcases this with rfl | rfl
    · exact ⟨h5, fun _ => ⟨hc, h9⟩⟩
    · rw [e, hd]; exact ⟨hd5, fun q => absurd q (by omega)⟩
  · rw [Nat.add_sub_cancel_left, e]; exact hd
  · rw [Nat.add_sub_cancel_left, e]; exact hb
def Dp (g : Nat → Int32) (c c' d d' : Nat) (o : Nat → Bool) : Prop := ∀ x f, BnOk f o d → Dq g c c' (d, f) d' o x
theorem Dp.congr {g g' : Nat → Int32} {c c' d d' : Nat} {o : Nat → Bool} (h : Dp g c c' d d' o) (e : ∀ j, c ≤ j → j < c' → g' j = g j) : Dp g' c c' d d' o := fun x f hf => by
  obtain ⟨a1, a2, a3⟩ := h x f hf
  have r : ∀ i S, i ≤ c' - c → rnE x g' c i S = rnE x g c i S := fun i S hi => rnE_congr (fun j h1 h2 => e j h1 (by omega))
  refine ⟨fun i hi => ?_, ?_, ?_⟩
  · rw [r i _ hi]
    refine ⟨(a1 i hi).1, fun q => ?_⟩
    rw [e (c + i) (by omega) (by omega)]
    exact (a1 i hi).2 q
  · rw [r _ _ (Nat.le_refl _)]; exact a2
  · rw [r _ _ (Nat.le_refl _)]; exact a3
theorem bn_eq {f f' : Nat → Nat → Int32} {o : Nat → Bool} {d e : Nat} (h : BnOk f o d) (he : e ≤ d) (q : ∀ j, f' 25 j = f 25 j) : BnOk f' o e := fun j h1 h2 => by rw [q]; exact h j h1 (by omega)
theorem dp_leaf {g : Nat → Int32} {c d : Nat} {o : Nat → Bool} (h5 : d ≤ 5) (h : isV (g c)) : Dp g c (c + 1) d (popD o d) o := fun x f hf => by
  have st := step_v (x := x) (S := (d, f)) h
  obtain ⟨f', e1, e2, e3⟩ := fin_sem (valM x (g c)) hf
  have st : stepE x (g c) (d, f) = (popD o d, f') := st.trans e1
  have pl := popD_le o d
  refine Dq.one h5 (Or.inl h) (fun z => ?_) (by rw [st]) (by omega) (by rw [st]; exact bn_eq hf pl (fun j => e2 25 j (Or.inl (by decide))))
  rcases h with h | h | h | h | h
  · rw [h] at z; exact absurd z (by decide)
  · rw [h] at z; exact absurd z (by decide)
  · rw [h] at z; exact absurd z (by decide)
  · rw [h] at z; exact absurd z (by decide)
  · rw [z] at h; exact absurd (by decide) h
theorem dp_open {g : Nat → Int32} {c d : Nat} {o o' : Nat → Bool} {x : Vx} {f : Nat → Nat → Int32} (h5 : d < 5) (hg : g c = 28 ∨ g c = 30) (ho : o' (d + 1) = decide (g c = 30)) (hoo : ∀ j, 0 < j → j ≤ d → o' j = o j) (hf : BnOk f o d) : Dq g c (c + 1) (d, f) (d + 1) o' x := by
  have st := step_o (x := x) (S := (d, f)) hg
  refine Dq.one (show d ≤ 5 by omega) ?_ (fun z => ?_) (by rw [st]) (by omega) ?_
  · rcases hg with h | h
    · exact Or.inr (Or.inr (Or.inr (Or.inr (Or.inr (Or.inr (Or.inr (Or.inr (Or.inl h))))))))
    · exact Or.inr (Or.inr (Or.inr (Or.inr (Or.inr (Or.inr (Or.inr (Or.inr (Or.inr (Or.inr h)))))))))
  · rcases hg with h | h <;> · rw [h] at z; exact absurd z (by decide)
  · rw [st]
    intro j h1 h2
    by_cases y : j = d + 1
    · rw [y]
      show opensE (upE f 25 (d + 1) (if g c = 30 then 1 else 0)) (d + 1) 25 (d + 1) = 1 ↔ _
      rw [opens_25, ho]
      by_cases w : g c = 30
      · rw [if_pos w, decide_eq_true w]; exact ⟨fun _ => rfl, fun _ => rfl⟩
      · rw [if_neg w, decide_eq_false w]; exact ⟨fun q => absurd q (by decide), fun q => by cases q⟩
    · show opensE (upE f 25 (d + 1) (if g c = 30 then 1 else 0)) (d + 1) 25 j = 1 ↔ _
      rw [opens_lt y, hoo j h1 (by omega)]
      exact hf j h1 (by omega)
theorem bn_o {f : Nat → Nat → Int32} {o o' : Nat → Bool} {d e : Nat} (h : BnOk f o' e) (he : e ≤ d) (hoo : ∀ j, 0 < j → j ≤ d → o' j = o j) : BnOk f o e := fun j h1 h2 => by rw [← hoo j h1 (by omega)]; exact h j h1 h2
theorem Dq.o {g : Nat → Int32} {c c' d d' : Nat} {S : Es} {o o' : Nat → Bool} {x : Vx} (h : Dq g c c' S d' o' x) (he : d' ≤ d) (hoo : ∀ j, 0 < j → j ≤ d → o' j = o j) : Dq g c c' S d' o x := ⟨h.1, h.2.1, bn_o h.2.2 he hoo⟩
theorem dp_not {g : Nat → Int32} {c c' d : Nat} {o o' : Nat → Bool} (h5 : d < 5) (hc : c < c') (hg : g c = 30) (ho : o' (d + 1) = true) (hoo : ∀ j, 0 < j → j ≤ d → o' j = o j) (h : Dp g (c + 1) c' (d + 1) (popD o d) o') : Dp g c c' d (popD o d) o := fun x f hf =>
  Dq.tr (Nat.le_succ c) (by omega) (dp_open h5 (Or.inr hg) (by rw [ho, decide_eq_true hg]) hoo hf) (fun f2 hf2 => (h x f2 hf2).o (popD_le o d) hoo)
theorem step_c {x : Vx} {c : Int32} {S : Es} (h : c = 29) : stepE x c S = finE (testsE S.2 S.1) (S.1 - 1) (eV S.2 S.1) := by
  rw [h]; rfl
theorem dp_par {g : Nat → Int32} {c c1 d : Nat} {o o' : Nat → Bool} (h5 : d < 5) (hc : c < c1) (hg : g c = 28) (hg1 : g c1 = 29) (ho : o' (d + 1) = false) (hoo : ∀ j, 0 < j → j ≤ d → o' j = o j) (h : Dp g (c + 1) c1 (d + 1) (d + 1) o') : Dp g c (c1 + 1) d (popD o d) o := fun x f hf => by
  have pl := popD_le o d
  refine Dq.tr (c1 := c1) (by omega) (by omega) (Dq.tr (Nat.le_succ c) (by omega) (dp_open h5 (Or.inl hg) (by rw [ho, decide_eq_false (by rw [hg]; decide)]) hoo hf) (fun f2 hf2 => h x f2 hf2)) (fun f2 hf2 => ?_)
  have st := step_c (x := x) (S := (d + 1, f2)) hg1
  have t25 : ∀ j, testsE f2 (d + 1) 25 j = f2 25 j := fun j => tests_at.1 25 j (Or.inr ⟨by decide, by decide, by decide, by decide, by decide⟩)
  have hb : BnOk (testsE f2 (d + 1)) o d := fun j h1 h2 => by rw [t25, ← hoo j h1 h2]; exact hf2 j h1 (by omega)
  obtain ⟨f', e1, e2, e3⟩ := fin_sem (eV f2 (d + 1)) hb
  have st : stepE x (g c1) (d + 1, f2) = (popD o d, f') := by rw [st]; exact e1
  exact Dq.one (show d + 1 ≤ 5 by omega) (Or.inr (Or.inr (Or.inr (Or.inr (Or.inr (Or.inr (Or.inr (Or.inr (Or.inr (Or.inl hg1)))))))))) (fun _ => Nat.succ_pos d) (by rw [st]) (by omega) (by rw [st]; exact bn_eq hb pl (fun j => e2 25 j (Or.inl (by decide))))
def isO (c : Int32) : Prop := c = 20 ∨ c = 21 ∨ c = 22 ∨ c = 24 ∨ c = 25 ∨ c = 26 ∨ c = 27
theorem step_op {x : Vx} {c : Int32} {S : Es} (h : isO c) : (stepE x c S).1 = S.1 ∧ ∀ j, (stepE x c S).2 25 j = S.2 25 j := by
  have t25 : ∀ f d j, testsE f d 25 j = f 25 j := fun f d j => tests_at.1 25 j (Or.inr ⟨by decide, by decide, by decide, by decide, by decide⟩)
  have s25 : ∀ f d j, sumsE f d 25 j = f 25 j := fun f d j => by unfold sumsE; rw [upE_n (Or.inl (by decide)), upE_n (Or.inl (by decide))]
  rcases h with h | h | h | h | h | h | h <;> subst h
  · have e : stepE x 20 S = (S.1, upE (sumsE S.2 S.1) 22 S.1 20) := rfl
    rw [e]
    refine ⟨rfl, fun j => ?_⟩
    show (upE (sumsE S.2 S.1) 22 S.1 20) 25 j = _
    rw [upE_n (Or.inl (by decide)), s25]
  · have e : stepE x 21 S = (S.1, upE (sumsE S.2 S.1) 22 S.1 21) := rfl
    rw [e]
    refine ⟨rfl, fun j => ?_⟩
    show (upE (sumsE S.2 S.1) 22 S.1 21) 25 j = _
    rw [upE_n (Or.inl (by decide)), s25]
  · have e : stepE x 22 S = (S.1, upE S.2 24 S.1 22) := rfl
    rw [e]
    refine ⟨rfl, fun j => ?_⟩
    show (upE S.2 24 S.1 22) 25 j = _
    rw [upE_n (Or.inl (by decide))]
  · have e : stepE x 24 S = (S.1, upE (upE (upE (upE (sumsE S.2 S.1) 19 S.1 (sumV S.2 S.1)) 20 S.1 24) 21 S.1 0) 22 S.1 20) := rfl
    rw [e]
    refine ⟨rfl, fun j => ?_⟩
    show (upE (upE (upE (upE (sumsE S.2 S.1) 19 S.1 (sumV S.2 S.1)) 20 S.1 24) 21 S.1 0) 22 S.1 20) 25 j = _
    rw [upE_n (Or.inl (by decide)), upE_n (Or.inl (by decide)), upE_n (Or.inl (by decide)), upE_n (Or.inl (by decide)), s25]
  · have e : stepE x 25 S = (S.1, upE (upE (upE (upE (sumsE S.2 S.1) 19 S.1 (sumV S.2 S.1)) 20 S.1 25) 21 S.1 0) 22 S.1 20) := rfl
    rw [e]
    refine ⟨rfl, fun j => ?_⟩
    show (upE (upE (upE (upE (sumsE S.2 S.1) 19 S.1 (sumV S.2 S.1)) 20 S.1 25) 21 S.1 0) 22 S.1 20) 25 j = _
    rw [upE_n (Or.inl (by decide)), upE_n (Or.inl (by decide)), upE_n (Or.inl (by decide)), upE_n (Or.inl (by decide)), s25]
  · have e : stepE x 26 S = (S.1, upE (testsE S.2 S.1) 18 S.1 26) := rfl
    rw [e]
    refine ⟨rfl, fun j => ?_⟩
    show (upE (testsE S.2 S.1) 18 S.1 26) 25 j = _
    rw [upE_n (Or.inl (by decide)), t25]
  · have e : stepE x 27 S = (S.1, upE (testsE S.2 S.1) 18 S.1 27) := rfl
    rw [e]
    refine ⟨rfl, fun j => ?_⟩
    show (upE (testsE S.2 S.1) 18 S.1 27) 25 j = _
    rw [upE_n (Or.inl (by decide)), t25]
theorem dp_bin {g : Nat → Int32} {c c1 c2 d d' : Nat} {o : Nat → Bool} (h5 : d ≤ 5) (hc : c ≤ c1) (hc2 : c1 < c2) (h1 : Dp g c c1 d d o) (hg : isO (g c1)) (h2 : Dp g (c1 + 1) c2 d d' o) : Dp g c c2 d d' o := fun x f hf => by
  refine Dq.tr hc (by omega) (h1 x f hf) (fun f1 hf1 => Dq.tr (Nat.le_succ c1) (by omega) ?_ (fun f2 hf2 => h2 x f2 hf2))
  obtain ⟨s1, s2⟩ := step_op (x := x) (S := (d, f1)) hg
  refine Dq.one h5 ?_ (fun z => ?_) s1 h5 (bn_eq hf1 (Nat.le_refl _) s2)
  · rcases hg with h | h | h | h | h | h | h
    · exact Or.inr (Or.inl h)
    · exact Or.inr (Or.inr (Or.inl h))
    · exact Or.inr (Or.inr (Or.inr (Or.inl h)))
    · exact Or.inr (Or.inr (Or.inr (Or.inr (Or.inl h))))
    · exact Or.inr (Or.inr (Or.inr (Or.inr (Or.inr (Or.inl h)))))
    · exact Or.inr (Or.inr (Or.inr (Or.inr (Or.inr (Or.inr (Or.inl h))))))
    · exact Or.inr (Or.inr (Or.inr (Or.inr (Or.inr (Or.inr (Or.inr (Or.inl h)))))))
  · rcases hg with h | h | h | h | h | h | h <;> · rw [h] at z; exact absurd z (by decide)
