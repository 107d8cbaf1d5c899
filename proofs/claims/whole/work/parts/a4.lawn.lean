/-! the reference's steps behind a value -/
def noOpT (s : Nat → Nat) (n p : Nat) (cm : Bool) : Prop := opT s n p 3 = none ∧ opT s n p 2 = none ∧ (opT s n p 1 = none ∨ cm = true) ∧ opT s n p 0 = none
theorem noOp_s {s : Nat → Nat} {n p : Nat} {cm : Bool} (h : noOpT s n p cm) : sgT s n p 42 = false ∧ sgT s n p 43 = false ∧ sgT s n p 45 = false ∧ (sgT s n p 60 = false ∧ sgT s n p 61 = false ∨ cm = true) ∧ wdT s n p 17 = false ∧ wdT s n p 18 = false := by
  obtain ⟨h3, h2, h1, h0⟩ := h
  unfold opT at h3 h2 h1 h0
  rw [if_neg (by decide), if_neg (by decide), if_neg (by decide)] at h3
  rw [if_neg (by decide), if_neg (by decide), if_pos rfl] at h2
  rw [if_neg (by decide), if_pos rfl] at h1
  rw [if_pos rfl] at h0
  have e42 : sgT s n p 42 = false := by cases e : sgT s n p 42; rfl; rw [e] at h3; cases h3
  have e43 : sgT s n p 43 = false := by cases e : sgT s n p 43; rfl; rw [e] at h2; cases h2
  have e45 : sgT s n p 45 = false := by cases e : sgT s n p 45; rfl; rw [e43, e] at h2; cases h2
  have e17 : wdT s n p 17 = false := by cases e : wdT s n p 17; rfl; rw [e] at h0; cases h0
  have e18 : wdT s n p 18 = false := by cases e : wdT s n p 18; rfl; rw [e17, e] at h0; cases h0
  refine ⟨e42, e43, e45, ?_, e17, e18⟩
  rcases h1 with h1 | h1
  · have e60 : sgT s n p 60 = false := by cases e : sgT s n p 60; rfl; rw [e] at h1; cases h1
    have e61 : sgT s n p 61 = false := by cases e : sgT s n p 61; rfl; rw [e60, e] at h1; cases h1
    exact Or.inl ⟨e60, e61⟩
  · exact Or.inr h1
/-- behind a value, with no operation that fits -/
theorem m_past {σ μ : Mm} {s : Nat → Nat} {n p d : Nat} {cm : Bool} (h : Rd σ μ s n p) (hd : d ≤ 5) (h16 : gI μ 16 d = b1I cm) (ho : noOpT s n p cm) (m : Nat) :
    lq3 F_X12_reads_11 (m + 1) (nI d) (nI 0) μ = (if sgT s n p 41 = true ∧ 0 < d then cl (f_X12_puts 29 μ) (fun _ σ373 => lq1 (F_X12_reads_379 0 (fun x1 x2 τ => cl (f_X12_nextToken τ) (fun _ υ => lq3 F_X12_reads_11 m x1 x2 υ)) σ373) 1000000 (nI (d - 1)))
      else if sgT s n p 59 = true ∧ d = 0 then cl (f_X12_nextToken μ) (fun _ σ413 => some ((1 : Int32), σ413)) else cl (f_X12_fails 1 μ) (fun r τ => some (r, τ))) := by
  have w17 : f_X12_isWord 1111 μ = _ := (h.word (i := 17) (by omega)).2
  have w18 : f_X12_isWord 423 μ = _ := (h.word (i := 18) (by omega)).2
  have g60 : f_X12_isSign 60 μ = _ := (h.sign (c := 60) (by omega)).2
  have g61 : f_X12_isSign 61 μ = _ := (h.sign (c := 61) (by omega)).2
  have g43 : f_X12_isSign 43 μ = _ := (h.sign (c := 43) (by omega)).2
  have g45 : f_X12_isSign 45 μ = _ := (h.sign (c := 45) (by omega)).2
  have g42 : f_X12_isSign 42 μ = _ := (h.sign (c := 42) (by omega)).2
  have g41 : f_X12_isSign 41 μ = _ := (h.sign (c := 41) (by omega)).2
  have g59 : f_X12_isSign 59 μ = _ := (h.sign (c := 59) (by omega)).2
  obtain ⟨e42, e43, e45, e6, e17, e18⟩ := noOp_s ho
  rw [e42] at g42; rw [e43] at g43; rw [e45] at g45; rw [e17] at w17; rw [e18] at w18
  have id7 : inb (nI d) 7 = true := inb_nI (show d < 7 by omega) (by omega)
  have td : (nI d).toNatClampNeg = d := nI_tn (by omega)
  show F_X12_reads_11 (lq3 F_X12_reads_11 m) (nI d) (nI 0) μ = _
  generalize lq3 F_X12_reads_11 m = rc
  -- what is left behind the operations
  have lst : J_X12_reads_304 (nI d) (nI 0) μ (fun x1 x2 τ => cl (f_X12_nextToken τ) (fun _ υ => rc x1 x2 υ)) = (if sgT s n p 41 = true ∧ 0 < d then cl (f_X12_puts 29 μ) (fun _ σ373 => lq1 (F_X12_reads_379 0 (fun x1 x2 τ => cl (f_X12_nextToken τ) (fun _ υ => rc x1 x2 υ)) σ373) 1000000 (nI (d - 1)))
      else if sgT s n p 59 = true ∧ d = 0 then cl (f_X12_nextToken μ) (fun _ σ413 => some ((1 : Int32), σ413)) else cl (f_X12_fails 1 μ) (fun r τ => some (r, τ))) := by
    unfold J_X12_reads_304
    simp only [cl_of _ w17, cl_of _ w18, cl_of _ g41, cl_of _ g59, if_pos b1F0, jn_e2]
    by_cases zd : d = 0
    · have z1 : nI d = 0 := by rw [zd]; rfl
      have z2 : ¬ (0 : Int32) < nI d := by rw [zd]; decide
      have nn : ¬ (sgT s n p 41 = true ∧ 0 < d) := fun y => by have := y.2; omega
      rw [if_neg nn]
      simp only [if_pos z1, if_neg z2, ite_self]
      cases e : sgT s n p 59
      · rw [if_pos b1F0, if_neg (fun y => by cases y.1)]
      · rw [if_neg b1T0, if_pos ⟨rfl, zd⟩]
    · have z1 : ¬ nI d = 0 := fun z => by have := (nI_eq (b := 0) (by omega) (by omega)).mp z; omega
      have z2 : (0 : Int32) < nI d := nI_lt (a := 0) (by omega) (by omega)
      have z3 : nI d + -1 = nI (d - 1) := by rw [show (-1 : Int32) = -nI 1 from rfl, ← Int32.sub_eq_add_neg, pk_sub (by omega)]
      rw [if_neg z1, if_pos z2, z3]
      cases e : sgT s n p 41
      · rw [if_pos b1F0, if_neg (fun y => by cases y.1), if_neg (fun y => zd y.2)]
      · rw [if_neg b1T0, if_pos ⟨rfl, by omega⟩]; rfl
  rw [← lst]
  unfold F_X12_reads_11 J_X12_reads_263
  simp only [show nI 0 = 0 from rfl, if_true, cl_of _ g43, cl_of _ g45, cl_of _ g42, cl_of _ g60, cl_of _ g61, if_pos b1F0, jn_e2]
  rcases e6 with ⟨e60, e61⟩ | e6
  · rw [e60, e61, if_pos b1F0, if_pos b1F0]
  · have z : ¬ gI μ 16 d = 0 := by rw [h16, e6]; exact b1T0
    rw [ck_t id7, td, if_neg z, ite_self, ite_self]
theorem m_close {σ μ : Mm} {s : Nat → Nat} {n p c d : Nat} {o : Nat → Bool} (h : Rd σ μ s n p) (hd : d < 5) (hc : gI μ 0 23 = nI c) (hc2 : c < 2000) (ho : OpOk μ o d) (cm : Bool) (h16 : gI μ 16 (d + 1) = b1I cm) (hp : sgT s n p 41 = true) (μ2 : Mm) (h2 : f_X12_nextToken (muP μ c 29) = some (0, μ2)) : StpL 1 (d + 1) 0 μ (popD o d) 0 μ2 := by
  intro m
  have no : noOpT s n p cm := by
    unfold noOpT opT
    rw [sg_wd hp, sg_wd hp, sg_ex hp (b := 60) (by decide), sg_ex hp (b := 61) (by decide), sg_ex hp (b := 43) (by decide), sg_ex hp (b := 45) (by decide), sg_ex hp (b := 42) (by decide)]
    exact ⟨rfl, rfl, Or.inl rfl, rfl⟩
  obtain ⟨m1, m2, m3, m4, m5, m6⟩ := muP_f h (c := c) 29
  have ho2 : OpOk (muP μ c 29) o d := fun j h1 h3 => by rw [m4]; exact ho j h1 h3
  have pv : f_X12_puts 29 μ = some (0, muP μ c 29) := m_puts hc hc2 _
  rw [m_past h (by omega) h16 no m, if_pos ⟨hp, by omega⟩, cl_of _ pv, Nat.add_sub_cancel, m_pop0 (by omega) ho2 (by omega), cl_of _ h2]
  rfl
