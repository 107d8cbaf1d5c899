/-- which line begins here -/
def vbT (s : Nat → Nat) (n p : Nat) : Option Nat := if tkK s n p = 2 then (match wxF (tk32 s n p) 23 with | some i => if 8 ≤ i ∧ i ≤ 11 then some (i - 8) else none | none => none) else none
theorem vbT_le {s : Nat → Nat} {n p v : Nat} (h : vbT s n p = some v) : v ≤ 3 ∧ tkK s n p = 2 ∧ wxF (tk32 s n p) 23 = some (8 + v) := by
  unfold vbT at h
  by_cases z : tkK s n p = 2
  · rw [if_pos z] at h
    cases e : wxF (tk32 s n p) 23 with
    | none => rw [e] at h; cases h
    | some i =>
      rw [e] at h
      simp only [] at h
      split at h
      · rename_i q
        cases h
        exact ⟨by omega, z, by congr 1; omega⟩
      · cases h
  · rw [if_neg z] at h; cases h
theorem vbT_C {σ μ : Mm} {s : Nat → Nat} {n p b1 t : Nat} (h : Rd σ μ s n p) (h1 : isLines b1 = true) (h2 : isTown t = true) : (∀ v, vbT s n p = some v → f_X6_readEveningLine b1 t σ = J_X6_readEveningLine_22 b1 t σ (nI (8 + v))) ∧ (vbT s n p = none → f_X6_readEveningLine b1 t σ = cl (f_X6_wrong (1 : Int32) σ) (fun r37 σ37 => some (0, σ37))) := by
  obtain ⟨_, _, _, h4, h5, h6⟩ := h
  have k4 := tkK_le s n p
  have e1 : nI (tkK s n p) = 2 ↔ tkK s n p = 2 := kI k4 (c := 2) (by omega)
  refine ⟨fun v hv => ?_, fun hv => ?_⟩
  · obtain ⟨v3, z, e⟩ := vbT_le hv
    unfold f_X6_readEveningLine
    rw [ck_t h1, ck_t h2, jn_e2, h5.2.2.1, if_pos (e1.mpr z), (h5.2.2.2.1 z).2, e, oI_some]
  · unfold f_X6_readEveningLine
    rw [ck_t h1, ck_t h2, jn_e2, h5.2.2.1]
    by_cases z : tkK s n p = 2
    · rw [if_pos (e1.mpr z), (h5.2.2.2.1 z).2]
      unfold J_X6_readEveningLine_22
      rw [jn_e2]
      unfold vbT at hv
      rw [if_pos z] at hv
      cases e : wxF (tk32 s n p) 23 with
      | none => rw [oI_none, if_pos (by decide)]
      | some i =>
        have hi := (wxF_some e).1
        rw [e] at hv
        simp only [] at hv
        have q : ¬ (8 ≤ i ∧ i ≤ 11) := fun q => by rw [if_pos q] at hv; cases hv
        rw [oI_some]
        have k1 : nI i < 8 ↔ i < 8 := nI_ltI (b := 8) (by omega) (by omega)
        have k2 : (11 : Int32) < nI i ↔ 11 < i := nI_ltI (a := 11) (by omega) (by omega)
        by_cases y : i < 8
        · rw [if_pos (k1.mpr y)]
        · rw [if_neg (fun w => y (k1.mp w)), if_pos (k2.mpr (by omega))]
    · rw [if_neg (fun w => z (e1.mp w))]
      unfold J_X6_readEveningLine_22
      rw [jn_e2, if_pos (by decide)]
theorem wd_vb {s : Nat → Nat} {n p i : Nat} (hi : i ≤ 3) : wdT s n p (8 + i) = decide (vbT s n p = some i) := by
  unfold wdT
  rw [decide_eq_decide]
  constructor
  · intro ⟨z, e⟩
    have := (wxF_iff (c := tk32 s n p) (i := 8 + i) (by omega)).mpr e.symm
    unfold vbT
    rw [if_pos z, this]
    show (if 8 ≤ 8 + i ∧ 8 + i ≤ 11 then some (8 + i - 8) else none) = some i
    rw [if_pos (by omega), Nat.add_sub_cancel_left]
  · intro h
    obtain ⟨a, b, c⟩ := vbT_le h
    exact ⟨b, ((wxF_iff (i := 8 + i) (by omega)).mp c).symm⟩
theorem vbT_M {σ μ : Mm} {s : Nat → Nat} {n p : Nat} (h : Rd σ μ s n p) : f_X12_readsLine μ = J_X12_readsLine_57 μ (oI (vbT s n p)) := by
  have w0 : f_X12_isWord 191610176 μ = some (b1I (decide (vbT s n p = some 0)), μ) := by have := (h.word (i := 8) (by omega)).2; rw [wd_vb (i := 0) (by omega)] at this; exact this
  have w1 : f_X12_isWord 378004 μ = some (b1I (decide (vbT s n p = some 1)), μ) := by have := (h.word (i := 9) (by omega)).2; rw [wd_vb (i := 1) (by omega)] at this; exact this
  have w2 : f_X12_isWord 453701 μ = some (b1I (decide (vbT s n p = some 2)), μ) := by have := (h.word (i := 10) (by omega)).2; rw [wd_vb (i := 2) (by omega)] at this; exact this
  have w3 : f_X12_isWord 40187 μ = some (b1I (decide (vbT s n p = some 3)), μ) := by have := (h.word (i := 11) (by omega)).2; rw [wd_vb (i := 3) (by omega)] at this; exact this
  unfold f_X12_readsLine
  rw [cl_of _ w0, jn_e2, cl_of _ w1, cl_of _ w2, cl_of _ w3]
  cases e : vbT s n p with
  | none => rfl
  | some v =>
    have := (vbT_le e).1
    have : v = 0 ∨ v = 1 ∨ v = 2 ∨ v = 3 := by omega
    rcases this with rfl | rfl | rfl | rfl <;> rfl
theorem NmP.fe {σ μ σ' μ' : Mm} {t P b1 : Nat} (h : NmP σ μ t 0 P) (c : CE b1 σ σ') (m : ME μ μ') (hb : b1 = 237 ∨ b1 = 241) : NmP σ' μ' t 0 P := by
  obtain ⟨h1, h2, h3, h4, h5, h6⟩ := h
  have ta := town_a h1
  refine ⟨h1, h2, h3, by rw [c.1 t (by omega) (by omega) (by omega)]; exact h4, by rw [m.1 2 (by decide) (by omega)]; exact h5, fun k hk => ?_⟩
  rw [c.2.1 (t + 4) (by omega), m.2.2.2.2.1 3 _ (by omega)]; exact h6 k hk
theorem NmW.fe {σ μ σ' μ' : Mm} {t W b1 : Nat} (h : NmW σ μ t 0 W) (c : CE b1 σ σ') (m : ME μ μ') (hb : b1 = 237 ∨ b1 = 241) : NmW σ' μ' t 0 W := by
  obtain ⟨h1, h2, h3, h4, h5, h6⟩ := h
  have ta := town_a h1
  refine ⟨h1, h2, h3, by rw [c.1 t (by omega) (by omega) (by omega)]; exact h4, by rw [m.1 2 (by decide) (by omega)]; exact h5, fun k hk => ?_⟩
  rw [c.2.1 (t + 8) (by omega), m.2.2.2.2.1 4 _ (by omega)]; exact h6 k hk
theorem p29_R {σ μ : Mm} {s : Nat → Nat} {n p a k : Nat} {v : Int32} (h : Rd σ μ s n p) (ha : 29 ≤ a ∧ a ≤ 31) : Rd σ (pI μ a k v) s n p := h.cm (fun j => gI_pI_n (Or.inl (by omega))) (fun j hj => gI_pI_n (Or.inl (by omega))) rfl
theorem p29_L {μ : Mm} {l : Ln} {a : Nat} {v : Int32} (h : LR μ 5 l) (ha : 29 ≤ a ∧ a ≤ 31) : LR (pI μ a (200 + lM l) v) 5 l := by
  refine ⟨by rw [gI_pI_n (Or.inl (by omega))]; exact h.1, fun k hk => ?_⟩
  rw [gI_pI_n (Or.inr (by omega)), gI_pI_n (Or.inr (by omega)), gI_pI_n (Or.inr (by omega))]; exact h.2 k hk
/-- a line of an evening -/
theorem r_line {σ μ : Mm} {s : Nat → Nat} {n p t P W b1 : Nat} {l : Ln} (h : Rd σ μ s n p) (f0 : gI σ 3 1 = 0) (hP : NmP σ μ t 0 P) (hW : NmW σ μ t 0 W) (hl : LC σ b1 l) (hb : b1 = 237 ∨ b1 = 241) (hm : LR μ 5 l) (ok : LnOq P W l) :
    (∃ σ' μ' q l', f_X6_readEveningLine b1 t σ = some (0, σ') ∧ f_X12_readsLine μ = some (1, μ') ∧ CE b1 σ σ' ∧ ME μ μ' ∧ gI σ' 3 1 = 0 ∧ Rd σ' μ' s n q ∧ p < q ∧ LC σ' b1 l' ∧ LR μ' 5 l' ∧ LnOq P W l') ∨ (∃ σ' μ', f_X6_readEveningLine b1 t σ = some (0, σ') ∧ f_X12_readsLine μ = some (0, μ') ∧ CE b1 σ σ' ∧ ME μ μ' ∧ Bad σ' μ') := by
  have n5 : (5 : Int32).toNatClampNeg = 5 := rfl
  have p6 := hP.2.2.1
  have w6 := hW.2.2.1
  obtain ⟨vc1, vc2⟩ := vbT_C (b1 := b1) (t := t) h (lines_a hb) hP.1
  have vm := vbT_M h
  cases e : vbT s n p with
  | none =>
    right
    obtain ⟨σ', μ', a1, a2, a3, a4, a5⟩ := h.bad (k := 1) (by omega) (by omega)
    have a1 : f_X6_wrong 1 σ = some (0, σ') := a1
    have a2 : f_X12_fails 1 μ = some (0, μ') := a2
    refine ⟨σ', μ', ?_, ?_, a3.ce, a4.me, a5⟩
    · rw [vc2 e, cl_of _ a1]
    · rw [vm, e, oI_none]
      unfold J_X12_readsLine_57
      rw [if_pos (by decide), cl_of _ a2]
  | some v =>
    obtain ⟨v3, k2, -⟩ := vbT_le e
    rw [e, oI_some] at vm
    rw [vc1 v e, vm]
    have o40 := ok.1
    unfold J_X6_readEveningLine_22 J_X12_readsLine_57
    have c8 : ¬ nI (8 + v) < 8 := fun z => by have := (nI_ltI (b := 8) (by omega) (by omega)).mp z; omega
    have c11 : ¬ (11 : Int32) < nI (8 + v) := fun z => by have := (nI_ltI (a := 11) (by omega) (by omega)).mp z; omega
    rw [jn_e2, if_neg c8, if_neg c11, hl.2.1, if_neg (nI_pos (show v < 2147483648 by omega)), ck_t (show inb 5 6 = true from rfl), n5, hm.1]
    have k40 : nI (lM l) < 40 ↔ lM l < 40 := nI_ltI (b := 40) (by omega) (by omega)
    have q40 : nI (lM l) = 40 ↔ lM l = 40 := nI_eq (b := 40) (by omega) (by omega)
    by_cases z : lM l < 40
    · rw [if_pos (k40.mpr z), if_neg (fun w => by have := q40.mp w; omega)]
      obtain ⟨σ1, μ1, a1, a2, a3, a4, a5, a6⟩ := h.nextOk f0
      have pq := kw_adv h.2.2.2.1 (Or.inl k2)
      have l1 := hl.ce a3 hb
      have m1 := hm.me a4
      rw [cl_of _ a1, cl_of _ a2, ck_t (show inb 5 6 = true from rfl), bn_e, m1.1]
      have e2 : (200 : Int32) + nI (lM l) = nI (200 + lM l) := by rw [show (200 : Int32) = nI 200 from rfl, nI_add]
      rw [e2, ck_t (inb_nI (show 200 + lM l < 240 by omega) (by omega)), nI_tn (show 200 + lM l < 2147483648 by omega), bn_e]
      obtain ⟨μ2, eμ⟩ : ∃ y, y = pI μ1 29 (200 + lM l) (nI v) := ⟨_, rfl⟩
      have r2 : Rd σ1 μ2 s n (tkE s n p) := by rw [eμ]; exact p29_R a6 (by omega)
      have m2 : LR μ2 5 l := by rw [eμ]; exact p29_L m1 (by omega)
      have me2 : ME μ μ2 := by rw [eμ]; exact a4.me.tr (ME.p29 (by omega) (by omega))
      have g2 : gI μ2 29 (200 + lM l) = nI v := by rw [eμ, gI_pI_s]
      have nP2 : NmP σ1 μ2 t 0 P := hP.fe a3.ce me2 hb
      have nW2 : NmW σ1 μ2 t 0 W := hW.fe a3.ce me2 hb
      rw [← eμ, jn_e2, jn_e2]
      -- how the line ends
      obtain ⟨KC, eKC⟩ : ∃ K : Int32 → Int32 → Mm → Option (Int32 × Mm), K = (fun (x4_156 : Int32) (x5_156 : Int32) (σ_156 : Mm) => cl (f_X6_readSign (59 : Int32) σ_156) (fun r159 σ159 => (if r159 = 0 then some (0, σ159) else cl (f_X2_add b1 (nI (8 + v)) x4_156 x5_156 σ159) (fun _ σ171 => some (0, σ171))))) := ⟨_, rfl⟩
      obtain ⟨KM, eKM⟩ : ∃ K : Mm → Option (Int32 × Mm), K = (fun (σ_196 : Mm) => ck (inb (5 : Int32) 6) (ck (inb (5 : Int32) 6) (bn (pI σ_196 28 5 ((gI σ_196 28 5) + (1 : Int32))) (fun σ205 => cl (f_X12_closes σ205) (fun r207 σ207 => some (r207, σ207)))))) := ⟨_, rfl⟩
      rw [← eKC, ← eKM]
      have fin : ∀ {σx μx : Mm} {q a b : Nat} {x y : Int32}, Rd σx μx s n q → gI σx 3 1 = 0 → Cf σ1 σx → ME μ2 μx → LR μx 5 l → gI μx 29 (200 + lM l) = nI v → (v ≠ 0 → gI μx 30 (200 + lM l) = nI a) → (v = 1 → gI μx 31 (200 + lM l) = nI b) → a < 64 → b < 64 → (v ≠ 0 → x = nI a) → (v = 1 → y = nI b) → (v = 1 → a < P ∧ b < P) → (2 ≤ v → a < W) → p < q → (∃ σ' μ' q l', KC x y σx = some (0, σ') ∧ KM μx = some (1, μ') ∧ CE b1 σ σ' ∧ ME μ μ' ∧ gI σ' 3 1 = 0 ∧ Rd σ' μ' s n q ∧ p < q ∧ LC σ' b1 l' ∧ LR μ' 5 l' ∧ LnOq P W l') ∨ (∃ σ' μ', KC x y σx = some (0, σ') ∧ KM μx = some (0, μ') ∧ CE b1 σ σ' ∧ ME μ μ' ∧ Bad σ' μ') := by
        intro σx μx q a b x y w1 w2 w3 w4 w5 w6 w7 w8 w9 w10 w11 w12 w13 w14 w15
        have := e_fin (x := x) (y := y) (a := a) (b := b) w1 w2 (l1.ce w3 hb) hb ok z w5 w6 w7 w8 v3 w9 w10 w11 w12 w13 w14
        rw [eKC, eKM]
        simp only [ck_t (show inb 5 6 = true from rfl), bn_e]
        rcases this with ⟨σ', μ', t1, t2, t3, t4, t5, t6, t7, t8, t9, t10⟩ | ⟨σ', μ', t1, t2, t3, t4, t5⟩
        · left; exact ⟨σ', μ', _, _, t1, t2, (a3.tr w3).ce.tr t3, me2.tr (w4.tr t4), t5, t6, by omega, t8, t9, t10⟩
        · right; exact ⟨σ', μ', t1, t2, (a3.tr w3).ce.tr t3, me2.tr (w4.tr t4), t5⟩
      have e9 : nI (8 + v) = 9 ↔ v = 1 := (nI_eq (b := 9) (by omega) (by omega)).trans (by omega)
      have e8 : nI (8 + v) = 8 ↔ v = 0 := (nI_eq (b := 8) (by omega) (by omega)).trans (by omega)
      have i1 : nI v = 1 ↔ v = 1 := nI_eq (b := 1) (by omega) (by omega)
      have i0 : nI v = 0 ↔ v = 0 := nI_eq (b := 0) (by omega) (by omega)
      by_cases c1 : v = 1
      · rw [if_pos (e9.mpr c1), if_pos (i1.mpr c1)]
        rcases r_two r2 a5 nP2 with ⟨a, σ3, ha, q1, q2, q3, cs⟩ | ⟨σ', μ', q1, q2, q3⟩
        · rw [cl_of _ q1, if_neg (nI_ne a (by omega))]
          rcases cs with ⟨b, μ3, hbP, ne, s1, s2, s3, s4, s5, s6, s7, s8, s9⟩ | ⟨s1, s2, σ', μ', s3, s4, s5⟩ | ⟨s1, σ', μ', s2, s3, s4⟩
          · have s4 : f_X12_needsTwo 0 μ2 = some (1, μ3) := s4
            rw [cl_of _ s1, jn_e2, if_neg one0, cl_of _ s2, if_neg (fun w => ne ((nI_eq (by omega) (by omega)).mp w)), cl_of _ s4, if_neg one0, ck_t (inb_nI (show 200 + lM l < 240 by omega) (by omega)), bn_e, ck_t (inb_nI (show 200 + lM l < 240 by omega) (by omega)), bn_e, s5, gI_pI_n (Or.inl (by decide)), s6]
            obtain ⟨μ4, e4⟩ : ∃ y, y = pI (pI μ3 30 (200 + lM l) (nI a)) 31 (200 + lM l) (nI b) := ⟨_, rfl⟩
            rw [← e4]
            have m3 : LR μ3 5 l := m2.me s7
            have r4 : Rd σ3 μ4 s n (tkE s n (tkE s n p)) := by rw [e4]; exact p29_R (p29_R s8 (by omega)) (by omega)
            have m4 : LR μ4 5 l := by rw [e4]; exact p29_L (p29_L m3 (by omega)) (by omega)
            have me4 : ME μ2 μ4 := by rw [e4]; exact s7.me.tr ((ME.p29 (by omega) (by omega)).tr (ME.p29 (by omega) (by omega)))
            obtain ⟨σ5, μ5, b1', b2', b3', b4', b5', b6'⟩ := r4.nextOk q3
            rw [cl_of _ (s3 σ5 b1'), if_neg (nI_ne b (by omega)), cl_of _ b2']
            have tl := tk_le (s := s) r4.2.2.2.1
            refine fin (a := a) (b := b) b6' b5' (q2.tr b3') (me4.tr b4'.me) (m4.me b4') ?_ (fun _ => ?_) (fun _ => ?_) (by omega) (by omega) (fun _ => rfl) (fun _ => rfl) (fun _ => ⟨ha, hbP⟩) (fun w => by omega) (by omega)
            · rw [b4'.1 29 (by decide), e4, gI_pI_n (Or.inl (by decide)), gI_pI_n (Or.inl (by decide)), s7.1 29 (by decide)]; exact g2
            · rw [b4'.1 30 (by decide), e4, gI_pI_n (Or.inl (by decide)), gI_pI_s]
            · rw [b4'.1 31 (by decide), e4, gI_pI_s]
          · right
            have s4 : f_X12_needsTwo 0 μ2 = some (0, μ') := s4
            rw [cl_of _ s1, jn_e2, if_neg one0, cl_of _ s2, if_pos rfl, cl_of _ s3, cl_of _ s4, if_pos rfl]
            exact ⟨σ', μ', rfl, rfl, a3.ce.tr s5.1.ce, me2.tr s5.2.1.me, s5.2.2⟩
          · right
            have s3 : f_X12_needsTwo 0 μ2 = some (0, μ') := s3
            rw [cl_of _ s1, jn_e2, if_pos rfl, cl_of _ s2, if_pos rfl, cl_of _ s3, if_pos rfl]
            exact ⟨σ', μ', rfl, rfl, a3.ce.tr s4.1.ce, me2.tr s4.2.1.me, s4.2.2⟩
        · right
          have q2 : f_X12_needsTwo 0 μ2 = some (0, μ') := q2
          rw [cl_of _ q1, if_pos rfl, cl_of _ q2, if_pos rfl]
          exact ⟨σ', μ', rfl, rfl, a3.ce.tr q3.1.ce, me2.tr q3.2.1.me, q3.2.2⟩
      · rw [if_neg (fun w => c1 (e9.mp w)), if_neg (fun w => c1 (i1.mp w))]
        by_cases c0 : v = 0
        · rw [if_pos (e8.mpr c0), if_pos (i0.mpr c0)]
          exact fin (a := 0) (b := 0) r2 a5 Cf.rf ME.rf m2 g2 (fun w => absurd c0 w) (fun w => absurd w c1) (by omega) (by omega) (fun w => absurd c0 w) (fun w => absurd w c1) (fun w => absurd w c1) (fun w => by omega) pq
        · rw [if_neg (fun w => c0 (e8.mp w)), if_neg (fun w => c0 (i0.mp w))]
          rcases r_walker r2 nW2 with ⟨k, hk, k2', q1, q2, q3⟩ | ⟨q0, σ', μ', q1, q2, q3⟩ | ⟨q0, q1, σ', q2, q3⟩
          · rw [cl_of _ q2, if_pos rfl, cl_of _ q3, ck_t (inb_nI (show 200 + lM l < 240 by omega) (by omega)), bn_e, ck_t (inb_nI (show 200 + lM l < 240 by omega) (by omega)), gI_pI_s, if_neg (nI_pos (show k < 2147483648 by omega))]
            obtain ⟨μ4, e4⟩ : ∃ y, y = pI μ2 30 (200 + lM l) (nI k) := ⟨_, rfl⟩
            rw [← e4]
            have r4 : Rd σ1 μ4 s n (tkE s n p) := by rw [e4]; exact p29_R r2 (by omega)
            have m4 : LR μ4 5 l := by rw [e4]; exact p29_L m2 (by omega)
            have me4 : ME μ2 μ4 := by rw [e4]; exact ME.p29 (by omega) (by omega)
            obtain ⟨σ5, μ5, b1', b2', b3', b4', b5', b6'⟩ := r4.nextOk a5
            rw [cl_of _ (q1 σ5 b1'), if_neg (nI_ne k (by omega)), cl_of _ b2']
            have tl := tk_le (s := s) r4.2.2.2.1
            refine fin (a := k) (b := 0) b6' b5' b3' (me4.tr b4'.me) (m4.me b4') ?_ (fun _ => ?_) (fun w => absurd w c1) (by omega) (by omega) (fun _ => rfl) (fun w => absurd w c1) (fun w => absurd w c1) (fun _ => hk) (by omega)
            · rw [b4'.1 29 (by decide), e4, gI_pI_n (Or.inl (by decide))]; exact g2
            · rw [b4'.1 30 (by decide), e4, gI_pI_s]
          · right
            rw [cl_of _ q1, if_pos rfl, cl_of _ q0, if_neg one0, cl_of _ q2]
            exact ⟨σ', μ', rfl, rfl, a3.ce.tr q3.1.ce, me2.tr q3.2.1.me, q3.2.2⟩
          · right
            have r4 : Rd σ1 (pI μ2 30 (200 + lM l) (-1)) s n (tkE s n p) := p29_R r2 (by omega)
            obtain ⟨σ'', μ', b1', b2', b3', b4', b5'⟩ := r4.bad (k := 2) (by omega) (by omega)
            have b1' : f_X6_wrong 2 σ1 = some (0, σ'') := b1'
            have b2' : f_X12_fails 2 (pI μ2 30 (200 + lM l) (-1)) = some (0, μ') := b2'
            rw [q3] at b1'
            cases b1'
            rw [cl_of _ q2, if_pos rfl, cl_of _ q0, if_pos rfl, cl_of _ q1, ck_t (inb_nI (show 200 + lM l < 240 by omega) (by omega)), bn_e, ck_t (inb_nI (show 200 + lM l < 240 by omega) (by omega)), gI_pI_s, if_pos (by decide), cl_of _ b2']
            exact ⟨σ', μ', rfl, rfl, a3.ce.tr b3'.ce, me2.tr ((ME.p29 (by omega) (by omega)).tr b4'.me), b5'⟩
    · right
      rw [if_neg (fun w => z (k40.mp w)), if_pos (q40.mpr (by omega))]
      obtain ⟨σ', μ', a1, a2, a3, a4, a5⟩ := h.bad (k := 5) (by omega) (by omega)
      have a1 : f_X6_wrong 5 σ = some (0, σ') := a1
      have a2 : f_X12_fails 5 μ = some (0, μ') := a2
      rw [cl_of _ a1, cl_of _ a2]
      exact ⟨σ', μ', rfl, rfl, a3.ce, a4.me, a5⟩
