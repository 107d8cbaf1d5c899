/-! levels and parts of a law, by induction -/
def noK (k : Nat) (s : Nat → Nat) (n q : Nat) (cm : Bool) : Prop := (k ≤ 3 → opT s n q 3 = none) ∧ (k ≤ 2 → opT s n q 2 = none) ∧ (k ≤ 1 → (opT s n q 1 = none ∨ cm = true)) ∧ (k = 0 → opT s n q 0 = none)
theorem noK_s {k : Nat} {s : Nat → Nat} {n q : Nat} {cm : Bool} (hk : k < 4) (h : noK (k + 1) s n q cm) (ho : opT s n q k = none ∨ (k = 1 ∧ cm = true)) : noK k s n q cm := by
  obtain ⟨h3, h2, h1, h0⟩ := h
  have : k = 0 ∨ k = 1 ∨ k = 2 ∨ k = 3 := by omega
  rcases this with rfl | rfl | rfl | rfl
  · exact ⟨fun _ => h3 (by omega), fun _ => h2 (by omega), fun _ => h1 (by omega), fun _ => ho.elim id (fun z => absurd z.1 (by decide))⟩
  · exact ⟨fun _ => h3 (by omega), fun _ => h2 (by omega), fun _ => ho.elim Or.inl (fun z => Or.inr z.2), fun z => absurd z (by decide)⟩
  · exact ⟨fun _ => h3 (by omega), fun _ => ho.elim id (fun z => absurd z.1 (by decide)), fun z => absurd z (by decide), fun z => absurd z (by decide)⟩
  · exact ⟨fun _ => ho.elim id (fun z => absurd z.1 (by decide)), fun z => absurd z (by decide), fun z => absurd z (by decide), fun z => absurd z (by decide)⟩
def c16 (k d : Nat) (v : Int32) (μ : Mm) (cm : Bool) : Prop := (k ≤ 1 → gI μ 16 d = b1I cm) ∧ (2 ≤ k → gI μ 16 d = v)
def PartOk (t : Nat) (s : Nat → Nat) (n F : Nat) : Prop := ∀ σ μ p len c d o, d ≤ 5 → 6 * (5 - d) + 1 ≤ F → 0 < p → LSt σ μ t s n p len c → OpOk μ o d →
  (∃ σ' μ' q len' c' E, (fLP F).2 (t + 1) (nI d) σ = some (1, σ') ∧ LSt σ' μ' t s n q len' c' ∧ p < q ∧ len < len' ∧ c < c' ∧ Sg t d σ μ p len c d 1 σ' μ' q len' c' (popD o d) 0 ∧ gI μ' 16 d = gI μ 16 d ∧ SemC (gI σ' (t + 2)) len len' (15 + 4 * d) E ∧ PtS (gI μ' 14) c c' d o E) ∨
  (∃ σ' μ', (fLP F).2 (t + 1) (nI d) σ = some (0, σ') ∧ Sf t n σ μ p c d 1 σ' μ')
def LevOk (t : Nat) (s : Nat → Nat) (n F k : Nat) : Prop := ∀ σ μ p len c d o, d ≤ 5 → 6 * (5 - d) + 1 + (5 - k) ≤ F → 0 < p → LSt σ μ t s n p len c → OpOk μ o d → popD o d = d → (k ≤ 1 → gI μ 16 d = 0) →
  (∃ σ' μ' q len' c' E cm, (fLP F).1 (t + 1) (nI k) (nI d) σ = some (1, σ') ∧ LSt σ' μ' t s n q len' c' ∧ p < q ∧ len < len' ∧ c < c' ∧ Sg t d σ μ p len c d 1 σ' μ' q len' c' d 0 ∧ c16 k d (gI μ 16 d) μ' cm ∧ SemC (gI σ' (t + 2)) len len' (11 + 4 * d + k) E ∧ LkS k (gI μ' 14) c c' d o E ∧ noK k s n q cm) ∨
  (∃ σ' μ', (fLP F).1 (t + 1) (nI k) (nI d) σ = some (0, σ') ∧ Sf t n σ μ p c d 1 σ' μ')
theorem tkE_le {σ μ : Mm} {s : Nat → Nat} {n p : Nat} (h : Rd σ μ s n p) : tkE s n p ≤ n := by
  obtain ⟨_, _, _, _, _, _, r⟩ := h.next
  exact r.2.2.2.1
/-- the operations of a level -/
theorem lev_loop {t n F k d : Nat} {s : Nat → Nat} {o : Nat → Bool} (ht : isTown t = true) (ih : LevOk t s n F (k + 1)) (hk : k < 4) (hd : d ≤ 5) (hF : 6 * (5 - d) + 1 + (4 - k) ≤ F) (hp : popD o d = d) (len0 c0 : Nat) (v : Int32) : ∀ N i σ μ q len c E cm, n - q < N → i < q → LSt σ μ t s n q len c → OpOk μ o d → len0 ≤ len → c0 ≤ c → SemC (gI σ (t + 2)) len0 len (11 + 4 * d + k) E → AcS k i (gI μ 14) c0 c d o E → c16 k d v μ cm → (k = 1 → cm = decide (0 < i)) → noK (k + 1) s n q cm →
    (∃ σ' μ' q' len' c' E' cm', lq2 (F_X6_readLevel_29 (fLP F).1 (t + 1) (nI k) (nI d) (fun τ => some (1, τ))) N (nI i) σ = some (1, σ') ∧ LSt σ' μ' t s n q' len' c' ∧ Sg t d σ μ q len c d 0 σ' μ' q' len' c' d 0 ∧ c16 k d v μ' cm' ∧ SemC (gI σ' (t + 2)) len0 len' (11 + 4 * d + k) E' ∧ LkS k (gI μ' 14) c0 c' d o E' ∧ noK k s n q' cm') ∨
    (∃ σ' μ', lq2 (F_X6_readLevel_29 (fLP F).1 (t + 1) (nI k) (nI d) (fun τ => some (1, τ))) N (nI i) σ = some (0, σ') ∧ Sf t n σ μ q c d 0 σ' μ')
  | 0, _, _, _, _, _, _, _, _, h, _, _, _, _, _, _, _, _, _, _ => absurd h (by omega)
  | N + 1, i, σ, μ, q, len, c, E, cm, hN, hi, hL, ho, hl0, hc0, hS, hA, h16, hcm, hno => by
    have rk := lev_loop ht ih hk hd hF hp len0 c0 v N
    show (∃ σ' μ' q' len' c' E' cm', F_X6_readLevel_29 (fLP F).1 (t + 1) (nI k) (nI d) (fun τ => some (1, τ)) (lq2 (F_X6_readLevel_29 (fLP F).1 (t + 1) (nI k) (nI d) (fun τ => some (1, τ))) N) (nI i) σ = some (1, σ') ∧ _) ∨ (∃ σ' μ', F_X6_readLevel_29 (fLP F).1 (t + 1) (nI k) (nI d) (fun τ => some (1, τ)) (lq2 (F_X6_readLevel_29 (fLP F).1 (t + 1) (nI k) (nI d) (fun τ => some (1, τ))) N) (nI i) σ = some (0, σ') ∧ _)
    generalize lq2 (F_X6_readLevel_29 (fLP F).1 (t + 1) (nI k) (nI d) (fun τ => some (1, τ))) N = rc at rk ⊢
    have hR := hL.1
    have qn : q ≤ n := hR.2.2.2.1
    have n1 : n ≤ 1000 := hR.1.1
    have oc := opC hR hk
    have il : nI i < 1000 := nI_lt (a := i) (b := 1000) (by omega) (by omega)
    have e0 : Sg t d σ μ q len c d 0 σ μ q len c d 0 := ⟨by omega, by omega, by omega, by omega, by omega, LCf.rf, LMf.rf, fun _ _ => rfl, fun _ _ => rfl, fun _ _ => rfl, fun _ _ => rfl, 0, by omega, fun m => rfl⟩
    unfold F_X6_readLevel_29
    rw [if_pos il, cl_of _ oc]
    simp only [jn_e2]
    cases eo : opT s n q k with
    | none =>
      refine Or.inl ⟨σ, μ, q, len, c, E, cm, ?_, hL, e0, h16, hS, acS_e hA, noK_s hk hno (Or.inl eo)⟩
      rw [if_pos (show oI (Option.map Prod.fst (none : Option (Nat × Nat))) = -1 from rfl)]
    | some op =>
      obtain ⟨r0, r8⟩ := op_rng eo
      have nm : ¬ oI (Option.map Prod.fst (some op)) = -1 := fun z => by
        have : nI op.1 = -1 := z
        exact nI_ne _ (by omega) this
      rw [if_neg nm]
      by_cases stop : k = 1 ∧ 0 < i
      · refine Or.inl ⟨σ, μ, q, len, c, E, cm, ?_, hL, e0, h16, hS, acS_e hA, noK_s hk hno (Or.inr ⟨stop.1, by rw [hcm stop.1]; exact decide_eq_true stop.2⟩)⟩
        rw [if_pos (by rw [stop.1]; rfl), if_pos (show (0 : Int32) < nI i from nI_lt (a := 0) stop.2 (by omega))]
      · have go : ∀ (A B : Option (Int32 × Mm)), (if nI k = 1 then if 0 < nI i then A else B else B) = B := fun A B => by
          by_cases k1 : k = 1
          · rw [if_pos (by rw [k1]; rfl), if_neg (fun z => by have := (nI_ltI (a := 0) (b := i) (by omega) (by omega)).mp z; exact stop ⟨k1, this⟩)]
          · have n1 : ¬ nI k = 1 := fun z => k1 ((nI_eq (b := 1) (by omega) (by omega)).mp z)
            rw [if_neg n1]
        rw [go]
        have tn : tkE s n q ≤ n := tkE_le hR
        have adv := op_adv qn eo
        have cb : c < 2000 := by have := hL.2.2.2.2.2.2; omega
        have z16 : k = 1 → gI μ 16 d = 0 := fun k1 => by
          rw [h16.1 (by omega), hcm k1, decide_eq_false (fun z => stop ⟨k1, z⟩)]; rfl
        obtain ⟨μa, st, m0, m14, m15, m16, lm, rd⟩ := m_op hR hk hd hL.2.2.2.2.1 cb eo z16
        obtain ⟨σ1, μ1, a1, L1, S1, x14, x15, x16, xs⟩ := stp_next (B := d) ht hL (op_adv qn eo) m0 m14 (fun j _ => m15 j) (fun j hj => by rw [m16, if_neg (by omega)]) lm rd st
        have o1 : OpOk μ1 o d := S1.op (by omega) ho
        have w16 : gI μ1 16 d = cmpV k (gI μ 16 d) := by rw [x16, m16, if_pos rfl]
        have k1e : nI k + 1 = nI (k + 1) := nI_1 k
        rw [cl_of _ a1, k1e]
        rcases ih σ1 μ1 (tkE s n q) len (c + 1) d o hd (by omega) (by omega) L1 o1 hp (fun h => by rw [w16, show k = 0 by omega]; rfl) with ⟨σ3, μ3, q3, len3, c3, E3, cm3, b1, L3, b2, b3, b4, S3, b5, b6, b7, b8⟩ | ⟨σ3, μ3, b1, b2⟩
        · rw [cl_of _ b1, if_neg one0]
          have ps := S3.pos
          obtain ⟨σ4, d1, L4, d2, d3, d4⟩ := l_add (k := op.1) ht L3 (by have := hL.2.2.2.1; omega) (by omega)
          have d1 : f_X1_add (t + 1) (oI (Option.map Prod.fst (some op))) σ3 = _ := d1
          rw [cl_of _ d1, nI_1]
          have S13 := S1.tr S3
          have S4 := Sg.add (p1 := 0) S13 (by omega) d2 d3
          have q3n : q3 ≤ n := L3.1.2.2.2.1
          have hS4 : SemC (gI σ4 (t + 2)) len0 (len3 + 1) (11 + 4 * d + k) (fun x => jnS (nI op.1) (E x) (E3 x)) := by
            refine semC_bin2 hl0 (by omega) (hS.congr (fun j _ hj => S4.bS hj)) (b6.congr (fun j _ hj => d3 j hj)) d4 ?_ ?_
            · exact nI_lt (a := op.1) (b := 8) r8 (by omega)
            · exact fun z => by have := (nI_eq (b := 0) (by omega) (by omega)).mp z; omega
          have hA4 : AcS k (i + 1) (gI μ3 14) c0 c3 d o (fun x => jnS (nI op.1) (E x) (E3 x)) := by
            refine acS_s hd hk hp (fun k1 => by have : ¬ 0 < i := fun z => stop ⟨k1, z⟩; omega) eo hc0 (by omega) (hA.congr (fun j _ hj => S4.b14 hj)) ?_ b7
            rw [S3.b14 (by omega)]; exact x14
          have h164 : ∃ cm4, c16 k d v μ3 cm4 ∧ (k = 1 → cm4 = decide (0 < i + 1)) ∧ noK (k + 1) s n q3 cm4 := by
            by_cases k0 : k = 0
            · exact ⟨cm3, ⟨fun _ => b5.1 (by omega), fun z => absurd z (by omega)⟩, fun z => by omega, b8⟩
            · have u : gI μ3 16 d = cmpV k (gI μ 16 d) := (b5.2 (by omega)).trans w16
              by_cases k1 : k = 1
              · refine ⟨true, ⟨fun _ => ?_, fun z => absurd z (by omega)⟩, fun _ => (decide_eq_true (by omega)).symm, ⟨fun z => b8.1 z, fun z => b8.2.1 z, fun z => absurd z (by omega), fun z => absurd z (by omega)⟩⟩
                rw [u, k1]; rfl
              · refine ⟨cm3, ⟨fun z => absurd z (by omega), fun _ => ?_⟩, fun z => absurd z k1, b8⟩
                rw [u, ← h16.2 (by omega)]
                unfold cmpV
                rw [if_neg k0, if_neg k1]
          obtain ⟨cm4, e1, e2, e3⟩ := h164
          rcases rk (i + 1) σ4 μ3 q3 (len3 + 1) c3 (fun x => jnS (nI op.1) (E x) (E3 x)) cm4 (by omega) (by omega) L4 (S13.op (by omega) ho) (by omega) (by omega) hS4 hA4 e1 e2 e3 with ⟨σ', μ', q', len', c', E', cm', f1, f2, f3, f4⟩ | ⟨σ', μ', f1, f2⟩
          · exact Or.inl ⟨σ', μ', q', len', c', E', cm', f1, f2, S4.tr f3, f4⟩
          · exact Or.inr ⟨σ', μ', f1, S4.sf q3n f2⟩
        · rw [cl_of _ b1, if_pos rfl]
          exact Or.inr ⟨σ3, μ3, rfl, S1.sf L1.1.2.2.2.1 b2⟩
