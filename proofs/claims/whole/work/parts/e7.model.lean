/-! a long maker: a row made and laid into its field -/
section NXL
variable {own : String} {cc : ByteArray} {nL d : Nat} {D : va_G} {κ : FieldType → ClassId} {ρ : Nat → Nat} {G : va_W → Prop} {gc gs pc : Nat} {fs : List Value} {rest : va_W} {h0 ci : Nat}
theorem N_arr {n : Int32} {N' pl index k t0 NF : Nat} {atype : ArrayType} {ty fty : FieldType} {a0 : vp_A} (hlf : fs.length = NF) (hk : k < NF) (dA : decode cc pc = .ok (.aload_n 0, 1)) (hpush : ∀ (gc gs : Nat) (st : List Value) (w : va_W), NX own cc nL d D κ ρ G gc gs (pc + 1 + pl) [(0, .ref h0)] (.int n :: st) w → NX own cc nL d D κ ρ G gc gs (pc + 1) [(0, .ref h0)] st w) (ht : ∀ κ, (tysOf κ)[t0]? = some (κ ty, ty)) (harr : Cond.arrayClass (newarray.typeOf atype) ∈ GT) (hty : newarray.typeOf atype = ty) (ha : ∀ cA : ClassId, vp_cell cA a0 = arrV cA N' (fun _ => defaultValue ty)) (hn : ¬ n < 0) (hN : n.toNatClampNeg = N') (hby : N' * componentBytes ty ≤ 536870912) (dN : decode cc (pc + 1 + pl) = .ok (.newarray atype, 2)) (fk : FLk own index ci k fty true) (hown0 : ∀ C T N, vwCl[ci]? = some (C, T, N) → C = own) (hnr : ∀ q : Nat, narrow fty (.ref q) = .ref q) (hft : ∀ q : Nat, fits fty (.ref q) = true) (dP : decode cc (pc + 1 + pl + 2) = .ok (.putfield index, 3)) (kk : ∀ (q : Nat) (fs' : List Value) (rest' : va_W), fs' = fs.set k (.ref q) → rest' = rest ++ [(q, .inl (κ ty, a0))] → fs'.length = NF → NX own cc nL d D κ ρ G gc gs (pc + 1 + pl + 2 + 3) [(0, .ref h0)] [] ((h0, .inr (ci, fs')) :: rest')) : NX own cc nL d D κ ρ G (gc + 1) (gs + N') pc [(0, .ref h0)] [] ((h0, .inr (ci, fs)) :: rest) := by
  refine N_aload_n dA rfl 0 rfl ?_
  refine hpush _ _ _ _ ?_
  refine N_newa t0 ht harr hty ha hn hN hby dN (fun q => ?_)
  refine N_putF (q0 := 0) fk hown0 rfl (hnr q) (hft q) (by omega) dP ?_
  exact kk q _ _ rfl rfl (by rw [List.length_set]; exact hlf)
theorem N_int1 {v : Int32} {pl index k NF : Nat} {fty : FieldType} (hlf : fs.length = NF) (hk : k < NF) (dA : decode cc pc = .ok (.aload_n 0, 1)) (hpush : ∀ (gc gs : Nat) (st : List Value) (w : va_W), NX own cc nL d D κ ρ G gc gs (pc + 1 + pl) [(0, .ref h0)] (.int v :: st) w → NX own cc nL d D κ ρ G gc gs (pc + 1) [(0, .ref h0)] st w) (fk : FLk own index ci k fty false) (hnr : narrow fty (.int v) = .int v) (hft : fits fty (.int v) = true) (dP : decode cc (pc + 1 + pl) = .ok (.putfield index, 3)) (kk : ∀ fs' : List Value, fs' = fs.set k (.int v) → fs'.length = NF → NX own cc nL d D κ ρ G gc gs (pc + 1 + pl + 3) [(0, .ref h0)] [] ((h0, .inr (ci, fs')) :: rest)) : NX own cc nL d D κ ρ G gc gs pc [(0, .ref h0)] [] ((h0, .inr (ci, fs)) :: rest) := by
  refine N_aload_n dA rfl 0 rfl ?_
  refine hpush _ _ _ _ ?_
  refine N_put (q0 := 0) fk rfl hnr hft (by omega) dP ?_
  exact kk _ rfl (by rw [List.length_set]; exact hlf)
end NXL
/-! the maker of the reference -/
def T0 : Tw := ((0, 0, 0), fun _ => 0, fun _ => 0, fun _ => 0, fun _ => 0, fun _ _ => none, tEof (fun x => x.1), fun _ => 0, fun _ => 0, fun _ => 0, 3)
theorem T0_ok : TwOk T0 := ⟨Nat.zero_le _, Nat.zero_le _, Nat.zero_le _, fun k hk => absurd hk (Nat.not_lt_zero k), fun a b k ha => absurd ha (Nat.not_lt_zero a), fun a b c d => clN_le _, fun w hw => absurd hw (Nat.not_lt_zero w), fun k hk => absurd hk (Nat.not_lt_zero k)⟩
theorem tm0 {ν : Mm} (h0 : gI ν 2 0 = 0) (h1 : gI ν 2 1 = 0) (h2 : gI ν 2 2 = 0) (h3 : gI ν 2 3 = 3) (h4 : gI ν 12 0 = gI ν 13 0) : TM ν T0 :=
  ⟨h0, h1, h2, h3, fun k hk => absurd hk (Nat.not_lt_zero k), fun w hw => absurd hw (Nat.not_lt_zero w), fun a b ha => absurd ha (Nat.not_lt_zero a), lawX (σ := zM) (t := 0) (E := fun x => x.1) (Or.inl ⟨rfl, h4, rfl⟩) rfl (Nat.zero_le _) (fun k hk => absurd hk (Nat.not_lt_zero k))⟩
def zMo : Mm := (fun a k => if a = 0 ∧ k = 57 then 63 else 0, fun _ _ => 0, fun _ _ => 0)
def imgM (σ : Mm) : Option (Int32 × Mm) := ck (inb (3 : Int32) 8) (bn (pI σ 2 (3 : Int32).toNatClampNeg (3 : Int32)) (fun σ1 => cl (f_X12_lays0 σ1) (fun _ σ2 => cl (f_X12_fresh σ2) (fun _ σ3 => some (0, σ3)))))
theorem x_imgM (σ : Mm) : X (wsOf SHM) RX12 cX12_init 1 none 40 0 406 [(0, .ref 0)] [] σ (imgM σ) := by
  unfold imgM
  refine X_aload_n (pc := 406) (td kX12_init 201 rfl) rfl 0 rfl ?_
  refine X_getF (b := 2) (pc := 407) sM_0 rfl fk_X12_13 (td kX12_init 202 rfl) ?_
  refine X_iconst (v := (3 : Int32)) (pc := 410) (td kX12_init 203 rfl) (by decide) ?_
  refine X_iconst (v := (3 : Int32)) (pc := 411) (td kX12_init 204 rfl) (by decide) ?_
  refine X_iast (pc := 412) sM_2 (td kX12_init 205 rfl) (fun σ1 => ?_)
  refine X_aload_n (pc := 413) (td kX12_init 206 rfl) rfl 0 rfl ?_
  refine X_callv (pc := 414) (As := []) (st := []) sM_0 (x_X12_lays0 σ1) mkX12_lays0 lk_X12_163 (by omega) rfl rfl (Nat.le_of_ble_eq_true rfl) (td kX12_init 207 rfl) (fun _ σ2 _ => ?_)
  refine X_aload_n (pc := 417) (td kX12_init 208 rfl) rfl 0 rfl ?_
  refine X_callv (pc := 418) (As := []) (st := []) sM_0 (x_X12_fresh σ2) mkX12_fresh lk_X12_166 (by omega) rfl rfl (Nat.le_of_ble_eq_true rfl) (td kX12_init 209 rfl) (fun _ σ3 _ => ?_)
  exact X_retv (pc := 421) (td kX12_init 210 rfl)
def MoF (μ : Mm) : Prop := TMr μ T0 ∧ RP μ 36 0 T0 (beginN T0) ∧ gI μ 0 56 = 0 ∧ gI μ 0 57 = 63 ∧ gI μ 0 1 = 0 ∧ gI μ 0 55 = 0 ∧ gI μ 28 0 = 0 ∧ gI μ 32 0 = 0 ∧ ∀ i, i < 4 → gI μ 41 i = 0
theorem mo_first : ∃ μ, imgM zMo = some (0, μ) ∧ MoF μ := by
  have n3 : (3 : Int32).toNatClampNeg = 3 := rfl
  obtain ⟨μ1, e1⟩ : ∃ y, y = pI zMo 2 3 3 := ⟨_, rfl⟩
  have z1 : ∀ a k, a ≠ 2 → gI μ1 a k = gI zMo a k := fun a k h => by rw [e1, gI_pI_n (Or.inl h)]
  have z2 : ∀ k, k ≠ 3 → gI μ1 2 k = 0 := fun k h => by rw [e1, gI_pI_n (Or.inr h)]; rfl
  have z3 : gI μ1 2 3 = 3 := by rw [e1, gI_pI_s]
  have z0 : ∀ a k, a ≠ 0 → gI zMo a k = 0 := fun a k h => if_neg (fun q => h q.1)
  obtain ⟨χ, D, a1, a2, a3, a4⟩ := m_lays0 (σ := μ1) (ln := fun _ _ => none) (fun τ o a b ha hb => by
    have := m_laneOf (σ := τ) (r := 0) (L := 0) (by omega) (by rw [o.1 2 (by simp)]; exact z2 1 (by omega)) (by omega) (nI a) (nI b)
    exact this) (fun a b k h => by cases h)
  have c1 : ∀ a k, a ≠ 27 → gI χ a k = gI μ1 a k := fun a k h => a2.1 a (by simpa using h) k
  have tmc : TM χ T0 := tm0 ((c1 2 0 (by omega)).trans (z2 0 (by omega))) ((c1 2 1 (by omega)).trans (z2 1 (by omega))) ((c1 2 2 (by omega)).trans (z2 2 (by omega))) ((c1 2 3 (by omega)).trans z3) (by rw [c1 12 0 (by omega), c1 13 0 (by omega), z1 12 0 (by omega), z1 13 0 (by omega)]; rfl)
  obtain ⟨ω, b1, b2, b3⟩ := m_fresh tmc T0_ok
  have o1 : ∀ a k, a ≠ 36 → gI ω a k = gI χ a k := fun a k h => b3.1 a (by simpa using h) k
  have oz : ∀ a k, a ≠ 36 → a ≠ 27 → a ≠ 2 → gI ω a k = gI zMo a k := fun a k h1 h2 h3 => (o1 a k h1).trans ((c1 a k h2).trans (z1 a k h3))
  have o2 : ∀ k, gI ω 2 k = gI μ1 2 k := fun k => (o1 2 k (by omega)).trans (c1 2 k (by omega))
  refine ⟨ω, ?_, fun ν hν => ?_, b2, ?_, ?_, ?_, ?_, ?_, ?_, fun i _ => ?_⟩
  · unfold imgM
    rw [ck_t (by decide), bn_e, n3, ← e1, cl_of _ a1, cl_of _ b1]
  · have r2 : ∀ k, k < 4 → gI ν 2 k = gI μ1 2 k := fun k hk => (hν.1 2 (by omega) (by omega) k hk).trans (o2 k)
    refine tm0 ((r2 0 (by omega)).trans (z2 0 (by omega))) ((r2 1 (by omega)).trans (z2 1 (by omega))) ((r2 2 (by omega)).trans (z2 2 (by omega))) ((r2 3 (by omega)).trans z3) ?_
    rw [hν.1 12 (by omega) (by omega) 0 (by decide), hν.1 13 (by omega) (by omega) 0 (by decide), oz 12 0 (by omega) (by omega) (by omega), oz 13 0 (by omega) (by omega) (by omega)]
    rfl
  · rw [oz 0 56 (by omega) (by omega) (by omega)]; rfl
  · rw [oz 0 57 (by omega) (by omega) (by omega)]; rfl
  · rw [oz 0 1 (by omega) (by omega) (by omega)]; rfl
  · rw [oz 0 55 (by omega) (by omega) (by omega)]; rfl
  · rw [oz 28 0 (by omega) (by omega) (by omega)]; rfl
  · rw [oz 32 0 (by omega) (by omega) (by omega)]; rfl
  · rw [oz 41 i (by omega) (by omega) (by omega)]; exact z0 41 i (by omega)
def Gmo (κ : FieldType → ClassId) (ρ : Nat → Nat) (h0 : Nat) (w : va_W) : Prop := ∃ (qs : List Nat) (μ : Mm), qs.length = 50 ∧ gD qs 0 = h0 ∧ w = wsOf SHM κ (fun i => if i < 1000000 then gD qs i else ρ i) μ ∧ MoF μ
theorem no_X12 : Cond.methodLink RX12 1 Lib.objectInit ∈ GT := gt_t 1197 (by decide +kernel) (by decide)
