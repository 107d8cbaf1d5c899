/-- the lanes along which one has gone -/
def wlN (T : Tw) (N : Nt) (n k : Nat) : Bool := (fst1 (fun i => wkN T (itN T 0 N i) k) 0 n).isSome
theorem fst1_any {p : Nat → Bool} {n : Nat} : (fst1 p 0 n).isSome = true ↔ ∃ i, i < n ∧ p i = true := by
  constructor
  · intro h
    cases e : fst1 p 0 n with
    | none => rw [e] at h; cases h
    | some k => have := fst1_some e; exact ⟨k, by omega, this.2.2.1⟩
  · intro ⟨i, hi, hp⟩
    cases e : fst1 p 0 n with
    | none => have := fst1_none e i (Nat.zero_le _) (by omega); rw [hp] at this; cases this
    | some k => rfl
theorem wlN_s (T : Tw) (N : Nt) (n k : Nat) : wlN T N (n + 1) k = (wlN T N n k || wkN T (itN T 0 N n) k) := by
  rw [Bool.eq_iff_iff, Bool.or_eq_true]
  unfold wlN
  rw [fst1_any, fst1_any]
  constructor
  · intro ⟨i, hi, hp⟩
    by_cases z : i = n
    · subst z; exact Or.inr hp
    · exact Or.inl ⟨i, by omega, hp⟩
  · intro h
    rcases h with ⟨i, hi, hp⟩ | hp
    · exact ⟨i, by omega, hp⟩
    · exact ⟨n, by omega, hp⟩
theorem bts_or {p q : Nat → Bool} {n : Nat} : nI (bts p n) ||| nI (bts q n) = nI (bts (fun i => p i || q i) n) := by
  have e : bts p n ||| bts q n = bts (fun i => p i || q i) n := by
    apply Nat.eq_of_testBit_eq
    intro i
    rw [Nat.testBit_or]
    by_cases hi : i < n
    · rw [bts_bit _ hi, bts_bit _ hi, bts_bit _ hi]
    · rw [bts_high _ (by omega), bts_high _ (by omega), bts_high _ (by omega)]; rfl
  rw [← e]
  apply Int32.toBitVec_inj.mp
  show BitVec.ofNat 32 (bts p n) ||| BitVec.ofNat 32 (bts q n) = BitVec.ofNat 32 (bts p n ||| bts q n)
  rw [BitVec.ofNat_or]
theorem bts_none : ∀ n, bts (fun _ => false) n = 0
  | 0 => rfl
  | n + 1 => by simp only [bts, bts_none n, Bool.toNat_false, Nat.mul_zero]
theorem s_neverWalked {σ : Mm} {t m : Nat} {T : Tw} {N : Nt} (hc : TC σ t T) (hT : TwOk T) (hm : (197 : Nat) ≠ m) (r : RC σ m (tW T) N) (hN : NtOk T N) :
    ∃ τ, f_X0_neverWalked t m σ = some (((((1 : Int32) <<< (nI (tL T) &&& 31)) - 1) &&& (nI (bts (wlN T N (tkN T 0 N)) (tL T)) ^^^ (-1))), τ) ∧ Off (tryC t) σ τ := by
  have hle := tkN_le T 0 N
  have hL := hT.2.1
  obtain ⟨σ1, l1, a1⟩ := At.first (N := N) 0 hc hT hm r
  unfold f_X0_neverWalked
  rw [ck_t hc.1, ck_t r.1, cl_of _ l1, jn_e2]
  obtain ⟨kx, ek⟩ : ∃ k : Int32 → Mm → Option (Int32 × Mm), k = (fun (x3_56 : Int32) (σ_56 : Mm) => some (((((1 : Int32) <<< ((gI σ_56 t 1) &&& 31)) - (1 : Int32)) &&& (x3_56 ^^^ (-1 : Int32))), σ_56)) := ⟨_, rfl⟩
  rw [← ek]
  have z0 : (0 : Int32) = nI (bts (wlN T N 0) (tL T)) := by
    have : bts (wlN T N 0) (tL T) = 0 := (bts_congr (fun i _ => rfl)).trans (bts_none (tL T))
    rw [this]; rfl
  have q := lq3_inv (F := F_X0_neverWalked_13 t kx) (fun i => nI (bts (wlN T N i) (tL T))) (fun i => nI i) (fun i b => At σ t T 0 N i b) (tkN T 0 N) (fun b => kx (nI (bts (wlN T N (tkN T 0 N)) (tL T))) b) ?_ ?_ (n := 1000000) (b0 := σ1) a1 (by omega)
  · obtain ⟨b, hb, e⟩ := q
    rw [← z0] at e
    refine ⟨b, e.trans ?_, hb.1⟩
    rw [ek]
    show some (((((1 : Int32) <<< ((gI b t 1) &&& 31)) - (1 : Int32)) &&& (nI (bts (wlN T N (tkN T 0 N)) (tL T)) ^^^ (-1 : Int32))), b) = _
    rw [hb.2.1.2.2.1]
  · intro rec i b hi hb
    obtain ⟨τ, t1, t2, -, t3⟩ := hb.pass hT hN LgOk.z
    refine ⟨τ, t2, ?_⟩
    simp only [F_X0_neverWalked_13, if_pos (i99 (show i < 99 by omega)), cl_of _ (hb.home0 hT hN hi), if_true, cl_of _ t1, t3, bts_or, bn_e, nI_1]
    have : bts (fun k => wlN T N i k || wkN T (itN T 0 N i) k) (tL T) = bts (wlN T N (i + 1)) (tL T) := bts_congr (fun k _ => (wlN_s T N i k).symm)
    rw [this]
  · intro rec b hb
    by_cases c : tkN T 0 N < 99
    · simp only [F_X0_neverWalked_13, if_pos (i99 c), cl_of _ (hb.home1 hT hN c), show ¬ (1 : Int32) = 0 by decide, if_false]
    · simp only [F_X0_neverWalked_13, if_neg (n99 (show 99 ≤ tkN T 0 N by omega) (by omega))]
