/-! sets as bits -/
def cnt (p : Nat → Bool) : Nat → Nat
  | 0 => 0
  | n + 1 => cnt p n + (p n).toNat
def bts (p : Nat → Bool) : Nat → Nat
  | 0 => 0
  | n + 1 => bts p n + 2 ^ n * (p n).toNat
theorem bts_lt (p : Nat → Bool) : ∀ n, bts p n < 2 ^ n
  | 0 => Nat.zero_lt_one
  | n + 1 => by
    have h := bts_lt p n
    have e : 2 ^ (n + 1) = 2 ^ n + 2 ^ n := by rw [Nat.pow_succ]; omega
    simp only [bts]
    cases p n <;> simp <;> omega
theorem bts_congr {p q : Nat → Bool} : ∀ {n}, (∀ i, i < n → p i = q i) → bts p n = bts q n
  | 0, _ => rfl
  | n + 1, h => by
    simp only [bts]
    rw [bts_congr (fun i hi => h i (by omega)), h n (by omega)]
theorem cnt_congr {p q : Nat → Bool} : ∀ {n}, (∀ i, i < n → p i = q i) → cnt p n = cnt q n
  | 0, _ => rfl
  | n + 1, h => by
    simp only [cnt]
    rw [cnt_congr (fun i hi => h i (by omega)), h n (by omega)]
theorem cnt_le (p : Nat → Bool) : ∀ n, cnt p n ≤ n
  | 0 => Nat.le_refl _
  | n + 1 => by
    have := cnt_le p n
    simp only [cnt]
    cases p n <;> simp <;> omega
theorem bts_bit (p : Nat → Bool) : ∀ {n k}, k < n → (bts p n).testBit k = p k
  | 0, _, h => by omega
  | n + 1, k, h => by
    have hb := bts_lt p n
    simp only [bts]
    by_cases hk : k = n
    · subst hk
      cases hp : p k
      · simp only [Bool.toNat_false, Nat.mul_zero, Nat.add_zero]
        exact Nat.testBit_lt_two_pow hb
      · simp only [Bool.toNat_true, Nat.mul_one]
        rw [Nat.add_comm, Nat.testBit_two_pow_add_eq, Nat.testBit_lt_two_pow hb]
        rfl
    · have hk : k < n := by omega
      cases hp : p n
      · simp only [Bool.toNat_false, Nat.mul_zero, Nat.add_zero]
        exact bts_bit p hk
      · simp only [Bool.toNat_true, Nat.mul_one]
        rw [Nat.add_comm, Nat.testBit_two_pow_add_gt hk]
        exact bts_bit p hk
theorem bts_high (p : Nat → Bool) {n k : Nat} (h : n ≤ k) : (bts p n).testBit k = false := Nat.testBit_lt_two_pow (Nat.lt_of_lt_of_le (bts_lt p n) (Nat.pow_le_pow_right (by decide) h))
theorem bts_self : ∀ {n m : Nat}, m < 2 ^ n → bts (fun i => m.testBit i) n = m := by
  intro n m h
  apply Nat.eq_of_testBit_eq
  intro i
  by_cases hi : i < n
  · rw [bts_bit _ hi]
  · rw [bts_high _ (by omega), Nat.testBit_lt_two_pow (Nat.lt_of_lt_of_le h (Nat.pow_le_pow_right (by decide) (by omega)))]
theorem sh_amt : ∀ n, n < 32 → ((nI n &&& 31).toBitVec.smod 32).toNat = n := by decide +kernel
theorem one_shl {n : Nat} (h : n < 31) : (1 : Int32) <<< (nI n &&& 31) = nI (2 ^ n) := by
  have h2 : 2 ^ n ≤ 2 ^ 30 := Nat.pow_le_pow_right (by decide) (by omega)
  have := pk_shlN (n := 1) (nI n &&& 31) n (sh_amt n (by omega)) (by omega)
  rw [Nat.one_mul] at this
  exact this
theorem or_low {a n : Nat} (h : a < 2 ^ n) : nI a ||| nI (2 ^ n) = nI (a + 2 ^ n) := by
  have e : a ||| 2 ^ n = a + 2 ^ n := by
    have := Nat.two_pow_add_eq_or_of_lt h 1
    rw [Nat.mul_one] at this
    rw [Nat.or_comm, ← this, Nat.add_comm]
  rw [← e]
  apply Int32.toBitVec_inj.mp
  show (nI a).toBitVec ||| (nI (2 ^ n)).toBitVec = (nI (a ||| 2 ^ n)).toBitVec
  show BitVec.ofNat 32 a ||| BitVec.ofNat 32 (2 ^ n) = BitVec.ofNat 32 (a ||| 2 ^ n)
  rw [BitVec.ofNat_or]
theorem or_bit {a n : Nat} (h : a < 2 ^ n) (hn : n < 31) : nI a ||| ((1 : Int32) <<< (nI n &&& 31)) = nI (a + 2 ^ n) := by rw [one_shl hn, or_low h]
theorem shr_bit {m k : Nat} (hm : m < 2147483648) (hk : k < 31) : (nI m >>> (nI k &&& 31)) &&& 1 = nI (m / 2 ^ k % 2) := by
  have h1 := pk_shrN hm (nI k &&& 31) k (sh_amt k (by omega))
  have h2 : m / 2 ^ k ≤ m := Nat.div_le_self _ _
  rw [h1]
  exact pk_andN (by omega) 1 (by decide)
theorem tb_div (m k : Nat) : m.testBit k = decide (m / 2 ^ k % 2 = 1) := Nat.testBit_eq_decide_div_mod_eq
theorem shr_bit0 {m k : Nat} (hm : m < 2147483648) (hk : k < 31) : ((nI m >>> (nI k &&& 31)) &&& 1 = 0) ↔ m.testBit k = false := by
  have h2 : m / 2 ^ k % 2 < 2 := Nat.mod_lt _ (by decide)
  rw [shr_bit hm hk, show (0 : Int32) = nI 0 from rfl, nI_eq (by omega) (by omega), tb_div]
  simp
theorem shr_bit1 {m k : Nat} (hm : m < 2147483648) (hk : k < 31) : ((nI m >>> (nI k &&& 31)) &&& 1 = 1) ↔ m.testBit k = true := by
  have h2 : m / 2 ^ k % 2 < 2 := Nat.mod_lt _ (by decide)
  rw [shr_bit hm hk, show (1 : Int32) = nI 1 from rfl, nI_eq (by omega) (by omega), tb_div]
  simp
/-- how many -/
def pc8 (m : Nat) : Nat := cnt (fun i => m.testBit i) 8
def bcF (x : Int32) : Int32 := bn (x - ((ushr x 1) &&& 1431655765)) (fun a => bn ((a &&& 858993459) + ((ushr a 2) &&& 858993459)) (fun b => bn ((b + (ushr b 4)) &&& 252645135) (fun c => bn (c + (ushr c 8)) (fun d => bn (d + (ushr d 16)) (fun e => e &&& 63)))))
theorem bcF_ok : ∀ m, m < 256 → bcF (nI m) = nI (pc8 m) := by decide +kernel
theorem s_bitCount {m : Nat} (h : m < 256) (σ : Mm) : f_J6_bitCount_0f7a4 (nI m) σ = some (nI (pc8 m), σ) := by
  rw [← bcF_ok m h]
  rfl
theorem pc8_bts (p : Nat → Bool) {n : Nat} (hn : n ≤ 8) : pc8 (bts p n) = cnt p n := by
  have key : ∀ d, n + d ≤ 8 → cnt (fun i => (bts p n).testBit i) (n + d) = cnt p n := by
    intro d
    induction d with
    | zero => intro _; exact cnt_congr (fun i hi => bts_bit p hi)
    | succ d ih =>
      intro h
      rw [← Nat.add_assoc]
      simp only [cnt]
      rw [ih (by omega), bts_high p (by omega)]
      rfl
  have := key (8 - n) (by omega)
  rw [show n + (8 - n) = 8 by omega] at this
  exact this
theorem m_bits {m : Nat} (hm : m < 2147483648) (σ : Mm) : f_X12_bits (nI m) σ = some (nI (pc8 m), σ) := by
  unfold f_X12_bits
  rw [jn_e]
  have h := lq2_run (F := F_X12_bits_4 (nI m) (fun x => some (x, σ))) (fun i => nI (cnt (fun j => m.testBit j) i)) (fun i => nI i) 8 (some (nI (pc8 m), σ)) ?_ ?_ (n := 1000000) (by omega)
  · exact h
  · intro rec i hi
    have h1 : nI i < (8 : Int32) := nI_lt (b := 8) (by omega) (by omega)
    have h2 : m / 2 ^ i % 2 < 2 := Nat.mod_lt _ (by decide)
    simp only [F_X12_bits_4, if_pos h1, bn_e, nI_1, shr_bit hm (show i < 31 by omega), nI_add, cnt]
    rw [tb_div]
    by_cases e : m / 2 ^ i % 2 = 1
    · simp [e]
    · have : m / 2 ^ i % 2 = 0 := by omega
      simp [this]
  · intro rec
    have h1 : ¬ nI 8 < (8 : Int32) := by decide
    simp only [F_X12_bits_4, if_neg h1]
    rfl
