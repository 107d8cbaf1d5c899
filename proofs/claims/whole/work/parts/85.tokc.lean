/-! the class's tokens -/
theorem lshl5 {x : Nat} (h : x < 2 ^ 59) : lshl (lN x) 5 = lN (x * 32) := by
  unfold lshl
  rw [show ((5 : Int32).toInt64 &&& 63) = 5 by decide]
  apply Int64.toBitVec_inj.mp
  show (BitVec.ofNat 64 x) <<< ((5 : Int64).toBitVec.smod 64) = BitVec.ofNat 64 (x * 32)
  apply BitVec.eq_of_toNat_eq
  have e5 : ((5 : Int64).toBitVec.smod 64).toNat = 5 := by decide
  rw [BitVec.shiftLeft_eq', BitVec.toNat_shiftLeft, e5, BitVec.toNat_ofNat, BitVec.toNat_ofNat, Nat.mod_eq_of_lt (show x < 2 ^ 64 by omega), Nat.shiftLeft_eq]
theorem lor5 {x a : Nat} (h : a < 32) : lN (x * 32) ||| lN a = lN (x * 32 + a) := by
  have e : x * 32 ||| a = x * 32 + a := by
    have := Nat.two_pow_add_eq_or_of_lt (i := 5) (b := a) (by omega) x
    have e2 : (2 : Nat) ^ 5 = 32 := rfl
    rw [e2, Nat.mul_comm] at this
    exact this.symm
  rw [← e]
  apply Int64.toBitVec_inj.mp
  show BitVec.ofNat 64 (x * 32) ||| BitVec.ofNat 64 a = BitVec.ofNat 64 (x * 32 ||| a)
  rw [BitVec.ofNat_or]
theorem lN_inj {a b : Nat} (ha : a < 2 ^ 63) (hb : b < 2 ^ 63) : lN a = lN b ↔ a = b := by
  constructor
  · intro h
    have h : (lN a).toBitVec = (lN b).toBitVec := by rw [h]
    have h : BitVec.ofNat 64 a = BitVec.ofNat 64 b := h
    have h := congrArg BitVec.toNat h
    rw [BitVec.toNat_ofNat, BitVec.toNat_ofNat, Nat.mod_eq_of_lt (by omega), Nat.mod_eq_of_lt (by omega)] at h
    exact h
  · intro h; rw [h]
theorem enc40 {f : Nat → Nat} {n : Nat} (h : ∀ i, i < n → f i < 27) (hn : n ≤ 8) : encF 32 f n < 2 ^ 40 := by
  have h1 : encF 32 f n < 32 ^ n := encF_lt' (fun i hi => by have := h i hi; omega) (by decide)
  have h2 : 32 ^ n ≤ 32 ^ 8 := Nat.pow_le_pow_right (by decide) hn
  have h3 : (32 : Nat) ^ 8 = 2 ^ 40 := by decide
  omega
theorem enc27 {f : Nat → Nat} {n : Nat} (h : ∀ i, i < n → f i < 27) (hn : n ≤ 8) : encF 27 f n < 2 ^ 40 := by
  have h1 : encF 27 f n < 27 ^ n := encF_lt' (fun i hi => h i hi) (by decide)
  have h2 : 27 ^ n ≤ 27 ^ 8 := Nat.pow_le_pow_right (by decide) hn
  have h3 : (27 : Nat) ^ 8 < 2 ^ 40 := by decide
  omega
theorem kw40 {i : Nat} (h : i < 23) : kw32 i < 2 ^ 40 := enc40 (fun j hj => ((kw_ok i h).2 j hj).2) (kw_ok i h).1
theorem i97 {c : Nat} (h : 97 ≤ c) (h2 : c < 2147483648) : ((nI c - 97) + 1).toInt64 = lN (c - 96) := by
  rw [show (97 : Int32) = nI 97 from rfl, pk_sub h, nI_1, nI_l (by omega)]
  congr 1
  omega
theorem ltr_iff {c : Nat} (h : c < 2147483648) : (ltr c = true ↔ ¬ nI c < 97 ∧ ¬ (122 : Int32) < nI c) := by
  have a : nI c < 97 ↔ c < 97 := nI_ltI (b := 97) h (by omega)
  have b : (122 : Int32) < nI c ↔ 122 < c := nI_ltI (a := 122) (by omega) h
  rw [a, b]
  unfold ltr
  rw [decide_eq_true_iff]
  omega
theorem dgt_iff {c : Nat} (h : c < 2147483648) : (dgt c = true ↔ ¬ nI c < 48 ∧ ¬ (57 : Int32) < nI c) := by
  have a : nI c < 48 ↔ c < 48 := nI_ltI (b := 48) h (by omega)
  have b : (57 : Int32) < nI c ↔ 57 < c := nI_ltI (a := 57) (by omega) h
  rw [a, b]
  unfold dgt
  rw [decide_eq_true_iff]
  omega
theorem sOk_lt {c : Nat} (h : sOk c) : c ≤ 126 := by unfold sOk at h; omega
theorem takeWord_e (σ : Mm) : f_X8_takeWord σ = lq1 (F_X8_takeWord_5 (fun σ_95 => lq2 (F_X8_takeWord_125 (fun σ_156 => some (0, σ_156))) 1000000 (0 : Int32) (pI (pI σ_95 4 2 (if (8 : Int32) < ((gI σ_95 4 4) - (gI σ_95 4 3)) then 0 else 2)) 4 6 (-1)))) 1000000 (pL σ 4 5 (0 : Int64)) := by
  unfold f_X8_takeWord
  rw [bn_e, jn_e2]
  congr 2
  funext σ_95
  rw [jn_e2]
  by_cases z : (8 : Int32) < ((gI σ_95 4 4) - (gI σ_95 4 3))
  · simp only [if_pos z, bn_e, jn_e2]
  · simp only [if_neg z, bn_e, jn_e2]
theorem s_takeWord {σ : Mm} {s : Nat → Nat} {n b e : Nat} (tp : TPc σ s n) (kw : KwC σ) (h3 : gI σ 4 3 = nI b) (h4 : gI σ 4 4 = nI b) (hb : b ≤ n) (he : e = runE (fun i => ltr (s i)) n b) :
    ∃ τ, f_X8_takeWord σ = some (0, τ) ∧ Fx 4 σ τ ∧ gI τ 4 3 = nI b ∧ gI τ 4 4 = nI e ∧ gI τ 4 2 = nI (if e - b ≤ 8 then 2 else 0) ∧ (e - b ≤ 8 → gL τ 4 5 = lN (encF 32 (fun i => s (b + i) - 96) (e - b)) ∧ gI τ 4 6 = oI (wxF (encF 32 (fun i => s (b + i) - 96) (e - b)) 23)) := by
  have hn := tp.1
  have hr := runE_le (p := fun i => ltr (s i)) hb
  rw [← he] at hr
  have lt : ∀ i, i < e - b → 97 ≤ s (b + i) ∧ s (b + i) ≤ 122 := fun i hi => by
    have := runE_in (p := fun i => ltr (s i)) (n := n) (b := b) (i := b + i) (by omega) (by rw [← he]; omega) hb
    simpa [ltr] using this
  rw [takeWord_e]
  obtain ⟨ky, ey⟩ : ∃ k : Mm → Option (Int32 × Mm), k = (fun σ_95 => lq2 (F_X8_takeWord_125 (fun σ_156 => some (0, σ_156))) 1000000 (0 : Int32) (pI (pI σ_95 4 2 (if (8 : Int32) < ((gI σ_95 4 4) - (gI σ_95 4 3)) then 0 else 2)) 4 6 (-1))) := ⟨_, rfl⟩
  rw [← ey]
  have q := lq1_inv (F := F_X8_takeWord_5 ky) (fun i c => Fx 4 σ c ∧ gI c 4 3 = nI b ∧ gI c 4 4 = nI (b + i) ∧ (i ≤ 8 → gL c 4 5 = lN (encF 32 (fun i => s (b + i) - 96) i))) (e - b) ky ?_ ?_ (n := 1000000) (b0 := pL σ 4 5 0) ⟨Fx.pL, h3, h4, fun _ => by rw [gL_pL_s]; rfl⟩ (by omega)
  · obtain ⟨c, ⟨c1, c2, c3, c4⟩, ec⟩ := q
    rw [ec, ey]
    obtain ⟨x, ex⟩ : ∃ x, x = encF 32 (fun i => s (b + i) - 96) (e - b) := ⟨_, rfl⟩
    rw [← ex] at c4 ⊢
    have x40 : e - b ≤ 8 → x < 2 ^ 40 := fun h8 => by rw [ex]; exact enc40 (fun i hi => by have := lt i hi; show s (b + i) - 96 < 27; omega) h8
    have sub : gI c 4 4 - gI c 4 3 = nI (e - b) := by rw [c3, c2, pk_sub (by omega)]; congr 1; omega
    obtain ⟨d, ed⟩ : ∃ d, d = pI (pI c 4 2 (if (8 : Int32) < ((gI c 4 4) - (gI c 4 3)) then 0 else 2)) 4 6 (-1) := ⟨_, rfl⟩
    have k8 : (8 : Int32) < nI (e - b) ↔ 8 < e - b := nI_ltI (a := 8) (by omega) (by omega)
    have d2 : gI d 4 2 = nI (if e - b ≤ 8 then 2 else 0) := by
      rw [ed, gI_pI_n (Or.inr (by decide)), gI_pI_s, sub]
      by_cases z : e - b ≤ 8
      · rw [if_neg (fun y => by have := k8.mp y; omega), if_pos z]; rfl
      · rw [if_pos (k8.mpr (by omega)), if_neg z]; rfl
    have fd : Fx 4 c d := by rw [ed]; exact Fx.pI.tr Fx.pI
    show ∃ τ, lq2 (F_X8_takeWord_125 (fun σ_156 => some (0, σ_156))) 1000000 (0 : Int32) (pI (pI c 4 2 (if (8 : Int32) < ((gI c 4 4) - (gI c 4 3)) then 0 else 2)) 4 6 (-1)) = _ ∧ _
    rw [← ed]
    have q2 := lq2_inv (F := F_X8_takeWord_125 (fun σ_156 => some (0, σ_156))) (fun i => nI i) (fun i f => Fx 4 d f ∧ gI f 4 3 = gI d 4 3 ∧ gI f 4 4 = gI d 4 4 ∧ gI f 4 2 = gI d 4 2 ∧ gL f 4 5 = gL d 4 5 ∧ (e - b ≤ 8 → gI f 4 6 = oI (wxF x i))) 23 (fun σ_156 => some (0, σ_156)) ?_ ?_ (n := 1000000) (b0 := d) ⟨Fx.rf, rfl, rfl, rfl, rfl, fun _ => by rw [ed, gI_pI_s]; rfl⟩ (by omega)
    · obtain ⟨f, ⟨f1, f2, f3, f4, f5, f6⟩, ef⟩ := q2
      have dl : gL d 4 5 = gL c 4 5 := by rw [ed]; rfl
      refine ⟨f, ef, c1.tr (fd.tr f1), ?_, ?_, ?_, fun h8 => ⟨?_, f6 h8⟩⟩
      · rw [f2, ed, gI_pI_n (Or.inr (by decide)), gI_pI_n (Or.inr (by decide))]; exact c2
      · rw [f3, ed, gI_pI_n (Or.inr (by decide)), gI_pI_n (Or.inr (by decide)), c3]; congr 1; omega
      · rw [f4]; exact d2
      · rw [f5, dl]; exact c4 h8
    · intro rec i f hi hf
      obtain ⟨f1, f2, f3, f4, f5, f6⟩ := hf
      have cc : nI i < 23 := nI_lt (a := i) (b := 23) hi (by omega)
      have kf : gL f 5 i = lN (kw32 i) := (kw.fx (c1.tr (fd.tr f1))) i hi
      have dl : gL d 4 5 = gL c 4 5 := by rw [ed]; rfl
      have nx : wxF x (i + 1) = if kw32 i = x then some i else wxF x i := rfl
      by_cases z : lg_cmp (gL f 5 i) (gL f 4 5) = 0
      · refine ⟨pI f 4 6 (nI i), ⟨f1.tr Fx.pI, by rw [gI_pI_n (Or.inr (by decide))]; exact f2, by rw [gI_pI_n (Or.inr (by decide))]; exact f3, by rw [gI_pI_n (Or.inr (by decide))]; exact f4, f5, fun h8 => ?_⟩, ?_⟩
        · have z' := (lg_cmp_eq _ _).mp z
          rw [kf, f5, dl, c4 h8] at z'
          have z' := (lN_inj (Nat.lt_trans (kw40 hi) (by decide)) (Nat.lt_trans (x40 h8) (by decide))).mp z'
          rw [gI_pI_s, nx, if_pos z']; rfl
        · simp only [F_X8_takeWord_125, if_pos cc, ck_t (inb_nI (show i < 23 by omega) (by omega)), nI_tn (show i < 2147483648 by omega), jn_e, if_pos z, bn_e, nI_1]
      · refine ⟨f, ⟨f1, f2, f3, f4, f5, fun h8 => ?_⟩, ?_⟩
        · have z' : ¬ gL f 5 i = gL f 4 5 := fun y => z ((lg_cmp_eq _ _).mpr y)
          rw [kf, f5, dl, c4 h8] at z'
          rw [nx, if_neg (fun y => z' (by rw [y]))]; exact f6 h8
        · simp only [F_X8_takeWord_125, if_pos cc, ck_t (inb_nI (show i < 23 by omega) (by omega)), nI_tn (show i < 2147483648 by omega), jn_e, if_neg z, nI_1]
    · intro rec f hf
      simp only [F_X8_takeWord_125, if_neg (show ¬ nI 23 < 23 by decide)]
  · intro rec i c hi hc
    obtain ⟨c1, c2, c3, c4⟩ := hc
    have tc := tp.fx c1
    have l := lt i hi
    have bi : b + i < n := by omega
    obtain ⟨g1, g2⟩ := tc.2.2 (b + i) bi
    have k1 : nI (b + i) < gI c 1 1 := by rw [tc.2.1]; exact nI_lt bi (by omega)
    have k2 : ¬ nI (s (b + i)) < 97 := fun z => by have := (nI_ltI (b := 97) (by omega) (by omega)).mp z; omega
    have k3 : ¬ (122 : Int32) < nI (s (b + i)) := fun z => by have := (nI_ltI (a := 122) (by omega) (by omega)).mp z; omega
    refine ⟨pI (pL c 4 5 (lshl (gL c 4 5) 5 ||| lN (s (b + i) - 96))) 4 4 (nI (b + i + 1)), ⟨c1.tr (Fx.pL.tr Fx.pI), by rw [gI_pI_n (Or.inr (by decide))]; exact c2, by rw [gI_pI_s]; rfl, fun h8 => ?_⟩, ?_⟩
    · rw [gL_pI, gL_pL_s, c4 (by omega)]
      have x40 : encF 32 (fun i => s (b + i) - 96) i < 2 ^ 40 := enc40 (fun j hj => by have := lt j (by omega); show s (b + j) - 96 < 27; omega) (by omega)
      rw [lshl5 (Nat.lt_trans x40 (by decide)), lor5 (by omega)]
      rfl
    · simp only [F_X8_takeWord_5, if_pos k1, bn_e, c3, ck_t (inb_nI (show b + i < 1000 by omega) (by omega)), nI_tn (show b + i < 2147483648 by omega), g1, if_neg k2, if_neg k3, i97 l.1 (show s (b + i) < 2147483648 by omega), gI_pL, nI_1]
  · intro rec c hc
    obtain ⟨c1, c2, c3, c4⟩ := hc
    have tc := tp.fx c1
    have e1 : b + (e - b) = e := by omega
    rw [e1] at c3
    by_cases z : e < n
    · have k1 : nI e < gI c 1 1 := by rw [tc.2.1]; exact nI_lt z (by omega)
      obtain ⟨g1, g2⟩ := tc.2.2 e z
      have at0 := runE_at (p := fun i => ltr (s i)) (n := n) (b := b) (by rw [← he]; exact z)
      rw [← he] at at0
      have s126 := sOk_lt g2
      simp only [F_X8_takeWord_5, if_pos k1, bn_e, c3, ck_t (inb_nI (show e < 1000 by omega) (by omega)), nI_tn (show e < 2147483648 by omega), g1]
      by_cases y : nI (s e) < 97
      · rw [if_pos y]
      · rw [if_neg y]
        by_cases w : (122 : Int32) < nI (s e)
        · rw [if_pos w]
        · have := (ltr_iff (c := s e) (by omega)).mpr ⟨y, w⟩
          rw [this] at at0; cases at0
    · have k1 : ¬ gI c 4 4 < gI c 1 1 := by rw [c3, tc.2.1]; exact nI_nlt (by omega) (by omega)
      simp only [F_X8_takeWord_5, if_neg k1]
theorem takeNumber_e (σ : Mm) : f_X8_takeNumber σ = lq1 (F_X8_takeNumber_5 (fun σ_93 => some (0, pI σ_93 4 2 (if (4 : Int32) < ((gI σ_93 4 4) - (gI σ_93 4 3)) then 0 else 3)))) 1000000 (pI σ 4 6 (0 : Int32)) := by
  unfold f_X8_takeNumber
  rw [bn_e, jn_e2]
  congr 2
  funext σ_93
  rw [jn_e2]
  by_cases z : (4 : Int32) < ((gI σ_93 4 4) - (gI σ_93 4 3))
  · simp only [if_pos z, bn_e]
  · simp only [if_neg z, bn_e]
theorem num10 {v c : Nat} (h : 48 ≤ c) : nI v * 10 + nI c - 48 = nI (v * 10 + (c - 48)) := by
  rw [show (10 : Int32) = nI 10 from rfl, pk_mul, nI_add, show (48 : Int32) = nI 48 from rfl, pk_sub (by omega)]
  congr 1
  omega
theorem s_takeNumber {σ : Mm} {s : Nat → Nat} {n b e : Nat} (tp : TPc σ s n) (h3 : gI σ 4 3 = nI b) (h4 : gI σ 4 4 = nI b) (hb : b ≤ n) (he : e = runE (fun i => dgt (s i)) n b) :
    ∃ τ, f_X8_takeNumber σ = some (0, τ) ∧ Fx 4 σ τ ∧ gI τ 4 3 = nI b ∧ gI τ 4 4 = nI e ∧ gI τ 4 2 = nI (if e - b ≤ 4 then 3 else 0) ∧ gI τ 4 6 = nI (encF 10 (fun i => s (b + i) - 48) (e - b)) := by
  have hn := tp.1
  have hr := runE_le (p := fun i => dgt (s i)) hb
  rw [← he] at hr
  have lt : ∀ i, i < e - b → 48 ≤ s (b + i) ∧ s (b + i) ≤ 57 := fun i hi => by
    have := runE_in (p := fun i => dgt (s i)) (n := n) (b := b) (i := b + i) (by omega) (by rw [← he]; omega) hb
    simpa [dgt] using this
  rw [takeNumber_e]
  obtain ⟨ky, ey⟩ : ∃ k : Mm → Option (Int32 × Mm), k = (fun σ_93 => some (0, pI σ_93 4 2 (if (4 : Int32) < ((gI σ_93 4 4) - (gI σ_93 4 3)) then 0 else 3))) := ⟨_, rfl⟩
  rw [← ey]
  have q := lq1_inv (F := F_X8_takeNumber_5 ky) (fun i c => Fx 4 σ c ∧ gI c 4 3 = nI b ∧ gI c 4 4 = nI (b + i) ∧ gI c 4 6 = nI (encF 10 (fun i => s (b + i) - 48) i)) (e - b) ky ?_ ?_ (n := 1000000) (b0 := pI σ 4 6 0) ⟨Fx.pI, by rw [gI_pI_n (Or.inr (by decide))]; exact h3, by rw [gI_pI_n (Or.inr (by decide))]; exact h4, by rw [gI_pI_s]; rfl⟩ (by omega)
  · obtain ⟨c, ⟨c1, c2, c3, c4⟩, ec⟩ := q
    rw [ec, ey]
    have sub : gI c 4 4 - gI c 4 3 = nI (e - b) := by rw [c3, c2, pk_sub (by omega)]; congr 1; omega
    have k8 : (4 : Int32) < nI (e - b) ↔ 4 < e - b := nI_ltI (a := 4) (by omega) (by omega)
    refine ⟨_, rfl, c1.tr Fx.pI, by rw [gI_pI_n (Or.inr (by decide))]; exact c2, by rw [gI_pI_n (Or.inr (by decide)), c3]; congr 1; omega, ?_, by rw [gI_pI_n (Or.inr (by decide))]; exact c4⟩
    rw [gI_pI_s, sub]
    by_cases z : e - b ≤ 4
    · rw [if_neg (fun y => by have := k8.mp y; omega), if_pos z]; rfl
    · rw [if_pos (k8.mpr (by omega)), if_neg z]; rfl
  · intro rec i c hi hc
    obtain ⟨c1, c2, c3, c4⟩ := hc
    have tc := tp.fx c1
    have l := lt i hi
    have bi : b + i < n := by omega
    obtain ⟨g1, g2⟩ := tc.2.2 (b + i) bi
    have k1 : nI (b + i) < gI c 1 1 := by rw [tc.2.1]; exact nI_lt bi (by omega)
    have k2 : ¬ nI (s (b + i)) < 48 := fun z => by have := (nI_ltI (b := 48) (by omega) (by omega)).mp z; omega
    have k3 : ¬ (57 : Int32) < nI (s (b + i)) := fun z => by have := (nI_ltI (a := 57) (by omega) (by omega)).mp z; omega
    refine ⟨pI (pI c 4 6 (nI (encF 10 (fun i => s (b + i) - 48) (i + 1)))) 4 4 (nI (b + i + 1)), ⟨c1.tr (Fx.pI.tr Fx.pI), by rw [gI_pI_n (Or.inr (by decide)), gI_pI_n (Or.inr (by decide))]; exact c2, by rw [gI_pI_s]; rfl, by rw [gI_pI_n (Or.inr (by decide)), gI_pI_s]⟩, ?_⟩
    have ne : ∀ v, gI (pI c 4 6 v) 4 4 = nI (b + i) := fun v => by rw [gI_pI_n (Or.inr (by decide))]; exact c3
    simp only [F_X8_takeNumber_5, if_pos k1, bn_e, c3, ck_t (inb_nI (show b + i < 1000 by omega) (by omega)), nI_tn (show b + i < 2147483648 by omega), g1, if_neg k2, if_neg k3, c4, num10 l.1, ne, nI_1]
    rfl
  · intro rec c hc
    obtain ⟨c1, c2, c3, c4⟩ := hc
    have tc := tp.fx c1
    have e1 : b + (e - b) = e := by omega
    rw [e1] at c3
    by_cases z : e < n
    · have k1 : nI e < gI c 1 1 := by rw [tc.2.1]; exact nI_lt z (by omega)
      obtain ⟨g1, g2⟩ := tc.2.2 e z
      have at0 := runE_at (p := fun i => dgt (s i)) (n := n) (b := b) (by rw [← he]; exact z)
      rw [← he] at at0
      have s126 := sOk_lt g2
      simp only [F_X8_takeNumber_5, if_pos k1, bn_e, c3, ck_t (inb_nI (show e < 1000 by omega) (by omega)), nI_tn (show e < 2147483648 by omega), g1]
      by_cases y : nI (s e) < 48
      · rw [if_pos y]
      · rw [if_neg y]
        by_cases w : (57 : Int32) < nI (s e)
        · rw [if_pos w]
        · have := (dgt_iff (c := s e) (by omega)).mpr ⟨y, w⟩
          rw [this] at at0; cases at0
    · have k1 : ¬ gI c 4 4 < gI c 1 1 := by rw [c3, tc.2.1]; exact nI_nlt (by omega) (by omega)
      simp only [F_X8_takeNumber_5, if_neg k1]
