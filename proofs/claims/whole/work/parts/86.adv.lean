/-- the token that the class holds -/
def TkC (τ : Mm) (s : Nat → Nat) (n p : Nat) : Prop := gI τ 4 3 = nI (tkB s n p) ∧ gI τ 4 4 = nI (tkE s n p) ∧ gI τ 4 2 = nI (tkK s n p) ∧ (tkK s n p = 2 → gL τ 4 5 = lN (tk32 s n p) ∧ gI τ 4 6 = oI (wxF (tk32 s n p) 23)) ∧ (tkK s n p = 3 → gI τ 4 6 = nI (tkV s n p)) ∧ (tkK s n p = 4 → gI τ 4 6 = nI (s (tkB s n p)))
theorem tk_le {s : Nat → Nat} {n p : Nat} (h : p ≤ n) : p ≤ tkB s n p ∧ tkB s n p ≤ tkE s n p ∧ tkE s n p ≤ n := by
  have hb := runE_le (p := fun i => blk (s i)) h
  have hb : p ≤ tkB s n p ∧ tkB s n p ≤ n := hb
  refine ⟨hb.1, ?_⟩
  unfold tkE
  by_cases z : tkB s n p = n
  · rw [if_pos z]; omega
  · rw [if_neg z]
    have r1 := runE_le (p := fun i => ltr (s i)) hb.2
    have r2 := runE_le (p := fun i => dgt (s i)) hb.2
    split
    · exact r1
    · split
      · exact r2
      · omega
theorem tk_lt {s : Nat → Nat} {n p : Nat} (h : p ≤ n) (z : tkB s n p ≠ n) : tkB s n p < tkE s n p := by
  have hb := runE_le (p := fun i => blk (s i)) h
  have hb : p ≤ tkB s n p ∧ tkB s n p ≤ n := hb
  unfold tkE
  rw [if_neg z]
  by_cases y : ltr (s (tkB s n p)) = true
  · rw [if_pos y]
    have r1 := runE_le (p := fun i => ltr (s i)) hb.2
    rcases Nat.lt_or_eq_of_le r1.1 with w | w
    · exact w
    · have := runE_at (p := fun i => ltr (s i)) (n := n) (b := tkB s n p) (by omega)
      rw [← w] at this
      have this : ltr (s (tkB s n p)) = false := this
      rw [this] at y; cases y
  · rw [if_neg y]
    by_cases x : dgt (s (tkB s n p)) = true
    · rw [if_pos x]
      have r1 := runE_le (p := fun i => dgt (s i)) hb.2
      rcases Nat.lt_or_eq_of_le r1.1 with w | w
      · exact w
      · have := runE_at (p := fun i => dgt (s i)) (n := n) (b := tkB s n p) (by omega)
        rw [← w] at this
        have this : dgt (s (tkB s n p)) = false := this
        rw [this] at x; cases x
    · rw [if_neg x]; omega
theorem advance_e (σ : Mm) : f_X8_advance σ = lq1 (F_X8_advance_8 J_X8_advance_69) 1000000 (pI σ 4 3 (gI σ 4 4)) := by
  unfold f_X8_advance
  simp only [jn_e2, bn_e]
theorem s_adv69 {σ : Mm} {s : Nat → Nat} {n p : Nat} (tp : TPc σ s n) (kw : KwC σ) (hp : p ≤ n) (h3 : gI σ 4 3 = nI (tkB s n p)) : ∃ τ, J_X8_advance_69 σ = some (0, τ) ∧ Fx 4 σ τ ∧ TkC τ s n p := by
  have hn := tp.1
  have tl := tk_le (s := s) hp
  obtain ⟨b, eb⟩ : ∃ b, b = tkB s n p := ⟨_, rfl⟩
  rw [← eb] at h3 tl
  obtain ⟨σ1, e1⟩ : ∃ y, y = pI σ 4 4 (gI σ 4 3) := ⟨_, rfl⟩
  have f1 : Fx 4 σ σ1 := by rw [e1]; exact Fx.pI
  have t1 := tp.fx f1
  have g3 : gI σ1 4 3 = nI b := by rw [e1, gI_pI_n (Or.inr (by decide))]; exact h3
  have g4 : gI σ1 4 4 = nI b := by rw [e1, gI_pI_s]; exact h3
  unfold J_X8_advance_69
  rw [bn_e, ← e1, g3, t1.2.1]
  by_cases z : b = n
  · have k1 : ¬ nI b < nI n := nI_nlt (by omega) (by omega)
    rw [if_neg k1, bn_e]
    have ek : tkK s n p = 1 := by unfold tkK; rw [← eb, if_pos z]
    have ee : tkE s n p = n := by unfold tkE; rw [← eb, if_pos z]
    refine ⟨_, rfl, f1.tr Fx.pI, ?_, ?_, ?_, ?_, ?_, ?_⟩
    · rw [gI_pI_n (Or.inr (by decide)), ← eb]; exact g3
    · rw [gI_pI_n (Or.inr (by decide)), ee, ← z]; exact g4
    · rw [gI_pI_s, ek]; rfl
    · rw [ek]; intro y; cases y
    · rw [ek]; intro y; cases y
    · rw [ek]; intro y; cases y
  · have bl : b < n := by omega
    have k1 : nI b < nI n := nI_lt bl (by omega)
    obtain ⟨q1, q2⟩ := t1.2.2 b bl
    have s126 := sOk_lt q2
    rw [if_pos k1]
    simp only [bn_e, ck_t (inb_nI (show b < 1000 by omega) (by omega)), nI_tn (show b < 2147483648 by omega), q1, jn_e2]
    have li := ltr_iff (c := s b) (by omega)
    have di := dgt_iff (c := s b) (by omega)
    by_cases y : ltr (s b) = true
    · obtain ⟨y1, y2⟩ := li.mp y
      obtain ⟨τ, u1, u2, u3, u4, u5, u6⟩ := s_takeWord t1 (kw.fx f1) g3 g4 (show b ≤ n by omega) rfl
      rw [if_neg y1, if_neg y2, cl_of _ u1]
      have ee : tkE s n p = runE (fun i => ltr (s i)) n b := by unfold tkE; rw [← eb, if_neg z, if_pos y]
      have ek : tkK s n p = if tkE s n p - b ≤ 8 then 2 else 0 := by unfold tkK; rw [← eb, if_neg z, if_pos y]
      have em : tkM s n p = tkE s n p - b := by unfold tkM; rw [← eb]
      have e32 : tk32 s n p = encF 32 (fun i => s (b + i) - 96) (tkE s n p - b) := by unfold tk32 tkF; rw [em, ← eb]
      rw [← ee] at u4 u5 u6
      refine ⟨τ, rfl, f1.tr u2, by rw [← eb]; exact u3, u4, by rw [ek]; exact u5, fun w => ?_, fun w => ?_, fun w => ?_⟩
      · rw [ek] at w
        by_cases h8 : tkE s n p - b ≤ 8
        · rw [e32]; exact u6 h8
        · rw [if_neg h8] at w; cases w
      · rw [ek] at w; split at w <;> cases w
      · rw [ek] at w; split at w <;> cases w
    · have nl : ltr (s b) = false := by simpa using y
      -- no letter
      have go : (if nI (s b) < 97 then J_X8_advance_129 σ1 (nI (s b)) else if 122 < nI (s b) then J_X8_advance_129 σ1 (nI (s b)) else cl (f_X8_takeWord σ1) fun x σ123 => some (0, σ123)) = J_X8_advance_129 σ1 (nI (s b)) := by
        by_cases w1 : nI (s b) < 97
        · rw [if_pos w1]
        · rw [if_neg w1]
          by_cases w2 : (122 : Int32) < nI (s b)
          · rw [if_pos w2]
          · exact absurd (li.mpr ⟨w1, w2⟩) y
      rw [go]
      unfold J_X8_advance_129
      rw [jn_e2]
      by_cases x : dgt (s b) = true
      · obtain ⟨y1, y2⟩ := di.mp x
        obtain ⟨τ, u1, u2, u3, u4, u5, u6⟩ := s_takeNumber t1 g3 g4 (show b ≤ n by omega) rfl
        rw [if_neg y1, if_neg y2, cl_of _ u1]
        have ee : tkE s n p = runE (fun i => dgt (s i)) n b := by unfold tkE; rw [← eb, if_neg z, if_neg y, if_pos x]
        have ek : tkK s n p = if tkE s n p - b ≤ 4 then 3 else 0 := by unfold tkK; rw [← eb, if_neg z, if_neg y, if_pos x]
        have em : tkM s n p = tkE s n p - b := by unfold tkM; rw [← eb]
        have ev : tkV s n p = encF 10 (fun i => s (b + i) - 48) (tkE s n p - b) := by unfold tkV; rw [em, ← eb]
        rw [← ee] at u4 u5 u6
        refine ⟨τ, rfl, f1.tr u2, by rw [← eb]; exact u3, u4, by rw [ek]; exact u5, fun w => ?_, fun w => ?_, fun w => ?_⟩
        · rw [ek] at w; split at w <;> cases w
        · rw [ev]; exact u6
        · rw [ek] at w; split at w <;> cases w
      · have go2 : ∀ (A B : Option (Int32 × Mm)), (if nI (s b) < 48 then A else if 57 < nI (s b) then A else B) = A := by
          intro A B
          by_cases w1 : nI (s b) < 48
          · rw [if_pos w1]
          · rw [if_neg w1]
            by_cases w2 : (57 : Int32) < nI (s b)
            · rw [if_pos w2]
            · exact absurd (di.mpr ⟨w1, w2⟩) x
        rw [go2]
        have nb : blk (s b) = false := by
          have := runE_at (p := fun i => blk (s i)) (n := n) (b := p) (show tkB s n p < n by rw [← eb]; exact bl)
          have this : blk (s (tkB s n p)) = false := this
          rw [← eb] at this; exact this
        have nb : ¬ (s b = 10 ∨ s b = 32) := by simpa [blk] using nb
        have q2' : 32 ≤ s b := by unfold sOk at q2; omega
        obtain ⟨r, r1, r2⟩ := s_indexOf q2' s126 (pI σ1 4 4 (nI b + 1))
        have ch : ((nI (s b)).toUInt32 % 65536).toInt32 = nI (s b) := by rw [pk_char, pk_tn (by omega), Nat.mod_eq_of_lt (by omega)]
        rw [bn_e, g3, ch, cl_of _ r1, jn_e2]
        have ee : tkE s n p = b + 1 := by unfold tkE; rw [← eb, if_neg z, if_neg y, if_neg x]
        have ek : tkK s n p = if sgn (s b) then 4 else 0 := by unfold tkK; rw [← eb, if_neg z, if_neg y, if_neg x]
        have fin : ∀ v, v = nI (tkK s n p) → ∃ τ, (bn (pI (pI σ1 4 4 (nI b + 1)) 4 2 v) fun σ174 => bn (pI σ174 4 6 (nI (s b))) fun σ179 => some ((0 : Int32), σ179)) = some (0, τ) ∧ Fx 4 σ τ ∧ TkC τ s n p := by
          intro v hv
          refine ⟨_, rfl, f1.tr (Fx.pI.tr (Fx.pI.tr Fx.pI)), ?_, ?_, ?_, fun w => ?_, fun w => ?_, fun _ => ?_⟩
          · rw [gI_pI_n (Or.inr (by decide)), gI_pI_n (Or.inr (by decide)), gI_pI_n (Or.inr (by decide)), ← eb]; exact g3
          · rw [gI_pI_n (Or.inr (by decide)), gI_pI_n (Or.inr (by decide)), gI_pI_s, ee, nI_1]
          · rw [gI_pI_n (Or.inr (by decide)), gI_pI_s, hv]
          · rw [ek] at w; split at w <;> cases w
          · rw [ek] at w; split at w <;> cases w
          · rw [gI_pI_s, ← eb]
        by_cases w : r < 0
        · rw [if_pos w]
          exact fin 0 (by rw [ek, r2.mp w]; rfl)
        · rw [if_neg w]
          have : sgn (s b) = true := by
            cases e : sgn (s b)
            · exact absurd (r2.mpr e) w
            · rfl
          exact fin 4 (by rw [ek, this]; rfl)
theorem blk_iff {c : Nat} (h : c < 2147483648) : (blk c = true ↔ nI c = 10 ∨ nI c = 32) := by
  have a : nI c = 10 ↔ c = 10 := nI_eq (b := 10) h (by omega)
  have b : nI c = 32 ↔ c = 32 := nI_eq (b := 32) h (by omega)
  rw [a, b]
  unfold blk
  rw [decide_eq_true_iff]
theorem s_advance {σ : Mm} {s : Nat → Nat} {n p : Nat} (tp : TPc σ s n) (kw : KwC σ) (hp : p ≤ n) (h4 : gI σ 4 4 = nI p) : ∃ τ, f_X8_advance σ = some (0, τ) ∧ Fx 4 σ τ ∧ TkC τ s n p := by
  have hn := tp.1
  have tl := tk_le (s := s) hp
  rw [advance_e, h4]
  obtain ⟨b, eb⟩ : ∃ b, b = tkB s n p := ⟨_, rfl⟩
  rw [← eb] at tl
  have q := lq1_inv (F := F_X8_advance_8 J_X8_advance_69) (fun i c => Fx 4 σ c ∧ gI c 4 3 = nI (p + i)) (b - p) J_X8_advance_69 ?_ ?_ (n := 1000000) (b0 := pI σ 4 3 (nI p)) ⟨Fx.pI, by rw [gI_pI_s]; rfl⟩ (by omega)
  · obtain ⟨c, ⟨c1, c2⟩, ec⟩ := q
    rw [show p + (b - p) = tkB s n p by omega] at c2
    obtain ⟨τ, t1, t2, t3⟩ := s_adv69 (tp.fx c1) (kw.fx c1) hp c2
    exact ⟨τ, ec.trans t1, c1.tr t2, t3⟩
  · intro rec i c hi hc
    have tc := tp.fx hc.1
    obtain ⟨g1, g2⟩ := tc.2.2 (p + i) (by omega)
    have s126 := sOk_lt g2
    have k1 : nI (p + i) < gI c 1 1 := by rw [tc.2.1]; exact nI_lt (by omega) (by omega)
    have bk := runE_in (p := fun i => blk (s i)) (n := n) (b := p) (i := p + i) (by omega) (show p + i < tkB s n p by omega) hp
    have bk : blk (s (p + i)) = true := bk
    refine ⟨pI c 4 3 (nI (p + i + 1)), ⟨hc.1.tr Fx.pI, by rw [gI_pI_s]; rfl⟩, ?_⟩
    simp only [F_X8_advance_8, hc.2, if_pos k1, bn_e, ck_t (inb_nI (show p + i < 1000 by omega) (by omega)), nI_tn (show p + i < 2147483648 by omega), g1, jn_e, nI_1]
    rcases (blk_iff (c := s (p + i)) (by omega)).mp bk with z | z
    · rw [if_pos z]
    · rw [if_pos z]
      split <;> rfl
  · intro rec c hc
    have tc := tp.fx hc.1
    have c2 := hc.2
    rw [show p + (b - p) = b by omega] at c2
    by_cases z : b < n
    · obtain ⟨g1, g2⟩ := tc.2.2 b z
      have s126 := sOk_lt g2
      have k1 : nI b < gI c 1 1 := by rw [tc.2.1]; exact nI_lt z (by omega)
      have at0 := runE_at (p := fun i => blk (s i)) (n := n) (b := p) (show tkB s n p < n by omega)
      have at0 : blk (s (tkB s n p)) = false := at0
      rw [← eb] at at0
      have no : ¬ (nI (s b) = 10 ∨ nI (s b) = 32) := fun y => by rw [(blk_iff (c := s b) (by omega)).mpr y] at at0; cases at0
      simp only [F_X8_advance_8, c2, if_pos k1, bn_e, ck_t (inb_nI (show b < 1000 by omega) (by omega)), nI_tn (show b < 2147483648 by omega), g1, jn_e, if_neg (fun y => no (Or.inl y)), if_neg (fun y => no (Or.inr y))]
    · have k1 : ¬ nI b < gI c 1 1 := by rw [tc.2.1]; exact nI_nlt (by omega) (by omega)
      simp only [F_X8_advance_8, c2, if_neg k1]
