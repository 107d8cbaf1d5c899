theorem nextToken_e (σ : Mm) : f_X12_nextToken σ = lq1 (F_X12_nextToken_0 J_X12_nextToken_52) 1000000 σ := by
  unfold f_X12_nextToken
  rw [jn_e2]
theorem N52_e (σ : Mm) : J_X12_nextToken_52 σ = (if (gI σ 0 4) = (gI σ 0 3) then some (0, pI (pI (pL (pI σ 0 5 (gI σ 0 4)) 0 7 0) 0 8 0) 0 6 0) else ck (inb (gI σ 0 4) 1000) (if (gI σ 1 (gI σ 0 4).toNatClampNeg) < (97 : Int32) then J_X12_nextToken_212 (pI (pL (pI σ 0 5 (gI σ 0 4)) 0 7 0) 0 8 0) (gI σ 1 (gI σ 0 4).toNatClampNeg) else (if (122 : Int32) < (gI σ 1 (gI σ 0 4).toNatClampNeg) then J_X12_nextToken_212 (pI (pL (pI σ 0 5 (gI σ 0 4)) 0 7 0) 0 8 0) (gI σ 1 (gI σ 0 4).toNatClampNeg) else lq1 (F_X12_nextToken_109 (fun σ_188 => some (0, pI σ_188 0 6 (if (8 : Int32) < ((gI σ_188 0 4) - (gI σ_188 0 5)) then 4 else 1)))) 1000000 (pI (pL (pI σ 0 5 (gI σ 0 4)) 0 7 0) 0 8 0)))) := by
  have g4 : ∀ v w, gI (pI (pL (pI σ 0 5 v) 0 7 0) 0 8 w) 0 4 = gI σ 0 4 := fun v w => by rw [gI_pI_n (Or.inr (by decide)), gI_pL, gI_pI_n (Or.inr (by decide))]
  have g3 : ∀ v w, gI (pI (pL (pI σ 0 5 v) 0 7 0) 0 8 w) 0 3 = gI σ 0 3 := fun v w => by rw [gI_pI_n (Or.inr (by decide)), gI_pL, gI_pI_n (Or.inr (by decide))]
  have g1 : ∀ v w k, gI (pI (pL (pI σ 0 5 v) 0 7 0) 0 8 w) 1 k = gI σ 1 k := fun v w k => by rw [gI_pI_n (Or.inl (by decide)), gI_pL, gI_pI_n (Or.inl (by decide))]
  have ek : (fun (σ_188 : Mm) => jn (fun (y1_208 : Int32) => bn (pI σ_188 0 6 y1_208) (fun σ208 => some ((0 : Int32), σ208))) (fun k208 => (if (8 : Int32) < ((gI σ_188 0 4) - (gI σ_188 0 5)) then k208 (4 : Int32) else k208 (1 : Int32)))) = (fun σ_188 => some (0, pI σ_188 0 6 (if (8 : Int32) < ((gI σ_188 0 4) - (gI σ_188 0 5)) then 4 else 1))) := by
    funext σ_188
    rw [jn_e2]
    by_cases z : (8 : Int32) < ((gI σ_188 0 4) - (gI σ_188 0 5))
    · simp only [if_pos z, bn_e]
    · simp only [if_neg z, bn_e]
  unfold J_X12_nextToken_52
  simp only [bn_e, jn_e2, g4, g3, g1]
  simp only [jn_e2, bn_e] at ek
  rw [ek]
theorem N212_e (σ : Mm) (v : Int32) : J_X12_nextToken_212 σ v = (if v < (48 : Int32) then J_X12_nextToken_322 σ v else (if (57 : Int32) < v then J_X12_nextToken_322 σ v else lq1 (F_X12_nextToken_224 (fun σ_299 => some (0, pI σ_299 0 6 (if (4 : Int32) < ((gI σ_299 0 4) - (gI σ_299 0 5)) then 4 else 2)))) 1000000 σ)) := by
  have ek : (fun (σ_299 : Mm) => jn (fun (y1_318 : Int32) => bn (pI σ_299 0 6 y1_318) (fun σ318 => some ((0 : Int32), σ318))) (fun k318 => (if (4 : Int32) < ((gI σ_299 0 4) - (gI σ_299 0 5)) then k318 (4 : Int32) else k318 (2 : Int32)))) = (fun σ_299 => some (0, pI σ_299 0 6 (if (4 : Int32) < ((gI σ_299 0 4) - (gI σ_299 0 5)) then 4 else 2))) := by
    funext σ_299
    rw [jn_e2]
    by_cases z : (4 : Int32) < ((gI σ_299 0 4) - (gI σ_299 0 5))
    · simp only [if_pos z, bn_e]
    · simp only [if_neg z, bn_e]
  unfold J_X12_nextToken_212
  rw [jn_e2, jn_e2, ek]
theorem N322_e (σ : Mm) {c : Nat} (h : c ≤ 126) : J_X12_nextToken_322 σ (nI c) = some (0, pI (pI σ 0 4 (gI σ 0 4 + 1)) 0 6 (if sgn c then 3 else 4)) := by
  unfold J_X12_nextToken_322
  simp only [bn_e, jn_e2]
  rw [m_sgn h]
  split <;> rfl
theorem m_next52 {μ : Mm} {s : Nat → Nat} {n p : Nat} (tp : TPm μ s n) (hp : p ≤ n) (h4 : gI μ 0 4 = nI (tkB s n p)) : ∃ τ, J_X12_nextToken_52 μ = some (0, τ) ∧ Fm μ τ ∧ TkM τ s n p := by
  have hn := tp.1
  have tl := tk_le (s := s) hp
  obtain ⟨b, eb⟩ : ∃ b, b = tkB s n p := ⟨_, rfl⟩
  rw [← eb] at h4 tl
  rw [N52_e, h4, tp.2.1]
  obtain ⟨μ1, e1⟩ : ∃ y, y = pI (pL (pI μ 0 5 (nI b)) 0 7 0) 0 8 0 := ⟨_, rfl⟩
  rw [← e1]
  have f1 : Fm μ μ1 := by rw [e1]; exact (Fm.pI (by omega)).tr (Fm.pL.tr (Fm.pI (by omega)))
  have t1 := tp.fm f1
  have g5 : gI μ1 0 5 = nI b := by rw [e1, gI_pI_n (Or.inr (by decide)), gI_pL, gI_pI_s]
  have g4 : gI μ1 0 4 = nI b := by rw [e1, gI_pI_n (Or.inr (by decide)), gI_pL, gI_pI_n (Or.inr (by decide))]; exact h4
  have g7 : gL μ1 0 7 = 0 := by rw [e1, gL_pI, gL_pL_s]
  have g8 : gI μ1 0 8 = 0 := by rw [e1, gI_pI_s]
  by_cases z : b = n
  · rw [if_pos (by rw [z])]
    have ek : tkK s n p = 1 := by unfold tkK; rw [← eb, if_pos z]
    have ee : tkE s n p = n := by unfold tkE; rw [← eb, if_pos z]
    refine ⟨_, rfl, f1.tr (Fm.pI (by omega)), ?_, ?_, ?_, ?_, ?_⟩
    · rw [gI_pI_n (Or.inr (by decide)), ← eb]; exact g5
    · rw [gI_pI_n (Or.inr (by decide)), ee, ← z]; exact g4
    · rw [gI_pI_s, ek]; rfl
    · rw [ek]; intro y; cases y
    · rw [ek]; intro y; cases y
  · have bl : b < n := by omega
    have ne : ¬ nI b = nI n := fun y => z ((nI_eq (by omega) (by omega)).mp y)
    obtain ⟨q1, q2⟩ := tp.2.2 b bl
    have s126 := sOk_lt q2
    rw [if_neg ne, ck_t (inb_nI (show b < 1000 by omega) (by omega)), nI_tn (show b < 2147483648 by omega), q1]
    have li := ltr_iff (c := s b) (by omega)
    have di := dgt_iff (c := s b) (by omega)
    by_cases y : ltr (s b) = true
    · obtain ⟨y1, y2⟩ := li.mp y
      rw [if_neg y1, if_neg y2]
      obtain ⟨c, u1, u2, u3, u4, u5⟩ := m_word t1 g5 g4 g7 (show b ≤ n by omega) rfl (fun σ_188 => some (0, pI σ_188 0 6 (if (8 : Int32) < ((gI σ_188 0 4) - (gI σ_188 0 5)) then 4 else 1)))
      have ee : tkE s n p = runE (fun i => ltr (s i)) n b := by unfold tkE; rw [← eb, if_neg z, if_pos y]
      have ek : tkK s n p = if tkE s n p - b ≤ 8 then 2 else 0 := by unfold tkK; rw [← eb, if_neg z, if_pos y]
      have em : tkM s n p = tkE s n p - b := by unfold tkM; rw [← eb]
      have e27 : tk27 s n p = encF 27 (fun i => s (b + i) - 96) (tkE s n p - b) := by unfold tk27 tkF; rw [em, ← eb]
      rw [← ee] at u4 u5
      have sub : gI c 0 4 - gI c 0 5 = nI (tkE s n p - b) := by rw [u4, u3, pk_sub (by omega)]
      have k8 : (8 : Int32) < nI (tkE s n p - b) ↔ 8 < tkE s n p - b := nI_ltI (a := 8) (by omega) (by omega)
      refine ⟨_, u1, f1.tr (u2.tr (Fm.pI (by omega))), ?_, ?_, ?_, fun w => ?_, fun w => ?_⟩
      · rw [gI_pI_n (Or.inr (by decide)), ← eb]; exact u3
      · rw [gI_pI_n (Or.inr (by decide))]; exact u4
      · rw [gI_pI_s, sub, ek]
        by_cases h8 : tkE s n p - b ≤ 8
        · rw [if_neg (fun x => by have := k8.mp x; omega), if_pos h8]; rfl
        · rw [if_pos (k8.mpr (by omega)), if_neg h8]; rfl
      · rw [ek] at w
        by_cases h8 : tkE s n p - b ≤ 8
        · rw [gL_pI, e27]; exact u5 h8
        · rw [if_neg h8] at w; cases w
      · rw [ek] at w; split at w <;> cases w
    · have go : ∀ (A B : Option (Int32 × Mm)), (if nI (s b) < 97 then A else if 122 < nI (s b) then A else B) = A := by
        intro A B
        by_cases w1 : nI (s b) < 97
        · rw [if_pos w1]
        · rw [if_neg w1]
          by_cases w2 : (122 : Int32) < nI (s b)
          · rw [if_pos w2]
          · exact absurd (li.mpr ⟨w1, w2⟩) y
      rw [go, N212_e]
      by_cases x : dgt (s b) = true
      · obtain ⟨y1, y2⟩ := di.mp x
        rw [if_neg y1, if_neg y2]
        obtain ⟨c, u1, u2, u3, u4, u5⟩ := m_num t1 g5 g4 g8 (show b ≤ n by omega) rfl (fun σ_299 => some (0, pI σ_299 0 6 (if (4 : Int32) < ((gI σ_299 0 4) - (gI σ_299 0 5)) then 4 else 2)))
        have ee : tkE s n p = runE (fun i => dgt (s i)) n b := by unfold tkE; rw [← eb, if_neg z, if_neg y, if_pos x]
        have ek : tkK s n p = if tkE s n p - b ≤ 4 then 3 else 0 := by unfold tkK; rw [← eb, if_neg z, if_neg y, if_pos x]
        have em : tkM s n p = tkE s n p - b := by unfold tkM; rw [← eb]
        have ev : tkV s n p = encF 10 (fun i => s (b + i) - 48) (tkE s n p - b) := by unfold tkV; rw [em, ← eb]
        rw [← ee] at u4 u5
        have sub : gI c 0 4 - gI c 0 5 = nI (tkE s n p - b) := by rw [u4, u3, pk_sub (by omega)]
        have k8 : (4 : Int32) < nI (tkE s n p - b) ↔ 4 < tkE s n p - b := nI_ltI (a := 4) (by omega) (by omega)
        refine ⟨_, u1, f1.tr (u2.tr (Fm.pI (by omega))), ?_, ?_, ?_, fun w => ?_, fun w => ?_⟩
        · rw [gI_pI_n (Or.inr (by decide)), ← eb]; exact u3
        · rw [gI_pI_n (Or.inr (by decide))]; exact u4
        · rw [gI_pI_s, sub, ek]
          by_cases h8 : tkE s n p - b ≤ 4
          · rw [if_neg (fun x => by have := k8.mp x; omega), if_pos h8]; rfl
          · rw [if_pos (k8.mpr (by omega)), if_neg h8]; rfl
        · rw [ek] at w; split at w <;> cases w
        · rw [ek] at w
          by_cases h8 : tkE s n p - b ≤ 4
          · rw [gI_pI_n (Or.inr (by decide)), ev]; exact u5 h8
          · rw [if_neg h8] at w; cases w
      · have go2 : ∀ (A B : Option (Int32 × Mm)), (if nI (s b) < 48 then A else if 57 < nI (s b) then A else B) = A := by
          intro A B
          by_cases w1 : nI (s b) < 48
          · rw [if_pos w1]
          · rw [if_neg w1]
            by_cases w2 : (57 : Int32) < nI (s b)
            · rw [if_pos w2]
            · exact absurd (di.mpr ⟨w1, w2⟩) x
        rw [go2, N322_e μ1 s126]
        have ee : tkE s n p = b + 1 := by unfold tkE; rw [← eb, if_neg z, if_neg y, if_neg x]
        have ek : tkK s n p = if sgn (s b) then 4 else 0 := by unfold tkK; rw [← eb, if_neg z, if_neg y, if_neg x]
        refine ⟨_, rfl, f1.tr ((Fm.pI (by omega)).tr (Fm.pI (by omega))), ?_, ?_, ?_, fun w => ?_, fun w => ?_⟩
        · rw [gI_pI_n (Or.inr (by decide)), gI_pI_n (Or.inr (by decide)), ← eb]; exact g5
        · rw [gI_pI_n (Or.inr (by decide)), gI_pI_s, g4, ee, nI_1]
        · rw [gI_pI_s, ek]
          cases sgn (s b) <;> rfl
        · rw [ek] at w; split at w <;> cases w
        · rw [ek] at w; split at w <;> cases w
theorem m_nextToken {μ : Mm} {s : Nat → Nat} {n p : Nat} (tp : TPm μ s n) (hp : p ≤ n) (h4 : gI μ 0 4 = nI p) : ∃ τ, f_X12_nextToken μ = some (0, τ) ∧ Fm μ τ ∧ TkM τ s n p := by
  have hn := tp.1
  have tl := tk_le (s := s) hp
  rw [nextToken_e]
  obtain ⟨b, eb⟩ : ∃ b, b = tkB s n p := ⟨_, rfl⟩
  rw [← eb] at tl
  have q := lq1_inv (F := F_X12_nextToken_0 J_X12_nextToken_52) (fun i c => Fm μ c ∧ gI c 0 4 = nI (p + i)) (b - p) J_X12_nextToken_52 ?_ ?_ (n := 1000000) (b0 := μ) ⟨Fm.rf, h4⟩ (by omega)
  · obtain ⟨c, ⟨c1, c2⟩, ec⟩ := q
    rw [show p + (b - p) = tkB s n p by omega] at c2
    obtain ⟨τ, t1, t2, t3⟩ := m_next52 (tp.fm c1) hp c2
    exact ⟨τ, ec.trans t1, c1.tr t2, t3⟩
  · intro rec i c hi hc
    have tc := tp.fm hc.1
    obtain ⟨g1, g2⟩ := tc.2.2 (p + i) (by omega)
    have s126 := sOk_lt g2
    have k1 : nI (p + i) < gI c 0 3 := by rw [tc.2.1]; exact nI_lt (by omega) (by omega)
    have bk := runE_in (p := fun i => blk (s i)) (n := n) (b := p) (i := p + i) (by omega) (show p + i < tkB s n p by omega) hp
    have bk : blk (s (p + i)) = true := bk
    refine ⟨pI c 0 4 (nI (p + i + 1)), ⟨hc.1.tr (Fm.pI (by omega)), by rw [gI_pI_s]; rfl⟩, ?_⟩
    simp only [F_X12_nextToken_0, hc.2, if_pos k1, bn_e, ck_t (inb_nI (show p + i < 1000 by omega) (by omega)), nI_tn (show p + i < 2147483648 by omega), g1, jn_e, nI_1]
    rcases (blk_iff (c := s (p + i)) (by omega)).mp bk with z | z
    · rw [if_pos z]
      split <;> rfl
    · rw [if_pos z]
  · intro rec c hc
    have tc := tp.fm hc.1
    have c2 := hc.2
    rw [show p + (b - p) = b by omega] at c2
    by_cases z : b < n
    · obtain ⟨g1, g2⟩ := tc.2.2 b z
      have s126 := sOk_lt g2
      have k1 : nI b < gI c 0 3 := by rw [tc.2.1]; exact nI_lt z (by omega)
      have at0 := runE_at (p := fun i => blk (s i)) (n := n) (b := p) (show tkB s n p < n by omega)
      have at0 : blk (s (tkB s n p)) = false := at0
      rw [← eb] at at0
      have no : ¬ (nI (s b) = 10 ∨ nI (s b) = 32) := fun y => by rw [(blk_iff (c := s b) (by omega)).mpr y] at at0; cases at0
      simp only [F_X12_nextToken_0, c2, if_pos k1, bn_e, ck_t (inb_nI (show b < 1000 by omega) (by omega)), nI_tn (show b < 2147483648 by omega), g1, jn_e, if_neg (fun y => no (Or.inl y)), if_neg (fun y => no (Or.inr y))]
    · have k1 : ¬ nI b < gI c 0 3 := by rw [tc.2.1]; exact nI_nlt (by omega) (by omega)
      simp only [F_X12_nextToken_0, c2, if_neg k1]
