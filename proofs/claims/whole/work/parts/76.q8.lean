/-! which lane to look at -/
theorem laneToWatch_e (b1 b2 b3 : Nat) (p4 : Int32) (σ : Mm) : f_X0_laneToWatch b1 b2 b3 p4 σ = ck (isTown b1) (ck (isNight b2) (ck (isWatched b3) (cl (f_X4_homeBits b2 b1 σ) (fun r2 _ => lq2 (F_X0_laneToWatch_24 b1 (fun σ_47 => lq3 (F_X0_laneToWatch_50 b1 b2 b3 p4 ((r2 ^^^ (-1 : Int32)) &&& (((1 : Int32) <<< ((gI σ b1 2) &&& 31)) - (1 : Int32))) (fun x6_134 σ_134 => lq3 (F_X0_laneToWatch_144 b1 x6_134 σ_134 (fun x7_196 => some (x7_196, σ_134))) 1000000 (-1 : Int32) x6_134 (0 : Int32))) 1000000 (0 : Int32) (0 : Int32) σ_47)) 1000000 (0 : Int32) σ)))) := by
  unfold f_X0_laneToWatch
  simp only [jn_e2, bn_e]
theorem s_ltw24 {σ : Mm} {t : Nat} {T : Tw} (hc : TC σ t T) (hT : TwOk T) (kx : Mm → Option (Int32 × Mm)) : ∃ τ, lq2 (F_X0_laneToWatch_24 t kx) 1000000 (0 : Int32) σ = kx τ ∧ Off [205] σ τ ∧ ∀ k, k < tL T → gI τ 205 k = 0 := by
  have hL := hT.2.1
  have tn := town_night hc.1 n197
  have q := lq2_inv (F := F_X0_laneToWatch_24 t kx) (fun i => nI i) (fun i b => Off [205] σ b ∧ ∀ k, k < i → gI b 205 k = 0) (tL T) kx ?_ ?_ (n := 1000000) (b0 := σ) ⟨Off.rf, fun k hk => absurd hk (Nat.not_lt_zero k)⟩ (by omega)
  · obtain ⟨b, hb, e⟩ := q
    exact ⟨b, e, hb.1, hb.2⟩
  · intro rec i b hi hb
    have c1 : nI i < gI b t 1 := by rw [hb.1.1 t (by simp; omega), hc.2.2.1]; exact nI_lt hi (by omega)
    refine ⟨pI b 205 i 0, ⟨hb.1.tr (Off.pI (by simp)), fun k hk => ?_⟩, ?_⟩
    · by_cases z : k = i
      · subst z; rw [gI_pI_s]
      · rw [gI_pI_n (Or.inr z)]; exact hb.2 k (by omega)
    · simp only [F_X0_laneToWatch_24, if_pos c1, ck_t (inb_nI (show i < 8 by omega) (by omega)), nI_tn (show i < 2147483648 by omega), bn_e, nI_1]
  · intro rec b hb
    have c1 : ¬ nI (tL T) < gI b t 1 := by rw [hb.1.1 t (by simp; omega), hc.2.2.1]; exact nI_nlt (Nat.le_refl _) (by omega)
    simp only [F_X0_laneToWatch_24, if_neg c1]
theorem s_ltw96 {σ : Mm} {t : Nat} {T : Tw} (hc : TC σ t T) (hT : TwOk T) {x b : Nat} (hb : b < 2147483648) (kx : Int32 → Mm → Option (Int32 × Mm)) : ∃ τ, lq2 (F_X0_laneToWatch_96 t (nI x) (nI b) kx) 1000000 (0 : Int32) σ = kx (nI (x + 1)) τ ∧ Off [205] σ τ ∧ ∀ k, k < tL T → gI τ 205 k = gI σ 205 k + nI (b.testBit k).toNat := by
  have hL := hT.2.1
  have tn := town_night hc.1 n197
  have q := lq2_inv (F := F_X0_laneToWatch_96 t (nI x) (nI b) kx) (fun i => nI i) (fun i c => Off [205] σ c ∧ ∀ k, k < tL T → gI c 205 k = if k < i then gI σ 205 k + nI (b.testBit k).toNat else gI σ 205 k) (tL T) (kx (nI (x + 1))) ?_ ?_ (n := 1000000) (b0 := σ) ⟨Off.rf, fun k hk => by rw [if_neg (Nat.not_lt_zero k)]⟩ (by omega)
  · obtain ⟨c, hc, e⟩ := q
    exact ⟨c, e, hc.1, fun k hk => by rw [hc.2 k hk, if_pos hk]⟩
  · intro rec i c hi h
    have c1 : nI i < gI c t 1 := by rw [h.1.1 t (by simp; omega), hc.2.2.1]; exact nI_lt hi (by omega)
    have g1 : gI c 205 i = gI σ 205 i := by rw [h.2 i hi, if_neg (Nat.lt_irrefl i)]
    have bt : (nI b >>> (nI i &&& 31)) &&& 1 = nI (b.testBit i).toNat := by
      rw [shr_bit hb (by omega)]
      have := tb_div b i
      cases e : b.testBit i
      · rw [e] at this
        have := of_decide_eq_false this.symm
        congr 1
        show _ = 0
        omega
      · rw [e] at this
        have := of_decide_eq_true this.symm
        congr 1
    refine ⟨pI c 205 i (gI σ 205 i + nI (b.testBit i).toNat), ⟨h.1.tr (Off.pI (by simp)), fun k hk => ?_⟩, ?_⟩
    · by_cases z : k = i
      · subst z; rw [gI_pI_s, if_pos (Nat.lt_succ_self k)]
      · rw [gI_pI_n (Or.inr z), h.2 k hk]
        have : k < i + 1 ↔ k < i := by omega
        simp only [this]
    · simp only [F_X0_laneToWatch_96, if_pos c1, ck_t (inb_nI (show i < 8 by omega) (by omega)), nI_tn (show i < 2147483648 by omega), g1, bt, bn_e, nI_1]
  · intro rec c h
    have c1 : ¬ nI (tL T) < gI c t 1 := by rw [h.1.1 t (by simp; omega), hc.2.2.1]; exact nI_nlt (Nat.le_refl _) (by omega)
    simp only [F_X0_laneToWatch_96, if_neg c1, nI_1]
theorem imxm {n m : Nat} (h : n ≤ m) (hm : m < 2147483648) : imx (nI n) (nI m - nI n) = nI (max n (m - n)) := by rw [pk_sub h, imx_N (by omega) (by omega)]
theorem s_laneToWatch {σ : Mm} {t : Nat} {T : Tw} {N : Nt} {w : Wt} (hc : TC σ t T) (hT : TwOk T) (r : RC σ 6 (tW T) N) (hN : NtOk T N) (hw : WC σ 127 w) (hwk : WtOk T w) {i : Nat} (hi : i ≤ 30) :
    ∃ τ, f_X0_laneToWatch t 6 127 (nI i) σ = some (lookN T N w i, τ) ∧ Off qC σ τ := by
  have ml := mayN_lt (N := N) hT
  have hL := hT.2.1
  have tn := town_night hc.1 n197
  rw [laneToWatch_e, ck_t hc.1, ck_t n6, ck_t hw.1, cl_of _ (s_homeBits hc hT r hN), hc.2.2.2.1, may_C hT]
  unfold lookN
  obtain ⟨m, em⟩ : ∃ m, m = mayN T N := ⟨_, rfl⟩
  obtain ⟨c, ec⟩ : ∃ c, c = fitN T N w := ⟨_, rfl⟩
  rw [← em, ← ec]
  rw [← em] at ml
  obtain ⟨ky, ey⟩ : ∃ k : Int32 → Mm → Option (Int32 × Mm), k = (fun x6_134 σ_134 => lq3 (F_X0_laneToWatch_144 t x6_134 σ_134 (fun x7_196 => some (x7_196, σ_134))) 1000000 (-1 : Int32) x6_134 (0 : Int32)) := ⟨_, rfl⟩
  rw [← ey]
  obtain ⟨σ1, l1, o1, f1⟩ := s_ltw24 hc hT (fun σ_47 => lq3 (F_X0_laneToWatch_50 t 6 127 (nI i) (nI m) ky) 1000000 (0 : Int32) (0 : Int32) σ_47)
  rw [l1]
  have cl64 : ∀ n, n ≤ m + 1 → cnt c n ≤ 64 := fun n hn => Nat.le_trans (cnt_le _ _) (by omega)
  have q := lq3_inv (F := F_X0_laneToWatch_50 t 6 127 (nI i) (nI m) ky) (fun j => nI (cnt c j)) (fun j => nI j) (fun j b => Off qC σ b ∧ ∀ k, k < tL T → gI b 205 k = nI (byN T N w i k j)) (m + 1) (fun b => ky (nI (cnt c (m + 1))) b) ?_ ?_ (n := 1000000) (b0 := σ1) ⟨o1.mono (by simp [qC]), fun k hk => by rw [f1 k hk]; rfl⟩ (by omega)
  · obtain ⟨b, ⟨b1, b2⟩, e⟩ := q
    have hcb := hc.q b1
    obtain ⟨g, eg⟩ : ∃ g, g = (fun k => max (byN T N w i k (m + 1)) (cnt c (m + 1) - byN T N w i k (m + 1))) := ⟨_, rfl⟩
    rw [← eg]
    have bl : ∀ k, byN T N w i k (m + 1) ≤ cnt c (m + 1) := fun k => by rw [ec]; exact byN_le T N w i k _
    have cl := cl64 (m + 1) (Nat.le_refl _)
    have g64 : ∀ k, g k ≤ 64 := fun k => by have := bl k; rw [eg]; show max _ _ ≤ 64; omega
    refine ⟨b, e.trans ?_, b1⟩
    rw [ey]
    refine lq3_run (F := F_X0_laneToWatch_144 t (nI (cnt c (m + 1))) b (fun x7_196 => some (x7_196, b))) (fun k => oI (lkF g (cnt c (m + 1)) k).1) (fun k => nI (lkF g (cnt c (m + 1)) k).2) (fun k => nI k) (tL T) (some (oI (lkF g (cnt c (m + 1)) (tL T)).1, b)) ?_ ?_ (n := 1000000) (by omega)
    · intro rec k hk
      have c1 : nI k < gI b t 1 := by rw [hcb.2.2.1]; exact nI_lt hk (by omega)
      have ll := lkF_le g (cnt c (m + 1)) k
      have gk : max (byN T N w i k (m + 1)) (cnt c (m + 1) - byN T N w i k (m + 1)) = g k := by rw [eg]
      have g6 := g64 k
      simp only [F_X0_laneToWatch_144, if_pos c1, ck_t (inb_nI (show k < 8 by omega) (by omega)), nI_tn (show k < 2147483648 by omega), b2 k hk, imxm (bl k) (show cnt c (m + 1) < 2147483648 by omega), gk, bn_e, jn_e, nI_1]
      by_cases z : g k < (lkF g (cnt c (m + 1)) k).2
      · rw [if_pos (nI_lt z (by omega))]; simp only [lkF, if_pos z]; rfl
      · rw [if_neg (fun y => z ((nI_ltI (by omega) (by omega)).mp y))]; simp only [lkF, if_neg z]
    · intro rec
      have c1 : ¬ nI (tL T) < gI b t 1 := by rw [hcb.2.2.1]; exact nI_nlt (Nat.le_refl _) (by omega)
      simp only [F_X0_laneToWatch_144, if_neg c1]
  · intro rec j b hj h
    obtain ⟨b1, b2⟩ := h
    have c1 : ¬ nI m < nI j := nI_nlt (by omega) (by omega)
    have wb : WC b 127 w := hw.off b1 (fun a ha => by simp only [qC, List.mem_cons, List.not_mem_nil, or_false] at ha; omega)
    have hcb := hc.q b1
    have rb := r.off b1 (fun a ha => by simp only [qC, List.mem_cons, List.not_mem_nil, or_false] at ha; omega)
    have by1 : ∀ k, byN T N w i k (j + 1) = byN T N w i k j + (c j && (bsN T N j i).testBit k).toNat := fun k => by rw [ec]; rfl
    have ci : c j = (subN m j && okW T N w j) := by rw [ec, em]; rfl
    have bl := bsN_lt (N := N) hT j i
    cases z : subN m j
    · have z' : ¬ (nI j &&& (nI m ^^^ (-1)) = 0) := of_decide_eq_false z
      rw [z, Bool.false_and] at ci
      refine ⟨b, ⟨b1, fun k hk => ?_⟩, ?_⟩
      · rw [by1, ci]; exact b2 k hk
      · rw [cnt_s, ci]
        simp only [F_X0_laneToWatch_50, if_neg c1, jn_e2, if_neg z', if_true, nI_1]
        rfl
    · have z' : (nI j &&& (nI m ^^^ (-1)) = 0) := of_decide_eq_true z
      obtain ⟨τ, t1, t2⟩ := s_litBySet hcb hT ne6 rb hN wb hwk (s := j) (i := i) (by omega) hi
      have t2' := tryQ hc.1 t2
      rw [z, Bool.true_and] at ci
      cases y : okW T N w j
      · rw [y] at ci t1
        have t1 : f_X0_litBySet t 6 127 (nI j) (nI i) b = some (-1, τ) := t1
        refine ⟨τ, ⟨b1.tr t2', fun k hk => ?_⟩, ?_⟩
        · rw [by1, ci, t2.1 205 (by simp [tryC]; omega)]; exact b2 k hk
        · rw [cnt_s, ci]
          simp only [F_X0_laneToWatch_50, if_neg c1, jn_e2, if_pos z', cl_of _ t1, if_true, nI_1]
          rfl
      · rw [y] at ci t1
        have t1 : f_X0_litBySet t 6 127 (nI j) (nI i) b = some (nI (bsN T N j i), τ) := t1
        obtain ⟨υ, u1, u2, u3⟩ := s_ltw96 (hcb.q t2') hT (x := cnt c j) (b := bsN T N j i) (by omega) (fun x6_128 σ_128 => rec x6_128 (nI j + 1) σ_128)
        refine ⟨υ, ⟨b1.tr (t2'.tr (u2.mono (by simp [qC]))), fun k hk => ?_⟩, ?_⟩
        · rw [u3 k hk, by1, ci, t2.1 205 (by simp [tryC]; omega), b2 k hk, nI_add, Bool.true_and]
        · rw [cnt_s, ci]
          simp only [F_X0_laneToWatch_50, if_neg c1, jn_e2, if_pos z', cl_of _ t1, if_neg (nI_ne (bsN T N j i) (by omega))]
          rw [u1, nI_1]
          rfl
  · intro rec b hb
    have c1 : nI m < nI (m + 1) := nI_lt (by omega) (by omega)
    simp only [F_X0_laneToWatch_50, if_pos c1]
theorem m_look67 {ν : Mm} {T : Tw} {N : Nt} {w : Wt} (hT : TwOk T) (hw : WR ν 0 w) (hwk : WtOk T w) {i : Nat} (hi : i ≤ 30) (lb : ∀ s, s ≤ mayN T N → subN (mayN T N) s = true → LB ν T N s) {k : Nat} (hk : k < 8) (kx : Int32 → Option (Int32 × Mm)) : lq2 (F_X12_look_67 (nI i) (nI (mayN T N)) ν (nI k) kx) 1000000 (0 : Int32) (0 : Int32) = kx (nI (byN T N w i k (mayN T N + 1))) := by
  have ml := mayN_lt (N := N) hT
  obtain ⟨m, em⟩ : ∃ m, m = mayN T N := ⟨_, rfl⟩
  rw [← em] at ml lb ⊢
  refine lq2_run (F := F_X12_look_67 (nI i) (nI m) ν (nI k) kx) (fun j => nI (byN T N w i k j)) (fun j => nI j) (m + 1) (kx (nI (byN T N w i k (m + 1)))) ?_ ?_ (n := 1000000) (by omega)
  · intro rec j hj
    have c1 : ¬ nI m < nI j := nI_nlt (by omega) (by omega)
    have by1 : byN T N w i k (j + 1) = byN T N w i k j + (fitN T N w j && (bsN T N j i).testBit k).toNat := rfl
    have ci : fitN T N w j = (subN m j && okW T N w j) := by rw [em]; rfl
    have bl := bsN_lt (N := N) hT j i
    cases z : subN m j
    · have z' : ¬ (nI j &&& (nI m ^^^ (-1)) = 0) := of_decide_eq_false z
      rw [z, Bool.false_and] at ci
      rw [by1, ci]
      simp only [F_X12_look_67, if_neg c1, jn_e, if_neg z', bn_e, nI_1]
      rw [show nI (byN T N w i k j) + (0 : Int32) = nI (byN T N w i k j + 0) from nI_add _ 0]
      rfl
    · have z' : (nI j &&& (nI m ^^^ (-1)) = 0) := of_decide_eq_true z
      have iw := m_isAsWatched hT hw hwk (s := j) (by omega) (lb j (by omega) z)
      have g := lb j (by omega) z i (by omega)
      rw [z, Bool.true_and] at ci
      rw [by1, ci]
      simp only [F_X12_look_67, if_neg c1, jn_e, if_pos z', cl_of _ iw, bn_e, b31, ck_t (inb_nI (show 31 * j + i < 1984 by omega) (by omega)), nI_tn (show 31 * j + i < 2147483648 by omega), g, nI_1]
      cases okW T N w j
      · simp
      · simp only [if_true, if_neg one0, Bool.true_and]
        cases y : (bsN T N j i).testBit k
        · rw [if_neg (fun x => by rw [(shr_bit1 (show bsN T N j i < 2147483648 by omega) (show k < 31 by omega)).mp x] at y; cases y)]
          simp
        · rw [if_pos ((shr_bit1 (show bsN T N j i < 2147483648 by omega) (show k < 31 by omega)).mpr y)]
          simp [nI_1]
  · intro rec
    have c1 : nI m < nI (m + 1) := nI_lt (by omega) (by omega)
    simp only [F_X12_look_67, if_pos c1]
theorem q_look {σ μ : Mm} {t : Nat} {T : Tw} {N : Nt} {w : Wt} (h : Bo σ μ t T N) (hwk : WtOk T w) (wc : WC σ 127 w) (wr : WR μ 0 w) (x : Int32) : An (f_X11_look x) (f_X12_look x) σ μ := by
  obtain ⟨hT, hN, ⟨ht, hc, rc⟩, hM⟩ := h
  have ml := mayN_lt (N := N) hT
  have hL := hT.2.1
  have n2 : (2 : Int32).toNatClampNeg = 2 := rfl
  have n1 : (1 : Int32).toNatClampNeg = 1 := rfl
  have hM0 := hM.q hT (QM.z μ 0)
  unfold An f_X11_look f_X12_look
  simp only [bn_e, ht, cl_of _ (m_within x 0 30 _), jn_e2]
  by_cases x1 : x < 0
  · simp only [if_pos x1, if_neg (show ¬ (¬ x < 0 ∧ ¬ (30 : Int32) < x) from fun z => z.1 x1), if_true]
    exact ⟨_, _, _, rfl, rfl, Off.rf, QM.z μ 0⟩
  by_cases x2 : (30 : Int32) < x
  · simp only [if_neg x1, if_pos x2, if_neg (show ¬ (¬ x < 0 ∧ ¬ (30 : Int32) < x) from fun z => z.2 x2), if_true]
    exact ⟨_, _, _, rfl, rfl, Off.rf, QM.z μ 0⟩
  obtain ⟨i, hi, rfl⟩ := in_le (n := 30) (by omega) x1 x2
  obtain ⟨τ, t1, t2⟩ := s_laneToWatch hc hT rc hN wc hwk hi
  have wr0 := wr.q (QM.z μ 0)
  obtain ⟨ν, m1, m2, m3⟩ := m_sets hM0 hT hN wr0 hwk (x := 0) (by decide)
  have hMn := hM0.q hT m2
  have m1 : f_X12_sets 0 (pI μ 0 0 0) = some (nI (cnt (fitN T N w) (mayN T N + 1)), ν) := m1
  simp only [if_neg x1, if_neg x2, if_pos (show ¬ nI i < 0 ∧ ¬ (30 : Int32) < nI i from ⟨x1, x2⟩), if_neg one0, cl_of _ t1, ck_t (show inb 2 8 = true from rfl), cl_of _ (m_homes hM0.1 hT (hM0.rm hT) hN), n2, hM0.1.2.2.1, may_I hT, cl_of _ m1]
  refine ⟨lookN T N w i, τ, ν, rfl, ?_, t2, (QM.z μ 0).tr m2⟩
  unfold lookN
  obtain ⟨C, eC⟩ : ∃ c, c = cnt (fitN T N w) (mayN T N + 1) := ⟨_, rfl⟩
  rw [← eC]
  have C64 : C ≤ 64 := by rw [eC]; exact Nat.le_trans (cnt_le _ _) (by omega)
  have bl : ∀ k, byN T N w i k (mayN T N + 1) ≤ C := fun k => by rw [eC]; exact byN_le T N w i k _
  obtain ⟨g, eg⟩ : ∃ g, g = (fun k => max (byN T N w i k (mayN T N + 1)) (C - byN T N w i k (mayN T N + 1))) := ⟨_, rfl⟩
  rw [← eg]
  have g64 : ∀ k, g k ≤ 64 := fun k => by have := bl k; rw [eg]; show max _ _ ≤ 64; omega
  refine lq3_run (F := F_X12_look_50 (nI i) (nI (mayN T N)) ν (nI C) (fun x5_163 => some (x5_163, ν))) (fun k => nI (lkF g C k).2) (fun k => oI (lkF g C k).1) (fun k => nI k) (tL T) (some (oI (lkF g C (tL T)).1, ν)) ?_ ?_ (n := 1000000) (by omega)
  · intro rec k hk
    have c1 : nI k < gI ν 2 1 := by rw [hMn.1.2.1]; exact nI_lt hk (by omega)
    have ll := lkF_le g C k
    have gk : max (byN T N w i k (mayN T N + 1)) (C - byN T N w i k (mayN T N + 1)) = g k := by rw [eg]
    have g6 := g64 k
    simp only [F_X12_look_50, ck_t (show inb 1 8 = true from rfl), n1, if_pos c1, jn_e2]
    rw [m_look67 hT (wr0.q m2) hwk hi m3 (show k < 8 by omega)]
    simp only [imxm (bl k) (show C < 2147483648 by omega), gk, bn_e, nI_1]
    by_cases z : g k < (lkF g C k).2
    · rw [if_pos (nI_lt z (by omega))]; simp only [lkF, if_pos z]; rfl
    · rw [if_neg (fun y => z ((nI_ltI (by omega) (by omega)).mp y))]; simp only [lkF, if_neg z]
  · intro rec
    have c1 : ¬ nI (tL T) < gI ν 2 1 := by rw [hMn.1.2.1]; exact nI_nlt (Nat.le_refl _) (by omega)
    simp only [F_X12_look_50, ck_t (show inb 1 8 = true from rfl), n1, if_neg c1]
