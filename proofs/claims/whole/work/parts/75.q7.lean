/-! the sets -/
def mayN (T : Tw) (N : Nt) : Nat := bts (fun w => !homeN T N w) (tW T)
theorem mayN_lt {T : Tw} {N : Nt} (hT : TwOk T) : mayN T N < 64 := Nat.lt_of_lt_of_le (bts_lt _ _) (show 2 ^ tW T ≤ 2 ^ 6 from Nat.pow_le_pow_right (by decide) hT.2.2.1)
theorem may_I {T : Tw} {N : Nt} (hT : TwOk T) : (((1 : Int32) <<< (nI (tW T) &&& 31)) - 1) &&& (nI (bts (homeN T N) (tW T)) ^^^ (-1)) = nI (mayN T N) := by
  rw [full_I _ hT.2.2.1, ← bts_all, andnB]
  rfl
theorem may_C {T : Tw} {N : Nt} (hT : TwOk T) : (nI (bts (homeN T N) (tW T)) ^^^ (-1)) &&& (((1 : Int32) <<< (nI (tW T) &&& 31)) - 1) = nI (mayN T N) := by
  rw [Int32.and_comm, may_I hT]
def subN (m s : Nat) : Bool := decide (nI s &&& (nI m ^^^ (-1)) = 0)
def fitN (T : Tw) (N : Nt) (w : Wt) (s : Nat) : Bool := subN (mayN T N) s && okW T N w s
def foldA (c : Nat → Bool) (m : Int32) : Nat → Int32
  | 0 => m
  | s + 1 => if c s then foldA c m s &&& nI s else foldA c m s
def foldO (c : Nat → Bool) : Nat → Int32
  | 0 => 0
  | s + 1 => if c s then foldO c s ||| nI s else foldO c s
theorem cnt_s (c : Nat → Bool) (s : Nat) : cnt c (s + 1) = cnt c s + (c s).toNat := rfl
def setsN (T : Tw) (N : Nt) (w : Wt) (x : Int32) : Int32 := if x = 0 then nI (cnt (fitN T N w) (mayN T N + 1)) else if nI (cnt (fitN T N w) (mayN T N + 1)) = 0 then -1 else if x = 1 then foldA (fitN T N w) (nI (mayN T N)) (mayN T N + 1) else foldO (fitN T N w) (mayN T N + 1)
theorem s_fittingSets {σ : Mm} {t : Nat} {T : Tw} {N : Nt} {w : Wt} (hc : TC σ t T) (hT : TwOk T) (r : RC σ 6 (tW T) N) (hN : NtOk T N) (hw : WC σ 127 w) (hwk : WtOk T w) (x : Int32) :
    ∃ τ, f_X0_fittingSets t 6 127 x σ = some (setsN T N w x, τ) ∧ Off (tryC t) σ τ := by
  have ml := mayN_lt (N := N) hT
  unfold f_X0_fittingSets
  rw [ck_t hc.1, ck_t n6, ck_t hw.1, cl_of _ (s_homeBits hc hT r hN), bn_e, hc.2.2.2.1, may_C hT, jn_e2]
  obtain ⟨m, em⟩ : ∃ m, m = mayN T N := ⟨_, rfl⟩
  obtain ⟨c, ec⟩ : ∃ c, c = fitN T N w := ⟨_, rfl⟩
  rw [← em]
  rw [← em] at ml
  obtain ⟨kx, ek⟩ : ∃ k : Int32 → Int32 → Int32 → Mm → Option (Int32 × Mm), k = (fun (x6_85 : Int32) (x7_85 : Int32) (x8_85 : Int32) (σ_85 : Mm) => (if x = 0 then some (x6_85, σ_85) else (if x6_85 = 0 then some ((-1 : Int32), σ_85) else (if x = (1 : Int32) then some (x7_85, σ_85) else some (x8_85, σ_85))))) := ⟨_, rfl⟩
  rw [← ek]
  have q := lq5_inv (F := F_X0_fittingSets_31 t 6 127 (nI m) kx) (fun i => nI (cnt c i)) (fun i => foldA c (nI m) i) (fun i => foldO c i) (fun i => nI i) (fun i b => Off (tryC t) σ b) (m + 1) (fun b => kx (nI (cnt c (m + 1))) (foldA c (nI m) (m + 1)) (foldO c (m + 1)) b) ?_ ?_ (n := 1000000) (b0 := σ) Off.rf (by omega)
  · obtain ⟨b, hb, e⟩ := q
    refine ⟨b, e.trans ?_, hb⟩
    rw [ek]
    unfold setsN
    rw [← em, ← ec]
    show (if x = 0 then _ else _) = _
    split
    · rfl
    · split
      · rfl
      · split <;> rfl
  · intro rec i b hi hb
    have c1 : ¬ nI m < nI i := nI_nlt (by omega) (by omega)
    have wb : WC b 127 w := hw.off hb (fun a ha => by have tn := town_night hc.1 n197; simp only [tryC, List.mem_cons, List.not_mem_nil, or_false] at ha; omega)
    obtain ⟨τ, t1, t2⟩ := s_litBySet (hc.trd hb) hT ne6 (r.off hb (tryC_night hc.1 n6 ne6)) hN wb hwk (s := i) (i := 0) (by omega) (by omega)
    have t1 : f_X0_litBySet t 6 127 (nI i) 0 b = some (if okW T N w i = true then nI (bsN T N i 0) else -1, τ) := t1
    have bl := bsN_lt (N := N) hT i 0
    have e1 : foldA c (nI m) (i + 1) = if c i then foldA c (nI m) i &&& nI i else foldA c (nI m) i := rfl
    have e2 : foldO c (i + 1) = if c i then foldO c i ||| nI i else foldO c i := rfl
    have ci : c i = (subN m i && okW T N w i) := by rw [ec, em]; rfl
    cases z : subN m i
    · have z' : ¬ (nI i &&& (nI m ^^^ (-1)) = 0) := of_decide_eq_false z
      refine ⟨b, hb, ?_⟩
      rw [z] at ci
      rw [e1, e2, cnt_s, ci]
      simp only [F_X0_fittingSets_31, if_neg c1, jn_e, if_neg z', nI_1]
      rfl
    · have z' : (nI i &&& (nI m ^^^ (-1)) = 0) := of_decide_eq_true z
      refine ⟨τ, hb.tr t2, ?_⟩
      rw [z, Bool.true_and] at ci
      rw [e1, e2, cnt_s, ci]
      simp only [F_X0_fittingSets_31, if_neg c1, jn_e, if_pos z', cl_of _ t1, nI_1, bn_e]
      cases okW T N w i
      · rfl
      · simp only [if_true, if_neg (nI_ne (bsN T N i 0) (by omega))]
        rfl
  · intro rec b hb
    have c1 : nI m < nI (m + 1) := nI_lt (by omega) (by omega)
    simp only [F_X0_fittingSets_31, if_pos c1]
/-- the reference has laid what burns if just a set is out -/
def LB (σ : Mm) (T : Tw) (N : Nt) (s : Nat) : Prop := ∀ i, i < 31 → gI σ 49 (31 * s + i) = nI (bsN T N s i)
theorem b31 (a b : Nat) : (31 : Int32) * nI a + nI b = nI (31 * a + b) := by rw [show (31 : Int32) = nI 31 from rfl, pk_mul, nI_add]
theorem laysLit_e (σ : Mm) : f_X12_laysLit σ = ck (inb (2 : Int32) 8) (cl (f_X12_homes σ) (fun r11 _ => lq2 (F_X12_laysLit_20 ((((1 : Int32) <<< ((gI σ 2 (2 : Int32).toNatClampNeg) &&& 31)) - (1 : Int32)) &&& (r11 ^^^ (-1 : Int32))) (fun σ_113 => some (0, σ_113))) 1000000 (0 : Int32) σ)) := by
  unfold f_X12_laysLit
  simp only [jn_e2, bn_e]
theorem m_lays1 {σ : Mm} {T : Tw} {N : Nt} (h : MI σ T N) (hT : TwOk T) (hN : NtOk T N) {s : Nat} (hs : s < 64) (kx : Mm → Option (Int32 × Mm)) :
    ∃ τ, cl (f_X12_copies 36 (0 : Int32) 38 (0 : Int32) σ) (fun _ σ46 => bn (pI σ46 0 57 (nI s)) (fun σ51 => jn (fun (σ_88 : Mm) => bn (pI σ_88 0 57 (63 : Int32)) (fun σ91 => cl (f_X12_copies 38 (0 : Int32) 36 (0 : Int32) σ91) (fun _ σ104 => kx σ104))) (fun k88 => lq2 (F_X12_laysLit_56 (nI s) k88) 1000000 (0 : Int32) σ51))) = kx τ ∧ QM σ τ ∧ LB τ T N s ∧ ∀ q, (q < 31 * s ∨ 31 * s + 31 ≤ q) → gI τ 49 q = gI σ 49 q := by
  have hW := hT.2.2.1
  obtain ⟨σ1, l1, o1, c1⟩ := cp38 σ
  obtain ⟨a1, a2, a3', a4⟩ := Mi.first (Or.inr rfl) h hT o1
  obtain ⟨σ2, e2⟩ : ∃ z, z = pI σ1 0 57 (nI s) := ⟨_, rfl⟩
  have o2 : Off [0] σ1 σ2 := by rw [e2]; exact Off.pI (by simp)
  have h2 : TM σ2 T := a1.off o2 (fun a ha => by simp only [List.mem_cons, List.not_mem_nil, or_false] at ha; omega)
  have p2 : RP σ2 36 0 T N := h.2.1.copy hW (fun j hj => by rw [o2.1 36 (by simp), o1.1 36 (by simp)])
  have r2 : RM σ2 T (restN N s) := RM.rest p2 hT hN (by omega) (by rw [e2, gI_pI_s])
  have ok := restN_ok hN s
  have so : ∀ {b}, Off (49 :: passM) σ2 b → TM b T := fun {b} o => h2.off o (fun a ha => by simp only [passM, lawM, List.mem_cons, List.not_mem_nil, or_false] at ha; omega)
  rw [cl_of _ l1, bn_e, ← e2, jn_e2]
  obtain ⟨ky, ek⟩ : ∃ k : Mm → Option (Int32 × Mm), k = (fun (σ_88 : Mm) => bn (pI σ_88 0 57 (63 : Int32)) (fun σ91 => cl (f_X12_copies 38 (0 : Int32) 36 (0 : Int32) σ91) (fun _ σ104 => kx σ104))) := ⟨_, rfl⟩
  rw [← ek]
  have q := lq2_inv (F := F_X12_laysLit_56 (nI s) ky) (fun i => nI i) (fun i b => Off (49 :: passM) σ2 b ∧ RM b T (itN T 0 (restN N s) i) ∧ (∀ j, j < i → gI b 49 (31 * s + j) = nI (bsN T N s j)) ∧ ∀ q, (q < 31 * s ∨ 31 * s + 31 ≤ q) → gI b 49 q = gI σ2 49 q) 31 ky ?_ ?_ (n := 1000000) (b0 := σ2) ⟨Off.rf, r2, fun j hj => absurd hj (Nat.not_lt_zero j), fun _ _ => rfl⟩ (by omega)
  · obtain ⟨b, ⟨b1, b2, b3, b4⟩, e⟩ := q
    obtain ⟨σ3, l3, o3, c3⟩ := bk38 (pI b 0 57 63)
    have o13 : Off (0 :: 49 :: passM) σ1 (pI b 0 57 63) := (o2.mono (by simp)).tr ((b1.mono (fun a ha => List.mem_cons_of_mem _ ha)).tr (Off.pI (by simp)))
    refine ⟨σ3, e.trans ?_, laidBack (Or.inr rfl) o1 c1 o13 (fun a ha => ?_) (fun j j1 j2 => ?_) o3 c3, fun i hi => ?_, fun q hq => ?_⟩
    · rw [ek]
      show bn (pI b 0 57 63) _ = _
      rw [bn_e, cl_of _ l3]
    · simp only [passM, lawM, List.mem_cons, List.not_mem_nil, or_false] at ha
      simp only [qM, lawM, List.mem_cons, List.not_mem_nil, or_false]
      omega
    · by_cases z : j = 57
      · subst z; rw [gI_pI_s, a4]
      · rw [gI_pI_n (Or.inr z), b1.1 0 (by simp [passM, lawM]), e2, gI_pI_n (Or.inr z)]
    · rw [o3.1 49 (by simp), gI_pI_n (Or.inl (by decide))]; exact b3 i hi
    · rw [o3.1 49 (by simp), gI_pI_n (Or.inl (by decide)), b4 q hq, o2.1 49 (by simp), o1.1 49 (by simp)]
  · intro rec i b hi hb
    obtain ⟨b1, b2, b3, b4⟩ := hb
    have c1 : nI i < 31 := nI_lt (a := i) (b := 31) hi (by omega)
    have oki := itN_ok hT ok 0 i
    obtain ⟨b', eb⟩ : ∃ z, z = pI b 49 (31 * s + i) (nI (bsN T N s i)) := ⟨_, rfl⟩
    have o' : Off [49] b b' := by rw [eb]; exact Off.pI (by simp)
    have rb' : RM b' T (itN T 0 (restN N s) i) := b2.off o' (by simp) (o'.1 0 (by simp) 57) hW
    have ob' : Off (49 :: passM) σ2 b' := b1.tr (o'.mono (by simp))
    obtain ⟨τ, t1, t2, t3, -, -⟩ := m_passes (so ob') hT rb' oki
    rw [show gI b' 0 56 = 0 by rw [o'.1 0 (by simp), b1.1 0 (by simp [passM, lawM]), e2, gI_pI_n (Or.inr (by decide))]; exact a3'] at t2
    have bm : f_X12_burning b = some (nI (bsN T N s i), b) := m_burning (so b1) hT b2 oki
    refine ⟨τ, ⟨ob'.tr (t3.mono (fun a ha => List.mem_cons_of_mem _ ha)), t2, fun j hj => ?_, fun q hq => ?_⟩, ?_⟩
    · rw [t3.1 49 (by simp [passM, lawM]), eb]
      by_cases z : j = i
      · subst z; rw [gI_pI_s]
      · rw [gI_pI_n (Or.inr (by omega))]; exact b3 j (by omega)
    · rw [t3.1 49 (by simp [passM, lawM]), eb, gI_pI_n (Or.inr (by omega))]; exact b4 q hq
    · simp only [F_X12_laysLit_56, if_pos c1, cl_of _ bm, b31, ck_t (inb_nI (show 31 * s + i < 1984 by omega) (by omega)), nI_tn (show 31 * s + i < 2147483648 by omega), bn_e, ← eb, cl_of _ t1, nI_1]
  · intro rec b hb
    have c1 : ¬ nI 31 < 31 := by decide
    simp only [F_X12_laysLit_56, if_neg c1]
theorem m_laysLit {σ : Mm} {T : Tw} {N : Nt} (h : MI σ T N) (hT : TwOk T) (hN : NtOk T N) :
    ∃ τ, f_X12_laysLit σ = some (0, τ) ∧ QM σ τ ∧ ∀ s, s ≤ mayN T N → subN (mayN T N) s = true → LB τ T N s := by
  have ml := mayN_lt (N := N) hT
  have n2 : (2 : Int32).toNatClampNeg = 2 := rfl
  rw [laysLit_e, ck_t (show inb 2 8 = true from rfl), cl_of _ (m_homes h.1 hT (h.rm hT) hN), n2, h.1.2.2.1, may_I hT]
  obtain ⟨m, em⟩ : ∃ m, m = mayN T N := ⟨_, rfl⟩
  rw [← em]
  rw [← em] at ml
  have q := lq2_inv (F := F_X12_laysLit_20 (nI m) (fun σ_113 => some (0, σ_113))) (fun i => nI i) (fun i b => QM σ b ∧ ∀ s, s < i → subN m s = true → LB b T N s) (m + 1) (fun σ_113 => some (0, σ_113)) ?_ ?_ (n := 1000000) (b0 := σ) ⟨QM.rf, fun s hs => absurd hs (Nat.not_lt_zero s)⟩ (by omega)
  · obtain ⟨b, hb, e⟩ := q
    exact ⟨b, e, hb.1, fun s hs => hb.2 s (by omega)⟩
  · intro rec i b hi hb
    have c1 : ¬ nI m < nI i := nI_nlt (by omega) (by omega)
    cases z : subN m i
    · have z' : ¬ (nI i &&& (nI m ^^^ (-1)) = 0) := of_decide_eq_false z
      refine ⟨b, ⟨hb.1, fun s hs k => ?_⟩, ?_⟩
      · by_cases y : s = i
        · subst y; rw [z] at k; cases k
        · exact hb.2 s (by omega) k
      · simp only [F_X12_laysLit_20, if_neg c1, jn_e, if_neg z', nI_1]
    · have z' : (nI i &&& (nI m ^^^ (-1)) = 0) := of_decide_eq_true z
      obtain ⟨τ, t1, t2, t3, t4⟩ := m_lays1 (h.q hT hb.1) hT hN (s := i) (by omega) (fun σ_107 => rec (nI i + 1) σ_107)
      refine ⟨τ, ⟨hb.1.tr t2, fun s hs k => ?_⟩, ?_⟩
      · by_cases y : s = i
        · subst y; exact t3
        · intro j hj
          rw [t4 _ (by omega)]; exact hb.2 s (by omega) k j hj
      · simp only [F_X12_laysLit_20, if_neg c1, jn_e2, if_pos z']
        simp only [jn_e2] at t1
        rw [t1, nI_1]
  · intro rec b hb
    have c1 : nI m < nI (m + 1) := nI_lt (by omega) (by omega)
    simp only [F_X12_laysLit_20, if_pos c1]
theorem m_isAsWatched {σ : Mm} {T : Tw} {N : Nt} {w : Wt} (hT : TwOk T) (hw : WR σ 0 w) (hwk : WtOk T w) {s : Nat} (hs : s < 64) (lb : LB σ T N s) : f_X12_isAsWatched (nI s) σ = some ((if okW T N w s then 1 else 0), σ) := by
  have h6 := hwk.1
  have hL := hT.2.1
  have n0 : (0 : Int32).toNatClampNeg = 0 := rfl
  have w0 : ∀ k, k < wM w → gI σ 33 k = nI (wL w k) ∧ gI σ 34 k = nI (wA w k) ∧ gI σ 35 k = wB w k := fun k hk => by have := hw.2 k hk; simpa using this
  unfold f_X12_isAsWatched
  rw [jn_e2]
  have q := lq1_fst (F := F_X12_isAsWatched_2 (nI s) σ (some (1, σ))) (fun k => !decide (tb1 (bsN T N s (wA w k)) (wL w k) = wB w k)) 0 (wM w) (fun _ => some (0, σ)) (some (1, σ)) ?_ ?_ ?_ (n := 1000000) (by omega)
  · refine q.trans ?_
    unfold okW
    cases fst1 (fun k => !decide (tb1 (bsN T N s (wA w k)) (wL w k) = wB w k)) 0 (wM w) <;> rfl
  · intro rec k _ hk hp
    have hk : k < wM w := by omega
    have c1 : nI k < gI σ 32 0 := by rw [hw.1]; exact nI_lt hk (by omega)
    obtain ⟨w1, w2, w3⟩ := w0 k hk
    obtain ⟨v1, v2, v3⟩ := hwk.2 k hk
    have bl := bsN_lt (N := N) hT s (wA w k)
    have hp2 : ¬ tb1 (bsN T N s (wA w k)) (wL w k) = wB w k := by simpa using hp
    simp only [F_X12_isAsWatched_2, ck_t (show inb 0 5 = true from rfl), n0, if_pos c1, ck_t (inb_nI (show k < 30 by omega) (by omega)), nI_tn (show k < 2147483648 by omega), w1, w2, w3, b31, bn_e, ck_t (inb_nI (show 31 * s + wA w k < 1984 by omega) (by omega)), nI_tn (show 31 * s + wA w k < 2147483648 by omega), lb _ (show wA w k < 31 by omega), jn_e]
    unfold tb1 at hp2
    by_cases z : (bsN T N s (wA w k)).testBit (wL w k) = true
    · rw [if_pos z] at hp2
      rw [if_pos ((shr_bit1 (by omega) (show wL w k < 31 by omega)).mpr z), if_neg hp2]
    · rw [if_neg z] at hp2
      rw [if_neg (fun y => z ((shr_bit1 (by omega) (show wL w k < 31 by omega)).mp y)), if_neg hp2]
  · intro rec k _ hk hp
    have hk : k < wM w := by omega
    have c1 : nI k < gI σ 32 0 := by rw [hw.1]; exact nI_lt hk (by omega)
    obtain ⟨w1, w2, w3⟩ := w0 k hk
    obtain ⟨v1, v2, v3⟩ := hwk.2 k hk
    have bl := bsN_lt (N := N) hT s (wA w k)
    have hp2 : tb1 (bsN T N s (wA w k)) (wL w k) = wB w k := by simpa using hp
    simp only [F_X12_isAsWatched_2, ck_t (show inb 0 5 = true from rfl), n0, if_pos c1, ck_t (inb_nI (show k < 30 by omega) (by omega)), nI_tn (show k < 2147483648 by omega), w1, w2, w3, b31, bn_e, ck_t (inb_nI (show 31 * s + wA w k < 1984 by omega) (by omega)), nI_tn (show 31 * s + wA w k < 2147483648 by omega), lb _ (show wA w k < 31 by omega), jn_e, nI_1]
    unfold tb1 at hp2
    by_cases z : (bsN T N s (wA w k)).testBit (wL w k) = true
    · rw [if_pos z] at hp2
      rw [if_pos ((shr_bit1 (by omega) (show wL w k < 31 by omega)).mpr z), if_pos hp2]
    · rw [if_neg z] at hp2
      rw [if_neg (fun y => z ((shr_bit1 (by omega) (show wL w k < 31 by omega)).mp y)), if_pos hp2]
  · intro rec
    have c1 : ¬ nI (0 + wM w) < gI σ 32 0 := by rw [hw.1, Nat.zero_add]; exact nI_nlt (Nat.le_refl _) (by omega)
    simp only [F_X12_isAsWatched_2, ck_t (show inb 0 5 = true from rfl), n0, if_neg c1]
theorem m_sets {σ : Mm} {T : Tw} {N : Nt} {w : Wt} (h : MI σ T N) (hT : TwOk T) (hN : NtOk T N) (hw : WR σ 0 w) (hwk : WtOk T w) {x : Int32} (hx : ¬ x < 0 ∧ ¬ (2 : Int32) < x) :
    ∃ τ, f_X12_sets x σ = some (setsN T N w x, τ) ∧ QM σ τ ∧ ∀ s, s ≤ mayN T N → subN (mayN T N) s = true → LB τ T N s := by
  have ml := mayN_lt (N := N) hT
  have n2 : (2 : Int32).toNatClampNeg = 2 := rfl
  have hM := h.q hT (QM.z σ 0)
  obtain ⟨τ, t1, t2, t3⟩ := m_laysLit hM hT hN
  have wt := (hw.q (QM.z σ 0)).q t2
  refine ⟨τ, ?_, (QM.z σ 0).tr t2, t3⟩
  unfold f_X12_sets
  simp only [bn_e, cl_of _ (m_within x 0 2 _), if_pos hx, if_neg one0, ck_t (show inb 2 8 = true from rfl), cl_of _ (m_homes hM.1 hT (hM.rm hT) hN), n2, hM.1.2.2.1, may_I hT, cl_of _ t1, jn_e2]
  obtain ⟨m, em⟩ : ∃ m, m = mayN T N := ⟨_, rfl⟩
  obtain ⟨c, ec⟩ : ∃ c, c = fitN T N w := ⟨_, rfl⟩
  rw [← em]
  rw [← em] at ml t3
  obtain ⟨kx, ek⟩ : ∃ k : Int32 → Int32 → Int32 → Option (Int32 × Mm), k = (fun (x3_99 : Int32) (x4_99 : Int32) (x5_99 : Int32) => (if x3_99 = 0 then (if x = 0 then some (x3_99, τ) else some ((-1 : Int32), τ)) else (if x = 0 then (if x = 0 then some (x3_99, τ) else some ((-1 : Int32), τ)) else (if x = (1 : Int32) then some (x4_99, τ) else some (x5_99, τ))))) := ⟨_, rfl⟩
  rw [← ek]
  have q := lq4_run (F := F_X12_sets_49 (nI m) τ kx) (fun i => nI (cnt c i)) (fun i => foldA c (nI m) i) (fun i => foldO c i) (fun i => nI i) (m + 1) (kx (nI (cnt c (m + 1))) (foldA c (nI m) (m + 1)) (foldO c (m + 1))) ?_ ?_ (n := 1000000) (by omega)
  · refine q.trans ?_
    rw [ek]
    unfold setsN
    rw [← em, ← ec]
    by_cases x0 : x = 0
    · simp only [if_pos x0]
      split <;> rfl
    · simp only [if_neg x0]
      split
      · rfl
      · split <;> rfl
  · intro rec i hi
    have c1 : ¬ nI m < nI i := nI_nlt (by omega) (by omega)
    have e1 : foldA c (nI m) (i + 1) = if c i then foldA c (nI m) i &&& nI i else foldA c (nI m) i := rfl
    have e2 : foldO c (i + 1) = if c i then foldO c i ||| nI i else foldO c i := rfl
    have ci : c i = (subN m i && okW T N w i) := by rw [ec, em]; rfl
    cases z : subN m i
    · have z' : ¬ (nI i &&& (nI m ^^^ (-1)) = 0) := of_decide_eq_false z
      rw [z] at ci
      rw [e1, e2, cnt_s, ci]
      simp only [F_X12_sets_49, if_neg c1, jn_e, if_neg z', nI_1]
      rfl
    · have z' : (nI i &&& (nI m ^^^ (-1)) = 0) := of_decide_eq_true z
      have iw := m_isAsWatched hT wt hwk (s := i) (by omega) (t3 i (by omega) z)
      rw [z, Bool.true_and] at ci
      rw [e1, e2, cnt_s, ci]
      simp only [F_X12_sets_49, if_neg c1, jn_e, if_pos z', cl_of _ iw, nI_1, bn_e]
      cases okW T N w i
      · rfl
      · rfl
  · intro rec
    have c1 : nI m < nI (m + 1) := nI_lt (by omega) (by omega)
    simp only [F_X12_sets_49, if_pos c1]
theorem q_sets {σ μ : Mm} {t : Nat} {T : Tw} {N : Nt} {w : Wt} (h : Bo σ μ t T N) (hwk : WtOk T w) (wc : WC σ 127 w) (wr : WR μ 0 w) (x : Int32) : An (f_X11_sets x) (f_X12_sets x) σ μ := by
  obtain ⟨hT, hN, ⟨ht, hc, rc⟩, hM⟩ := h
  by_cases v : ¬ x < 0 ∧ ¬ (2 : Int32) < x
  · obtain ⟨τ, t1, t2⟩ := s_fittingSets hc hT rc hN wc hwk x
    obtain ⟨ν, n1, n2, -⟩ := m_sets hM hT hN wr hwk v
    refine ⟨_, τ, ν, ?_, n1, tryQ hc.1 t2, n2⟩
    unfold f_X11_sets
    simp only [jn_e2, if_neg v.1, if_neg v.2, bn_e, ht, cl_of _ t1]
  · refine ⟨-1, σ, pI μ 0 0 0, ?_, ?_, Off.rf, QM.z μ 0⟩
    · unfold f_X11_sets
      simp only [jn_e2]
      by_cases a : x < 0
      · rw [if_pos a]
      · rw [if_neg a]
        by_cases b : (2 : Int32) < x
        · rw [if_pos b]
        · exact absurd ⟨a, b⟩ v
    · unfold f_X12_sets
      simp only [bn_e, cl_of _ (m_within x 0 2 _), if_neg v, if_true]
/-- the lane that parts the sets best -/
def lkF (g : Nat → Nat) (m : Nat) : Nat → Option Nat × Nat
  | 0 => (none, m)
  | k + 1 => if g k < (lkF g m k).2 then (some k, g k) else lkF g m k
theorem lkF_le (g : Nat → Nat) (m : Nat) : ∀ k, (lkF g m k).2 ≤ m
  | 0 => Nat.le_refl _
  | k + 1 => by
    have := lkF_le g m k
    unfold lkF
    split
    · show g k ≤ m; omega
    · exact this
/-- by how many sets a lane burns then -/
def byN (T : Tw) (N : Nt) (w : Wt) (i k n : Nat) : Nat := cnt (fun s => fitN T N w s && (bsN T N s i).testBit k) n
def lookN (T : Tw) (N : Nt) (w : Wt) (i : Nat) : Int32 := oI (lkF (fun k => max (byN T N w i k (mayN T N + 1)) (cnt (fitN T N w) (mayN T N + 1) - byN T N w i k (mayN T N + 1))) (cnt (fitN T N w) (mayN T N + 1)) (tL T)).1
theorem byN_le (T : Tw) (N : Nt) (w : Wt) (i k : Nat) : ∀ n, byN T N w i k n ≤ cnt (fitN T N w) n
  | 0 => Nat.le_refl _
  | n + 1 => by
    have := byN_le T N w i k n
    show byN T N w i k n + (fitN T N w n && (bsN T N n i).testBit k).toNat ≤ cnt (fitN T N w) n + (fitN T N w n).toNat
    have : (fitN T N w n && (bsN T N n i).testBit k).toNat ≤ (fitN T N w n).toNat := by cases fitN T N w n <;> cases (bsN T N n i).testBit k <;> decide
    omega
