/-! feed -/
abbrev Tp : Type := (Nat → Nat) × Nat
def byI (p : Int64) (k : Nat) : Int32 := ((lushr p (nI (56 - 8 * k))) &&& (255 : Int64)).toInt32
def tkI (v : Int32) : Bool := decide (v = 10 ∨ (¬ v < 32 ∧ ¬ 126 < v))
def stT (v : Int32) (st : Tp) : Tp := if tkI v = true ∧ st.2 < 1000 then (updF st.1 st.2 v.toNatClampNeg, st.2 + 1) else st
def rnT (f : Nat → Int32) (st : Tp) : Nat → Tp
  | 0 => st
  | i + 1 => stT (f i) (rnT f st i)
theorem rnT_s (f : Nat → Int32) (st : Tp) (i : Nat) : rnT f st (i + 1) = stT (f i) (rnT f st i) := rfl
theorem rnT_congr {f g : Nat → Int32} {st : Tp} : ∀ {n : Nat}, (∀ i, i < n → f i = g i) → rnT f st n = rnT g st n
  | 0, _ => rfl
  | n + 1, h => by rw [rnT_s, rnT_s, h n (by omega), rnT_congr (fun i hi => h i (by omega))]
theorem rnT_add (f : Nat → Int32) (st : Tp) (a : Nat) : ∀ b, rnT f st (a + b) = rnT (fun i => f (a + i)) (rnT f st a) b
  | 0 => rfl
  | b + 1 => by
    show stT (f (a + b)) (rnT f st (a + b)) = _
    rw [rnT_add f st a b]
    rfl
def TpC (σ : Mm) (st : Tp) : Prop := st.2 ≤ 1000 ∧ gI σ 1 1 = nI st.2 ∧ ∀ k, k < st.2 → gI σ 2 k = nI (st.1 k) ∧ sOk (st.1 k)
def TpM (σ : Mm) (st : Tp) : Prop := st.2 ≤ 1000 ∧ gI σ 0 1 = nI st.2 ∧ ∀ k, k < st.2 → gI σ 1 k = nI (st.1 k) ∧ sOk (st.1 k)
theorem tk_nat {v : Int32} (h : tkI v = true) : ∃ c, sOk c ∧ c < 127 ∧ v = nI c := by
  rcases of_decide_eq_true h with h | ⟨h1, h2⟩
  · exact ⟨10, Or.inl rfl, by omega, h⟩
  · have h0 : ¬ v < 0 := fun z => h1 (Int32.lt_trans z (by decide))
    obtain ⟨j, hj, rfl⟩ := nI_of2 (M := 126) (n := 126) rfl h0 (Int32.not_lt.mp h2)
    refine ⟨j, Or.inr ⟨?_, hj⟩, by omega, rfl⟩
    apply Classical.byContradiction
    intro z
    exact h1 (nI_lt (a := j) (b := 32) (by omega) (by omega))
theorem byteM : ∀ c, c < 127 → vp_nar .byte (nI c).toInt8.toInt32 = nI c := by decide +kernel
def FdC (σ τ : Mm) : Prop := (∀ b, b ≠ 1 → b ≠ 2 → ∀ k, gI τ b k = gI σ b k) ∧ (∀ b k, gL τ b k = gL σ b k) ∧ ∀ b k, gR τ b k = gR σ b k
def FdM (σ τ : Mm) : Prop := (∀ b, b ≠ 0 → b ≠ 1 → ∀ k, gI τ b k = gI σ b k) ∧ (∀ j, j ≠ 1 → gI τ 0 j = gI σ 0 j) ∧ (∀ b k, gL τ b k = gL σ b k) ∧ ∀ b k, gR τ b k = gR σ b k
theorem FdC.rf {σ : Mm} : FdC σ σ := ⟨fun _ _ _ _ => rfl, fun _ _ => rfl, fun _ _ => rfl⟩
theorem FdC.tr {σ τ υ : Mm} (h : FdC σ τ) (g : FdC τ υ) : FdC σ υ := ⟨fun b h1 h2 k => (g.1 b h1 h2 k).trans (h.1 b h1 h2 k), fun b k => (g.2.1 b k).trans (h.2.1 b k), fun b k => (g.2.2 b k).trans (h.2.2 b k)⟩
theorem FdM.rf {σ : Mm} : FdM σ σ := ⟨fun _ _ _ _ => rfl, fun _ _ => rfl, fun _ _ => rfl, fun _ _ => rfl⟩
theorem FdM.tr {σ τ υ : Mm} (h : FdM σ τ) (g : FdM τ υ) : FdM σ υ := ⟨fun b h1 h2 k => (g.1 b h1 h2 k).trans (h.1 b h1 h2 k), fun j hj => (g.2.1 j hj).trans (h.2.1 j hj), fun b k => (g.2.2.1 b k).trans (h.2.2.1 b k), fun b k => (g.2.2.2 b k).trans (h.2.2.2 b k)⟩
/-- one sign more, in the class -/
theorem s_fd {σ : Mm} {st : Tp} (h : TpC σ st) (p : Int64) (kx : Mm → Option (Int32 × Mm)) (rc : Int32 → Mm → Option (Int32 × Mm)) {x : Int32} (hx : ¬ x < 0) : ∃ τ, F_X7_addBytes_3 p kx rc x σ = rc (x + (-8)) τ ∧ TpC τ (stT ((lushr p x) &&& (255 : Int64)).toInt32 st) ∧ FdC σ τ := by
  obtain ⟨s, n⟩ := st
  obtain ⟨h1, h2, h3⟩ := id h
  have h1 : n ≤ 1000 := h1
  have h2 : gI σ 1 1 = nI n := h2
  have h3 : ∀ k, k < n → gI σ 2 k = nI (s k) ∧ sOk (s k) := h3
  unfold F_X7_addBytes_3
  rw [if_neg hx, bn_e, jn_e2, jn_e2]
  generalize ((lushr p x) &&& (255 : Int64)).toInt32 = v
  by_cases z : tkI v = true
  · obtain ⟨c, c1, c2, rfl⟩ := tk_nat z
    have go : ∀ k0 : Option (Int32 × Mm), ∀ k1 : Option (Int32 × Mm), (if nI c = (10 : Int32) then k1 else jn k0 (fun k42 => (if nI c < (32 : Int32) then k42 else (if (126 : Int32) < nI c then k42 else k1)))) = k1 := fun k0 k1 => by
      rcases of_decide_eq_true z with y | ⟨y1, y2⟩
      · rw [if_pos y]
      · rw [jn_e2, if_neg y1, if_neg y2, ite_self]
    rw [go]
    dsimp only
    rw [jn_e2, if_neg one0]
    by_cases f : n < 1000
    · have l1 : gI σ 1 1 < 1000 := by rw [h2]; exact nI_lt (a := n) (b := 1000) f (by omega)
      have est : stT (nI c) (s, n) = (updF s n c, n + 1) := by
        unfold stT
        rw [if_pos ⟨z, f⟩, nI_tn (by omega)]
      rw [if_pos l1, h2, ck_t (inb_nI f (by omega)), bn_e, nI_tn (by omega), byteM c c2, bn_e, gI_pI_n (Or.inl (by decide)), h2, nI_1, est]
      refine ⟨_, rfl, ⟨by show n + 1 ≤ 1000; omega, gI_pI_s _ _ _ _, fun k hk => ?_⟩, fun b h1 h2 k => by rw [gI_pI_n (Or.inl h1), gI_pI_n (Or.inl h2)], fun _ _ => rfl, fun _ _ => rfl⟩
      have hk : k < n + 1 := hk
      show gI _ 2 k = nI (updF s n c k) ∧ sOk (updF s n c k)
      rw [gI_pI_n (Or.inl (by decide))]
      by_cases y : k = n
      · subst y; rw [gI_pI_s, updF_s]; exact ⟨rfl, c1⟩
      · rw [gI_pI_n (Or.inr y), updF_n y]; exact h3 k (by omega)
    · have l1 : ¬ gI σ 1 1 < 1000 := by rw [h2]; exact nI_nlt (a := n) (b := 1000) (by omega) (by omega)
      have est : stT (nI c) (s, n) = (s, n) := by
        unfold stT
        rw [if_neg (fun q => f q.2)]
      rw [if_neg l1, est]
      exact ⟨_, rfl, h, FdC.rf⟩
  · have go : ∀ k0 : Option (Int32 × Mm), ∀ k1 : Option (Int32 × Mm), (if v = (10 : Int32) then k1 else jn k0 (fun k42 => (if v < (32 : Int32) then k42 else (if (126 : Int32) < v then k42 else k1)))) = k0 := fun k0 k1 => by
      have z2 : ¬ (v = 10 ∨ (¬ v < 32 ∧ ¬ 126 < v)) := fun q => z (decide_eq_true q)
      rw [if_neg (fun q => z2 (Or.inl q)), jn_e2]
      by_cases y1 : v < 32
      · rw [if_pos y1]
      · by_cases y2 : 126 < v
        · rw [if_neg y1, if_pos y2]
        · exact absurd (Or.inr ⟨y1, y2⟩) z2
    have est : stT v (s, n) = (s, n) := by
      unfold stT
      rw [if_neg (fun q => z q.1)]
    rw [go]
    dsimp only
    rw [jn_e2, if_pos rfl, est]
    exact ⟨_, rfl, h, FdC.rf⟩
def fdX (i : Nat) : Int32 := if i ≤ 7 then nI (56 - 8 * i) else -8
theorem fdX_pos : ∀ i, i < 8 → ¬ fdX i < 0 ∧ fdX i = nI (56 - 8 * i) ∧ fdX i + (-8) = fdX (i + 1) := by decide
theorem s_addBytes {σ : Mm} {st : Tp} (h : TpC σ st) (p : Int64) : ∃ τ, f_X7_addBytes p σ = some (0, τ) ∧ TpC τ (rnT (byI p) st 8) ∧ FdC σ τ := by
  unfold f_X7_addBytes
  rw [jn_e2]
  obtain ⟨kx, ek⟩ : ∃ k : Mm → Option (Int32 × Mm), k = (fun (σ_88 : Mm) => some ((0 : Int32), σ_88)) := ⟨_, rfl⟩
  rw [← ek]
  have q := lq2_inv (F := F_X7_addBytes_3 p kx) fdX (fun i b => TpC b (rnT (byI p) st i) ∧ FdC σ b) 8 kx ?_ ?_ (n := 1000000) (b0 := σ) ?_ (by omega)
  · obtain ⟨c, hc, e⟩ := q
    refine ⟨c, ?_, hc⟩
    rw [show fdX 0 = 56 from rfl, ek] at e
    rw [ek]
    exact e
  · intro rc i b hi hb
    obtain ⟨x1, x2, x3⟩ := fdX_pos i hi
    obtain ⟨τ, t1, t2, t3⟩ := s_fd hb.1 p kx rc x1
    refine ⟨τ, ⟨?_, hb.2.tr t3⟩, by rw [t1, x3]⟩
    rw [rnT_s]
    rw [x2] at t2
    exact t2
  · intro rc b hb
    unfold F_X7_addBytes_3
    rw [if_pos (by decide)]
  · exact ⟨h, FdC.rf⟩
/-- one sign more, in the reference -/
theorem m_fd {μ : Mm} {st : Tp} (h : TpM μ st) (rc : Int32 → Mm → Option (Int32 × Mm)) (x : Int32) (y : Int64) : ∃ τ, J_X12_feed_39 rc x μ y = rc (x + 1) τ ∧ TpM τ (stT ((lushr y ((56 : Int32) - ((8 : Int32) * (x &&& (7 : Int32))))) &&& (255 : Int64)).toInt32 st) ∧ FdM μ τ := by
  obtain ⟨s, n⟩ := st
  obtain ⟨h1, h2, h3⟩ := id h
  have h1 : n ≤ 1000 := h1
  have h2 : gI μ 0 1 = nI n := h2
  have h3 : ∀ k, k < n → gI μ 1 k = nI (s k) ∧ sOk (s k) := h3
  unfold J_X12_feed_39
  rw [bn_e, jn_e2]
  generalize ((lushr y ((56 : Int32) - ((8 : Int32) * (x &&& (7 : Int32))))) &&& (255 : Int64)).toInt32 = v
  by_cases f : n < 1000
  · have l1 : gI μ 0 1 < 1000 := by rw [h2]; exact nI_lt (a := n) (b := 1000) f (by omega)
    rw [if_pos l1, jn_e2]
    by_cases z : tkI v = true
    · obtain ⟨c, c1, c2, rfl⟩ := tk_nat z
      have go : ∀ k0 : Option (Int32 × Mm), ∀ k1 : Option (Int32 × Mm), (if nI c = (10 : Int32) then k1 else (if nI c < (32 : Int32) then k0 else (if (126 : Int32) < nI c then k0 else k1))) = k1 := fun k0 k1 => by
        rcases of_decide_eq_true z with y | ⟨y1, y2⟩
        · rw [if_pos y]
        · rw [if_neg y1, if_neg y2, ite_self]
      have est : stT (nI c) (s, n) = (updF s n c, n + 1) := by
        unfold stT
        rw [if_pos ⟨z, f⟩, nI_tn (by omega)]
      rw [go, h2, ck_t (inb_nI f (by omega)), bn_e, nI_tn (by omega), bn_e, gI_pI_n (Or.inl (by decide)), h2, nI_1, est]
      refine ⟨_, rfl, ⟨by show n + 1 ≤ 1000; omega, gI_pI_s _ _ _ _, fun k hk => ?_⟩, fun b h1 h2 k => by rw [gI_pI_n (Or.inl h1), gI_pI_n (Or.inl h2)], fun j hj => by rw [gI_pI_n (Or.inr hj), gI_pI_n (Or.inl (by decide))], fun _ _ => rfl, fun _ _ => rfl⟩
      have hk : k < n + 1 := hk
      show gI _ 1 k = nI (updF s n c k) ∧ sOk (updF s n c k)
      rw [gI_pI_n (Or.inl (by decide))]
      by_cases y : k = n
      · subst y; rw [gI_pI_s, updF_s]; exact ⟨rfl, c1⟩
      · rw [gI_pI_n (Or.inr y), updF_n y]; exact h3 k (by omega)
    · have go : ∀ k0 : Option (Int32 × Mm), ∀ k1 : Option (Int32 × Mm), (if v = (10 : Int32) then k1 else (if v < (32 : Int32) then k0 else (if (126 : Int32) < v then k0 else k1))) = k0 := fun k0 k1 => by
        have z2 : ¬ (v = 10 ∨ (¬ v < 32 ∧ ¬ 126 < v)) := fun q => z (decide_eq_true q)
        rw [if_neg (fun q => z2 (Or.inl q))]
        by_cases y1 : v < 32
        · rw [if_pos y1]
        · by_cases y2 : 126 < v
          · rw [if_neg y1, if_pos y2]
          · exact absurd (Or.inr ⟨y1, y2⟩) z2
      have est : stT v (s, n) = (s, n) := by
        unfold stT
        rw [if_neg (fun q => z q.1)]
      rw [go, est]
      exact ⟨_, rfl, h, FdM.rf⟩
  · have l1 : ¬ gI μ 0 1 < 1000 := by rw [h2]; exact nI_nlt (a := n) (b := 1000) (by omega) (by omega)
    have est : stT v (s, n) = (s, n) := by
      unfold stT
      rw [if_neg (fun q => f q.2)]
    rw [if_neg l1, est]
    exact ⟨_, rfl, h, FdM.rf⟩
def f24 (p1 p2 p3 : Int64) (i : Nat) : Int32 := if i < 8 then byI p1 i else if i < 16 then byI p2 (i - 8) else byI p3 (i - 16)
theorem f24_x : ∀ i, i < 24 → (56 : Int32) - ((8 : Int32) * (nI i &&& 7)) = nI (56 - 8 * (i % 8)) := by decide
theorem m_feed {μ : Mm} {st : Tp} (h : TpM μ st) (p1 p2 p3 : Int64) : ∃ τ, f_X12_feed p1 p2 p3 μ = some (nI (rnT (f24 p1 p2 p3) st 24).2, τ) ∧ TpM τ (rnT (f24 p1 p2 p3) st 24) ∧ FdM (pI μ 0 0 0) τ := by
  unfold f_X12_feed
  obtain ⟨μ1, e1⟩ : ∃ y, y = pI μ 0 0 0 := ⟨_, rfl⟩
  rw [bn_e, jn_e2, ← e1]
  obtain ⟨kx, ek⟩ : ∃ k : Mm → Option (Int32 × Mm), k = (fun (σ_120 : Mm) => some ((gI σ_120 0 1), σ_120)) := ⟨_, rfl⟩
  rw [← ek]
  have h1 : TpM μ1 st := by
    rw [e1]
    exact ⟨h.1, by rw [gI_pI_n (Or.inr (by decide))]; exact h.2.1, fun k hk => by rw [gI_pI_n (Or.inl (by decide))]; exact h.2.2 k hk⟩
  have q := lq2_inv (F := F_X12_feed_8 p1 p2 p3 kx) (fun i => nI i) (fun i b => TpM b (rnT (f24 p1 p2 p3) st i) ∧ FdM μ1 b) 24 kx ?_ ?_ (n := 1000000) (b0 := μ1) ?_ (by omega)
  · obtain ⟨c, hc, e⟩ := q
    refine ⟨c, ?_, hc⟩
    have e : lq2 (F_X12_feed_8 p1 p2 p3 kx) 1000000 0 μ1 = kx c := e
    rw [e, ek]
    show some (gI c 0 1, c) = _
    rw [hc.1.2.1]
  · intro rc i b hi hb
    have l1 : nI i < 24 := nI_lt (a := i) (b := 24) hi (by omega)
    have key : ∀ (y : Int64), ((lushr y ((56 : Int32) - ((8 : Int32) * (nI i &&& (7 : Int32))))) &&& (255 : Int64)).toInt32 = byI y (i % 8) := fun y => by rw [f24_x i hi]; rfl
    unfold F_X12_feed_8
    rw [if_pos l1, jn_e2]
    by_cases z1 : i < 8
    · rw [if_pos (show nI i < 8 from nI_lt (a := i) (b := 8) z1 (by omega))]
      obtain ⟨τ, t1, t2, t3⟩ := m_fd hb.1 rc (nI i) p1
      refine ⟨τ, ⟨?_, hb.2.tr t3⟩, by rw [t1, nI_1]⟩
      rw [key, show i % 8 = i by omega] at t2
      rw [rnT_s, show f24 p1 p2 p3 i = byI p1 i from if_pos z1]
      exact t2
    · rw [if_neg (show ¬ nI i < 8 from nI_nlt (a := i) (b := 8) (by omega) (by omega))]
      by_cases z2 : i < 16
      · rw [if_pos (show nI i < 16 from nI_lt (a := i) (b := 16) z2 (by omega))]
        obtain ⟨τ, t1, t2, t3⟩ := m_fd hb.1 rc (nI i) p2
        refine ⟨τ, ⟨?_, hb.2.tr t3⟩, by rw [t1, nI_1]⟩
        rw [key, show i % 8 = i - 8 by omega] at t2
        rw [rnT_s, show f24 p1 p2 p3 i = byI p2 (i - 8) from (if_neg z1).trans (if_pos z2)]
        exact t2
      · rw [if_neg (show ¬ nI i < 16 from nI_nlt (a := i) (b := 16) (by omega) (by omega))]
        obtain ⟨τ, t1, t2, t3⟩ := m_fd hb.1 rc (nI i) p3
        refine ⟨τ, ⟨?_, hb.2.tr t3⟩, by rw [t1, nI_1]⟩
        rw [key, show i % 8 = i - 16 by omega] at t2
        rw [rnT_s, show f24 p1 p2 p3 i = byI p3 (i - 16) from (if_neg z1).trans (if_neg z2)]
        exact t2
  · intro rc b hb
    unfold F_X12_feed_8
    rw [if_neg (by decide)]
  · exact ⟨h1, FdM.rf⟩
theorem v_feed {σ μ : Mm} (h : Iv σ μ) (p1 p2 p3 : Int64) : AnI (f_X11_feed p1 p2 p3) (f_X12_feed p1 p2 p3) σ μ := by
  obtain ⟨t, T, D, N, a, l, w, s, n, hT, hN, hL, hA, hD, hW, hR, hM⟩ := h
  have ta := town_a hT.2.2.2.1.1
  have la := hL.1
  obtain ⟨w1, w2, w3, w4, w5, w6⟩ := id hW
  have tc : TpC σ (s, n) := ⟨w3, w4, fun k hk => ⟨(w6 k hk).1, (w6 k hk).2.2⟩⟩
  have tm : TpM μ (s, n) := ⟨w3, w5, fun k hk => ⟨(w6 k hk).2.1, (w6 k hk).2.2⟩⟩
  obtain ⟨σ1, a1, a2, a3⟩ := s_addBytes tc p1
  obtain ⟨σ2, b1, b2, b3⟩ := s_addBytes a2 p2
  obtain ⟨σ3, c1, c2, c3⟩ := s_addBytes b2 p3
  obtain ⟨μ3, d1, d2, d3⟩ := m_feed tm p1 p2 p3
  have es : rnT (byI p3) (rnT (byI p2) (rnT (byI p1) (s, n) 8) 8) 8 = rnT (f24 p1 p2 p3) (s, n) 24 := by
    rw [show (24 : Nat) = 8 + (8 + 8) from rfl, rnT_add, rnT_add]
    have g1 : rnT (f24 p1 p2 p3) (s, n) 8 = rnT (byI p1) (s, n) 8 := rnT_congr (fun i hi => if_pos hi)
    rw [g1]
    have g2 : ∀ st, rnT (fun i => f24 p1 p2 p3 (8 + i)) st 8 = rnT (byI p2) st 8 := fun st => rnT_congr (fun i hi => by
      show f24 p1 p2 p3 (8 + i) = _
      unfold f24
      rw [if_neg (by omega), if_pos (by omega), show 8 + i - 8 = i by omega])
    rw [g2]
    refine (rnT_congr (fun i hi => ?_)).symm
    show f24 p1 p2 p3 (8 + (8 + i)) = _
    unfold f24
    rw [if_neg (by omega), if_neg (by omega), show 8 + (8 + i) - 16 = i by omega]
  rw [es] at c2
  generalize rnT (f24 p1 p2 p3) (s, n) 24 = st at c2 d1 d2
  obtain ⟨s', n'⟩ := st
  have fc := (a3.tr b3).tr c3
  have o : ∀ b, b ≠ 1 → b ≠ 2 → ∀ k, gI σ3 b k = gI σ b k := fc.1
  have q : ∀ b, b ≠ 0 → b ≠ 1 → ∀ k, gI μ3 b k = gI μ b k := fun b h1 h2 k => (d3.1 b h1 h2 k).trans (gI_pI_n (Or.inl h1))
  have q0 : ∀ j, 1 < j → gI μ3 0 j = gI μ 0 j := fun j hj => (d3.2.1 j (by omega)).trans (gI_pI_n (Or.inr (by omega)))
  refine ⟨nI n', σ3, μ3, ?_, d1, t, T, D, N, a, l, w, s', n', hT.fr (fun b h1 h2 h3 k => o b (by omega) (by omega) k) (fun b _ _ k => fc.2.1 b k) (fc.2.2 _ _) (fc.2.2 _ _) ⟨fun x h1 h2 k _ => q x (by omega) (by omega) k, fun k _ => q 27 (by omega) (by omega) k⟩ (fun x hx k _ => d3.2.2.1 x k), hN.fr hT.1 (fun b h1 h2 k => o b (by omega) (by omega) k) (fun j _ => q 36 (by omega) (by omega) j) (q0 56 (by omega)) (q0 57 (by omega)), hL.fr (fun b h1 h2 k => o b (by omega) (by omega) k) (fc.2.2 _ _) (fc.2.2 _ _) (q 28 (by omega) (by omega) _) (fun b h1 h2 k _ => q b (by omega) (by omega) k), hA.fr (fun b h1 h2 k => o b (by omega) (by omega) k) (q 32 (by omega) (by omega) _) (fun b h1 h2 k _ => q b (by omega) (by omega) k), hD.fr (o 196 (by omega) (by omega)) (o 206 (by omega) (by omega)), ⟨fun i hi => by rw [fc.2.1]; exact w1 i hi, w2.fr (fun b hb k => o b (by omega) (by omega) k), c2.1, c2.2.1, d2.2.1, fun k hk => ⟨(c2.2.2 k hk).1, (d2.2.2 k hk).1, (c2.2.2 k hk).2⟩⟩, hR.fr hT.1 (fun b h1 h2 k => o b (by omega) (by omega) k) (q0 55 (by omega)) (q 40 (by omega) (by omega)), fun i hi => (hM i hi).fr hT.1 hi (fun b h1 h2 k => o b (by unfold markAt at h1; omega) (by unfold markAt at h1; omega) k) (q 41 (by omega) (by omega) _) (fun k _ _ => q 39 (by omega) (by omega) k) (q 28 (by omega) (by omega) _) (fun b h1 h2 k _ _ => q b (by omega) (by omega) k) (q 32 (by omega) (by omega) _) (fun b h1 h2 k _ _ => q b (by omega) (by omega) k)⟩
  unfold f_X11_feed
  rw [cl_of _ a1, cl_of _ b1, cl_of _ c1, c2.2.1]
