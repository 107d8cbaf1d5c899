/-- a walker is told anew -/
theorem TB.walker {σ μ σ' μ' : Mm} {t P L W c a b m : Nat} (h : TB σ μ t P L W) (hc : c ≤ 3) (ha : a < P) (hbb : b < P) (hm : m ≤ 30) (hP : NmP σ' μ' t 1 P) (hW : NmW σ' μ' t 1 (W + 1)) (e1 : gI σ' t 1 = nI L) (e2 : gI μ' 2 5 = nI L) (e3 : gI σ' t 3 = gI μ' 2 7) (e4 : gI σ' t 4 = gI μ' 0 24) (n9 : gI σ' (t + 9) W = nI c ∧ gI σ' (t + 10) W = nI a ∧ gI σ' (t + 11) W = nI b ∧ gI σ' (t + 12) W = nI m) (n8 : gI μ' 8 (6 + W) = nI c ∧ gI μ' 9 (6 + W) = nI a ∧ gI μ' 10 (6 + W) = nI b ∧ gI μ' 11 (6 + W) = nI m) (cl : ∀ x, x = 5 ∨ x = 6 ∨ x = 7 → ∀ k, k < L → gI σ' (t + x) k = gI σ (t + x) k ∧ gI μ' x (8 + k) = gI μ x (8 + k)) (cw : ∀ x, x = 8 ∨ x = 9 ∨ x = 10 ∨ x = 11 → ∀ k, k < W → gI σ' (t + (x + 1)) k = gI σ (t + (x + 1)) k ∧ gI μ' x (6 + k) = gI μ x (6 + k)) : TB σ' μ' t P L (W + 1) := by
  obtain ⟨-, -, h3, -, -, -, -, h8, h9⟩ := h
  refine ⟨hP, hW, h3, e1, e2, e3, e4, fun k hk => ?_, fun k hk => ?_⟩
  · obtain ⟨a', b', m', q1, q2, q3, q4, q5, q6⟩ := h8 k hk
    refine ⟨a', b', m', q1, q2, q3, q4, ?_⟩
    rw [(cl 5 (by omega) k hk).1, (cl 6 (by omega) k hk).1, (cl 7 (by omega) k hk).1, (cl 5 (by omega) k hk).2, (cl 6 (by omega) k hk).2, (cl 7 (by omega) k hk).2]
    exact ⟨q5, q6⟩
  · by_cases z : k = W
    · subst z; exact ⟨c, a, b, m, hc, ha, hbb, hm, n9, n8⟩
    · obtain ⟨c', a', b', m', q1, q2, q3, q4, q5, q6⟩ := h9 k (by omega)
      refine ⟨c', a', b', m', q1, q2, q3, q4, ?_⟩
      have z8 := cw 8 (by omega) k (by omega)
      have z9 := cw 9 (by omega) k (by omega)
      have z10 := cw 10 (by omega) k (by omega)
      have z11 := cw 11 (by omega) k (by omega)
      rw [z8.1, z9.1, z10.1, z11.1, z8.2, z9.2, z10.2, z11.2]
      exact ⟨q5, q6⟩
theorem s_addWalker {σ : Mm} {t W : Nat} (ht : isTown t = true) (h2 : gI σ t 2 = nI W) (hW : W < 6) (nm : Int64) (x y z w : Int32) : f_X9_addWalker t nm x y z w σ = some (0, pI (pI (pI (pI (pI (pL σ (t + 8) W nm) (t + 9) W x) (t + 10) W y) (t + 11) W z) (t + 12) W w) t 2 (nI (W + 1))) := by
  unfold f_X9_addWalker
  have g0 : ∀ v, gI (pL σ (t + 8) W v) t 2 = nI W := fun v => h2
  have g1 : ∀ v a, gI (pI (pL σ (t + 8) W v) (t + 9) W a) t 2 = nI W := fun v a => by rw [gI_pI_n (Or.inl (by omega))]; exact g0 v
  have g2 : ∀ v a b, gI (pI (pI (pL σ (t + 8) W v) (t + 9) W a) (t + 10) W b) t 2 = nI W := fun v a b => by rw [gI_pI_n (Or.inl (by omega))]; exact g1 v a
  have g3 : ∀ v a b c, gI (pI (pI (pI (pL σ (t + 8) W v) (t + 9) W a) (t + 10) W b) (t + 11) W c) t 2 = nI W := fun v a b c => by rw [gI_pI_n (Or.inl (by omega))]; exact g2 v a b
  have g4 : ∀ v a b c d, gI (pI (pI (pI (pI (pL σ (t + 8) W v) (t + 9) W a) (t + 10) W b) (t + 11) W c) (t + 12) W d) t 2 = nI W := fun v a b c d => by rw [gI_pI_n (Or.inl (by omega))]; exact g3 v a b c
  have c1 : nI W < 6 := nI_lt (a := W) (b := 6) hW (by omega)
  rw [ck_t ht]
  simp only [h2, if_pos c1, ck_t (inb_nI (show W < 6 by omega) (by omega)), nI_tn (show W < 2147483648 by omega), bn_e, g0, g1, g2, g3, g4, nI_1]
/-- a word, then a place, which the reference notes in a row -/
theorem r_wordPlace {σ μ : Mm} {s : Nat → Nat} {n p t P i row W : Nat} (h : Rd σ μ s n p) (f0 : gI σ 3 1 = 0) (hP : NmP σ μ t 1 P) (hi : i < 23) (hr : row = 9 ∨ row = 10) (hW : W < 6) (KC : Int32 → Mm → Option (Int32 × Mm)) (KM : Mm → Option (Int32 × Mm)) :
    (∃ a σ' μ' q, a < P ∧ p ≤ q ∧ cl (f_X6_readWord (nI i) σ) (fun r61 σ61 => (if r61 = 0 then some ((0 : Int32), σ61) else cl (f_X6_readPlaceName t σ61) (fun r70 σ70 => (if r70 = (-1 : Int32) then some (0, σ70) else KC r70 σ70)))) = KC (nI a) σ' ∧ cl (f_X12_needsWord (lN (kw27 i)) μ) (fun r127 σ127 => (if r127 = 0 then some ((0 : Int32), σ127) else cl (f_X12_needsPlace (1 : Int32) σ127) (fun r135 σ135 => (if r135 = 0 then some ((0 : Int32), σ135) else cl (f_X12_nextToken (pI σ135 row (6 + W) (gI σ135 0 37))) (fun _ σ154 => KM σ154))))) = KM μ' ∧ Cf σ σ' ∧ gI σ' 3 1 = 0 ∧ Rd σ' μ' s n q ∧ (∀ c, c ≠ 0 → ∀ k, (c ≠ row ∨ k ≠ 6 + W) → gI μ' c k = gI μ c k) ∧ gI μ' row (6 + W) = nI a ∧ MT μ μ' ∧ (∀ j, j ≠ 4 → j ≠ 5 → j ≠ 6 → j ≠ 8 → j ≠ 9 → j ≠ 37 → j ≠ 39 → gI μ' 0 j = gI μ 0 j) ∧ ∀ c k, c ≠ 0 → gL μ' c k = gL μ c k) ∨
    ∃ σ' μ', cl (f_X6_readWord (nI i) σ) (fun r61 σ61 => (if r61 = 0 then some ((0 : Int32), σ61) else cl (f_X6_readPlaceName t σ61) (fun r70 σ70 => (if r70 = (-1 : Int32) then some (0, σ70) else KC r70 σ70)))) = some (0, σ') ∧ cl (f_X12_needsWord (lN (kw27 i)) μ) (fun r127 σ127 => (if r127 = 0 then some ((0 : Int32), σ127) else cl (f_X12_needsPlace (1 : Int32) σ127) (fun r135 σ135 => (if r135 = 0 then some ((0 : Int32), σ135) else cl (f_X12_nextToken (pI σ135 row (6 + W) (gI σ135 0 37))) (fun _ σ154 => KM σ154))))) = some (0, μ') ∧ No σ μ σ' μ' := by
  have p6 := hP.2.2.1
  rcases r_word h f0 hi with ⟨wd, σ1, μ1, a1, a2, a3, a4, a5, a6⟩ | ⟨σ1, μ1, a1, a2, a3⟩
  · rw [cl_of _ a1, cl_of _ a2, if_neg one0, if_neg one0]
    have tl := tk_le (s := s) h.2.2.2.1
    rcases r_place a6 (hP.fr a3 a4) with ⟨a, ha, k2, b1, b2, b3, b4⟩ | ⟨b0, σ2, μ2, b1, b2, b3⟩
    · left
      have b4 : f_X12_needsPlace 1 μ1 = some (1, pI μ1 0 37 (nI a)) := b4
      obtain ⟨μ2, e2⟩ : ∃ y, y = pI (pI μ1 0 37 (nI a)) row (6 + W) (nI a) := ⟨_, rfl⟩
      have r2 : Rd σ1 μ2 s n (tkE s n p) := a6.cm (fun k => by rw [e2, gI_pI_n (Or.inl (by omega)), gI_pI_n (Or.inl (by decide))]) (fun j hj => by rw [e2, gI_pI_n (Or.inl (by omega)), gI_pI_n (Or.inr (by omega))]) (by rw [e2]; rfl)
      obtain ⟨σ3, μ3, d1, d2, d3, d4, d5, d6⟩ := r2.nextOk a5
      have tl2 := tk_le (s := s) r2.2.2.2.1
      refine ⟨a, σ3, μ3, _, ha, ?_, ?_, ?_, a3.tr d3, d5, d6, fun c hc k hk => ?_, ?_, ?_, fun j y1 y2 y3 y4 y5 y6 y7 => ?_, fun c k hc => ?_⟩
      · omega
      · rw [cl_of _ (b1 σ3 d1), if_neg (nI_ne a (by omega))]
      · rw [cl_of _ b4, if_neg one0, gI_pI_s, ← e2, cl_of _ d2]
      · rw [d4.1 c hc, e2, gI_pI_n hk, gI_pI_n (Or.inl hc), a4.1 c hc]
      · rw [d4.1 row (by omega), e2, gI_pI_s]
      · have : MT μ1 μ2 := by rw [e2]; exact (Mf.pI (Or.inr (Or.inl rfl))).mt.tr (MT.pI (by omega) (by rcases hr with rfl | rfl <;> (show (6 : Nat) ≤ 6 + W; omega)))
        exact a4.mt.tr (this.tr d4.mt)
      · rw [d4.2.1 j y1 y2 y3 y4 y5 y6 y7, e2, gI_pI_n (Or.inl (by omega)), gI_pI_n (Or.inr y6), a4.2.1 j y1 y2 y3 y4 y5 y6 y7]
      · rw [d4.2.2.1 c k (fun y => hc y.1), e2, gL_pI, gL_pI, a4.2.2.1 c k (fun y => hc y.1)]
    · right
      have b2 : f_X12_needsPlace 1 μ1 = some (0, μ2) := b2
      rw [cl_of _ b1, if_pos rfl, cl_of _ b2, if_pos rfl]
      exact ⟨σ2, μ2, rfl, rfl, a3.tr b3.1, a4.tr b3.2.1, b3.2.2⟩
  · right
    rw [cl_of _ a1, cl_of _ a2, if_pos rfl, if_pos rfl]
    exact ⟨σ1, μ1, rfl, rfl, a3⟩
def wkC3 (t : Nat) (nc : Int64) (kd a b : Int32) (σ92 : Mm) : Option (Int32 × Mm) := cl (f_X6_readWord (6 : Int32) σ92) (fun r106 σ106 => (if r106 = 0 then some (0, σ106) else cl (f_X6_readNumber (30 : Int32) σ106) (fun r116 σ116 => (if r116 = (-1 : Int32) then some (0, σ116) else cl (f_X6_readSign (59 : Int32) σ116) (fun r130 σ130 => (if r130 = 0 then some (0, σ130) else cl (f_X9_addWalker t nc kd a b r116 σ130) (fun _ σ146 => some (0, σ146))))))))
def wkM3 (W : Nat) (nm : Int64) (σ188 : Mm) : Option (Int32 × Mm) := cl (f_X12_needsWord (47 : Int64) σ188) (fun r195 σ195 => (if r195 = 0 then some ((0 : Int32), σ195) else cl (f_X12_needsNumber (0 : Int32) (30 : Int32) σ195) (fun r205 σ205 => (if r205 = 0 then some ((0 : Int32), σ205) else cl (f_X12_closes (pI (pL (pI σ205 11 (6 + W) (gI σ205 0 37)) 4 (6 + W) nm) 2 6 ((gI (pL (pI σ205 11 (6 + W) (gI σ205 0 37)) 4 (6 + W) nm) 2 6) + (1 : Int32)))) (fun r242 σ242 => some (r242, σ242))))))
def wkC2 (t : Nat) (nc : Int64) (kd a : Int32) (σ70 : Mm) : Option (Int32 × Mm) := cl (f_X6_readWord (5 : Int32) σ70) (fun r83 σ83 => (if r83 = 0 then some (0, σ83) else cl (f_X6_readPlaceName t σ83) (fun r92 σ92 => (if r92 = (-1 : Int32) then some (0, σ92) else wkC3 t nc kd a r92 σ92))))
def wkM2 (W : Nat) (nm : Int64) (σ154 : Mm) : Option (Int32 × Mm) := cl (f_X12_needsWord (555 : Int64) σ154) (fun r161 σ161 => (if r161 = 0 then some ((0 : Int32), σ161) else cl (f_X12_needsPlace (1 : Int32) σ161) (fun r169 σ169 => (if r169 = 0 then some ((0 : Int32), σ169) else cl (f_X12_nextToken (pI σ169 10 (6 + W) (gI σ169 0 37))) (fun _ σ188 => wkM3 W nm σ188)))))
/-- walker -/
theorem r_rdWalker {σ μ : Mm} {s : Nat → Nat} {n p t P L W : Nat} (h : Rd σ μ s n p) (f0 : gI σ 3 1 = 0) (hb : TB σ μ t P L W) (k2 : tkK s n p = 2) :
    (∃ σ' μ', f_X6_readWalker t σ = some (0, σ') ∧ f_X12_readsWalker μ = some (1, μ') ∧ OkT σ μ σ' μ' s n p t) ∨ ∃ σ' μ', f_X6_readWalker t σ = some (0, σ') ∧ f_X12_readsWalker μ = some (0, μ') ∧ NoT σ μ σ' μ' t := by
  have ta := town_a hb.1.1
  obtain ⟨hP, hW, hL, q1, q2, q3, q4, q5, q6⟩ := id hb
  have p6 := hP.2.2.1
  have w6 := hW.2.2.1
  have c2 : gI σ t 2 = nI W := hW.2.2.2.1
  have m6 : gI μ 2 6 = nI W := hW.2.2.2.2.1
  have n6 : (6 : Int32).toNatClampNeg = 6 := rfl
  unfold f_X6_readWalker f_X12_readsWalker
  rw [ck_t hb.1.1, ck_t (show inb 6 8 = true from rfl), n6, bn_e, c2, m6, show (6 : Int32) + nI W = nI (6 + W) by rw [show (6 : Int32) = nI 6 from rfl, nI_add]]
  have k6 : nI W < 6 ↔ W < 6 := nI_ltI (b := 6) (by omega) (by omega)
  have k12 : nI (6 + W) = 12 ↔ W = 6 := (nI_eq (b := 12) (by omega) (by omega)).trans (by omega)
  by_cases z : W < 6
  · rw [if_pos (k6.mpr z), if_neg (fun w => by have := k12.mp w; omega)]
    obtain ⟨σ1, μ1, a1, a2, a3, a4, a5, a6⟩ := h.nextOk f0
    rw [cl_of _ a1, cl_of _ a2]
    have pq := kw_adv h.2.2.2.1 (Or.inl k2)
    rcases r_new a6 a5 (hP.fr a3 a4) (hW.fr a3 a4) with ⟨σ2, μ2, b1, b2, b3, b4, b5, b6⟩ | ⟨σ2, μ2, b1, b2, b3⟩
    · obtain ⟨o1, o2, o3, o4⟩ := b5
      have c02 : Cf σ σ2 := a3.tr o1
      have m02 : Mf μ μ2 := a4.tr o2
      rw [cl_of _ b1, if_neg one0, bn_e, cl_of _ b2, cl_of _ b3, if_neg one0, bn_e]
      obtain ⟨nc, enc⟩ : ∃ y, y = gL σ1 4 5 := ⟨_, rfl⟩
      obtain ⟨nm, enm⟩ : ∃ y, y = gL μ2 0 38 := ⟨_, rfl⟩
      rw [← enc, ← enm] at b4
      rw [← enc, ← enm]
      obtain ⟨kd1, kd2, kd3⟩ := r_kind o4
      have kd3 := kd3 (J_X12_readsWalker_103 (nI (6 + W)) μ2 nm)
      simp only [jn_e2]
      rw [kd3]
      unfold J_X12_readsWalker_103
      rw [ck_t (inb_nI (show 6 + W < 12 by omega) (by omega)), bn_e, ck_t (inb_nI (show 6 + W < 12 by omega) (by omega)), nI_tn (show 6 + W < 2147483648 by omega), gI_pI_s]
      obtain ⟨μ3, e3⟩ : ∃ y, y = pI μ2 8 (6 + W) (oI (kdT s n (tkE s n (tkE s n p)))) := ⟨_, rfl⟩
      rw [← e3]
      have r3 : Rd σ2 μ3 s n (tkE s n (tkE s n p)) := o4.cm (fun k => by rw [e3, gI_pI_n (Or.inl (by decide))]) (fun j _ => by rw [e3, gI_pI_n (Or.inl (by decide))]) (by rw [e3]; rfl)
      have mt3 : MT μ μ3 := by rw [e3]; exact m02.mt.tr (MT.pI (by omega) (by show (6 : Nat) ≤ 6 + W; omega))
      cases e : kdT s n (tkE s n (tkE s n p)) with
      | none =>
        right
        obtain ⟨σ', μ', g1, g2, g3, g4, g5⟩ := r3.bad (k := 1) (by omega) (by omega)
        have g1 : f_X6_wrong 1 σ2 = some (0, σ') := g1
        have g2 : f_X12_fails 1 μ3 = some (0, μ') := g2
        rw [cl_of _ (kd2 e σ' g1), if_pos rfl, oI_none, if_pos (show (-1 : Int32) < 0 by decide), cl_of _ g2]
        exact ⟨σ', μ', rfl, rfl, (c02.tr g3).ct, mt3.tr g4.mt, g5⟩
      | some kd =>
        have kd3' := (kdT_le e).1
        obtain ⟨σ4, μ4, d1, d2, d3, d4, d5, d6⟩ := r3.nextOk o3
        have tl2 := tk_le (s := s) o4.2.2.2.1
        rw [cl_of _ (kd1 kd e σ4 d1), if_neg (nI_ne kd (by omega)), oI_some, if_neg (nI_pos (by omega)), cl_of _ d2]
        have c04 : Cf σ σ4 := c02.tr d3
        have mt4 : MT μ μ4 := mt3.tr d4.mt
        have i4 : ∀ c, c ≠ 0 → ∀ k, (c ≠ 8 ∨ k ≠ 6 + W) → gI μ4 c k = gI μ c k := fun c hc k hk => by rw [d4.1 c hc, e3, gI_pI_n hk, m02.1 c hc]
        have g8 : gI μ4 8 (6 + W) = nI kd := by rw [d4.1 8 (by decide), e3, gI_pI_s, e, oI_some]
        have j4 : ∀ j, j ≠ 4 → j ≠ 5 → j ≠ 6 → j ≠ 8 → j ≠ 9 → j ≠ 37 → j ≠ 39 → gI μ4 0 j = gI μ 0 j := fun j y1 y2 y3 y4 y5 y6 y7 => by rw [d4.2.1 j y1 y2 y3 y4 y5 y6 y7, e3, gI_pI_n (Or.inl (by decide)), m02.2.1 j y1 y2 y3 y4 y5 y6 y7]
        have l4 : ∀ c k, c ≠ 0 → gL μ4 c k = gL μ c k := fun c k hc => by rw [d4.2.2.1 c k (fun y => hc y.1), e3, gL_pI, m02.2.2.1 c k (fun y => hc y.1)]
        have hP4 : NmP σ4 μ4 t 1 P := by
          obtain ⟨y1, y2, y3, y4, y5, y6⟩ := hP
          refine ⟨y1, y2, y3, by rw [c04.1 t (by omega) (by omega)]; exact y4, by rw [i4 2 (by decide) _ (Or.inl (by decide))]; exact y5, fun k hk => ?_⟩
          rw [l4 3 _ (by decide), c04.2.1 (t + 4) (by omega)]; exact y6 k hk
        simp only [jn_e2, ck_t (inb_nI (show 6 + W < 12 by omega) (by omega)), nI_tn (show 6 + W < 2147483648 by omega), bn_e, ck_t (show inb 6 8 = true from rfl), n6]
        -- from
        have A := r_wordPlace (W := W) (row := 9) d6 d5 hP4 (i := 4) (by omega) (Or.inl rfl) z (wkC2 t nc (nI kd)) (wkM2 W nm)
        rcases A with ⟨a, σ5, μ5, q5', ha, pq5, A1, A2, A3, A4, A5, A6, A7, A8, A9, A10⟩ | ⟨σ5, μ5, A1, A2, A3⟩
        · have hP5 : NmP σ5 μ5 t 1 P := by
            obtain ⟨y1, y2, y3, y4, y5, y6⟩ := hP4
            refine ⟨y1, y2, y3, by rw [A3.1 t (by omega) (by omega)]; exact y4, by rw [A6 2 (by decide) _ (Or.inl (by decide))]; exact y5, fun k hk => ?_⟩
            rw [A10 3 _ (by decide), A3.2.1 (t + 4) (by omega)]; exact y6 k hk
          have B := r_wordPlace (W := W) (row := 10) A5 A4 hP5 (i := 5) (by omega) (Or.inr rfl) z (wkC3 t nc (nI kd) (nI a)) (wkM3 W nm)
          rcases B with ⟨b, σ6, μ6, q6', hbP, pq6, B1, B2, B3, B4, B5, B6, B7, B8, B9, B10⟩ | ⟨σ6, μ6, B1, B2, B3⟩
          · have c06 : Cf σ σ6 := c04.tr (A3.tr B3)
            have mt6 : MT μ μ6 := mt4.tr (A8.tr B8)
            have i6 : ∀ c, c ≠ 0 → ∀ k, (k ≠ 6 + W ∨ (c ≠ 8 ∧ c ≠ 9 ∧ c ≠ 10)) → gI μ6 c k = gI μ c k := fun c hc k hk => by rw [B6 c hc k (by omega), A6 c hc k (by omega), i4 c hc k (by omega)]
            have j6 : ∀ j, j ≠ 4 → j ≠ 5 → j ≠ 6 → j ≠ 8 → j ≠ 9 → j ≠ 37 → j ≠ 39 → gI μ6 0 j = gI μ 0 j := fun j y1 y2 y3 y4 y5 y6 y7 => by rw [B9 j y1 y2 y3 y4 y5 y6 y7, A9 j y1 y2 y3 y4 y5 y6 y7, j4 j y1 y2 y3 y4 y5 y6 y7]
            have l6 : ∀ c k, c ≠ 0 → gL μ6 c k = gL μ c k := fun c k hc => by rw [B10 c k hc, A10 c k hc, l4 c k hc]
            have e8 : gI μ6 8 (6 + W) = nI kd := by rw [B6 8 (by decide) _ (Or.inl (by decide)), A6 8 (by decide) _ (Or.inl (by decide))]; exact g8
            have e9 : gI μ6 9 (6 + W) = nI a := by rw [B6 9 (by decide) _ (Or.inl (by decide))]; exact A7
            have fin : (∃ σ' μ', wkC3 t nc (nI kd) (nI a) (nI b) σ6 = some (0, σ') ∧ wkM3 W nm μ6 = some (1, μ') ∧ OkT σ μ σ' μ' s n p t) ∨ ∃ σ' μ', wkC3 t nc (nI kd) (nI a) (nI b) σ6 = some (0, σ') ∧ wkM3 W nm μ6 = some (0, μ') ∧ NoT σ μ σ' μ' t := by
                unfold wkC3 wkM3
                rcases r_word B5 B4 (i := 6) (by omega) with ⟨wd, σ7, μ7, g1, g2, g3, g4, g5, g6⟩ | ⟨σ7, μ7, g1, g2, g3⟩
                · have g1 : f_X6_readWord 6 σ6 = some (1, σ7) := g1
                  have g2 : f_X12_needsWord 47 μ6 = some (1, μ7) := g2
                  rw [cl_of _ g1, if_neg one0, cl_of _ g2, if_neg one0]
                  have tl7 := tk_le (s := s) B5.2.2.2.1
                  rcases r_number g6 g5 (m := 30) (by omega) with ⟨k3, vm, σ8, μ8, w1, w2, w3, w4, w5, w6, w7⟩ | ⟨σ8, μ8, w1, w2, w3⟩
                  · obtain ⟨v, ev⟩ : ∃ v, v = tkV s n (tkE s n q6') := ⟨_, rfl⟩
                    rw [← ev] at w1 w3 vm
                    have w1 : f_X6_readNumber 30 σ7 = some (nI v, σ8) := w1
                    have w2 : f_X12_needsNumber 0 30 μ7 = some (1, μ8) := w2
                    have m68 : Mf μ6 μ8 := g4.tr w5
                    have m26 : gI (pL (pI μ8 11 (6 + W) (gI μ8 0 37)) 4 (6 + W) nm) 2 6 = nI W := by rw [gI_pL, gI_pI_n (Or.inl (by decide)), m68.1 2 (by decide), i6 2 (by decide) _ (by omega)]; exact m6
                    rw [cl_of _ w1, if_neg (nI_ne v (by omega)), cl_of _ w2, if_neg one0, m26, nI_1, w3]
                    obtain ⟨μ9, e9'⟩ : ∃ y, y = pI (pL (pI μ8 11 (6 + W) (nI v)) 4 (6 + W) nm) 2 6 (nI (W + 1)) := ⟨_, rfl⟩
                    rw [← e9']
                    have r9 : Rd σ8 μ9 s n _ := w7.cm (fun k => by rw [e9', gI_pI_n (Or.inl (by decide)), gI_pL, gI_pI_n (Or.inl (by decide))]) (fun j _ => by rw [e9', gI_pI_n (Or.inl (by decide)), gI_pL, gI_pI_n (Or.inl (by decide))]) (by rw [e9', gL_pI, gL_pL_n (Or.inl (by decide)), gL_pI])
                    have mt9 : MT μ μ9 := by rw [e9']; exact mt6.tr (m68.mt.tr ((MT.pI (by omega) (by show (6 : Nat) ≤ 6 + W; omega)).tr ((MT.pL (Or.inr rfl) (by omega)).tr (MT.pI (by omega) (by show (4 : Nat) ≤ 6; omega)))))
                    have tl8 := tk_le (s := s) g6.2.2.2.1
                    rcases r_close r9 w6 with ⟨sg, σ10, μ10, x1, x2, x3, x4, x5, x6⟩ | ⟨σ10, μ10, x1, x2, x3, x4, x5⟩
                    · left
                      have c10 : Cf σ σ10 := c06.tr (g3.tr (w4.tr x3))
                      have l10 : gI σ10 t 2 = nI W := by rw [c10.1 t (by omega) (by omega)]; exact c2
                      rw [cl_of _ x1, if_neg one0, cl_of _ (s_addWalker hb.1.1 l10 z _ _ _ _ _), cl_of _ x2]
                      obtain ⟨σ11, e11⟩ : ∃ y, y = pI (pI (pI (pI (pI (pL σ10 (t + 8) W nc) (t + 9) W (nI kd)) (t + 10) W (nI a)) (t + 11) W (nI b)) (t + 12) W (nI v)) t 2 (nI (W + 1)) := ⟨_, rfl⟩
                      rw [← e11]
                      have i11 : ∀ c k, (c ≠ t ∨ k ≠ 2) → (k ≠ W ∨ (c ≠ t + 9 ∧ c ≠ t + 10 ∧ c ≠ t + 11 ∧ c ≠ t + 12)) → gI σ11 c k = gI σ10 c k := fun c k h1 h2 => by rw [e11, gI_pI_n h1, gI_pI_n (by omega), gI_pI_n (by omega), gI_pI_n (by omega), gI_pI_n (by omega), gI_pL]
                      have l11 : ∀ c k, (c ≠ t + 8 ∨ k ≠ W) → gL σ11 c k = gL σ10 c k := fun c k hk => by rw [e11, gL_pI, gL_pI, gL_pI, gL_pI, gL_pI, gL_pL_n hk]
                      have ct : CT t σ σ11 := by rw [e11]; exact c10.ct.tr ((CT.pL (by omega)).tr ((CT.pI (by omega)).tr ((CT.pI (by omega)).tr ((CT.pI (by omega)).tr ((CT.pI (by omega)).tr (CT.pI (by omega)))))))
                      have i10 : ∀ c, c ≠ 0 → ∀ k, (c ≠ 2 ∨ k ≠ 6) → (k ≠ 6 + W ∨ (c ≠ 8 ∧ c ≠ 9 ∧ c ≠ 10 ∧ c ≠ 11)) → gI μ10 c k = gI μ c k := fun c h0 k h1 h2 => by rw [x4.1 c h0, e9', gI_pI_n h1, gI_pL, gI_pI_n (by omega), m68.1 c h0, i6 c h0 k (by omega)]
                      have j10 : ∀ j, j ≠ 4 → j ≠ 5 → j ≠ 6 → j ≠ 8 → j ≠ 9 → j ≠ 37 → j ≠ 39 → gI μ10 0 j = gI μ 0 j := fun j y1 y2 y3 y4 y5 y6 y7 => by rw [x4.2.1 j y1 y2 y3 y4 y5 y6 y7, e9', gI_pI_n (Or.inl (by decide)), gI_pL, gI_pI_n (Or.inl (by decide)), m68.2.1 j y1 y2 y3 y4 y5 y6 y7, j6 j y1 y2 y3 y4 y5 y6 y7]
                      have ml : ∀ c k, c ≠ 0 → (c ≠ 4 ∨ k ≠ 6 + W) → gL μ10 c k = gL μ c k := fun c k h0 h1 => by rw [x4.2.2.1 c k (fun y => h0 y.1), e9', gL_pI, gL_pL_n h1, gL_pI, m68.2.2.1 c k (fun y => h0 y.1), l6 c k h0]
                      have hP' : NmP σ11 μ10 t 1 P := by
                        obtain ⟨y1, y2, y3, y4, y5, y6⟩ := hP
                        refine ⟨y1, y2, y3, by rw [i11 _ _ (by omega) (by omega), c10.1 t (by omega) (by omega)]; exact y4, by rw [i10 _ (by decide) _ (by omega) (by omega)]; exact y5, fun k hk => ?_⟩
                        rw [l11 _ _ (by omega), ml 3 _ (by decide) (by omega), c10.2.1 (t + 4) (by omega)]
                        exact y6 k hk
                      have hW' : NmW σ11 μ10 t 1 (W + 1) := by
                        obtain ⟨y1, y2, y3, y4, y5, y6⟩ := hW
                        refine ⟨y1, y2, by omega, by rw [e11, gI_pI_s], by rw [x4.1 2 (by decide), e9']; exact gI_pI_s _ _ _ _, fun k hk => ?_⟩
                        by_cases y : k = W
                        · subst y
                          rw [e11, gL_pI, gL_pI, gL_pI, gL_pI, gL_pI, gL_pL_s, x4.2.2.1 4 _ (by omega), e9', gL_pI, gL_pL_s]
                          exact b4
                        · rw [l11 _ _ (by omega), ml 4 _ (by decide) (by omega), c10.2.1 (t + 8) (by omega)]
                          exact y6 k (by omega)
                      refine ⟨σ11, μ10, rfl, rfl, ct, mt9.tr x4.mt, by rw [i11 _ _ (by omega) (by omega)]; exact x5, ⟨fun k => by rw [i11 _ _ (by omega) (by omega)]; exact c10.1 _ (by omega) (by omega) k, fun k => by rw [i11 _ _ (by omega) (by omega)]; exact c10.1 _ (by omega) (by omega) k, i10 12 (by decide) _ (by omega) (by omega), i10 13 (by decide) _ (by omega) (by omega), fun k => i10 14 (by decide) k (by omega) (by omega), j10 23 (by decide) (by decide) (by decide) (by decide) (by decide) (by decide) (by decide)⟩, _, P, L, W + 1, ?_, x6.ct hb.1.1 (fun c hc k => i11 c k (by omega) (by omega)) (fun c hc k => l11 c k (by omega)), ?_⟩
                      · have := sg_lt r9.2.2.2.1 sg; omega
                      · refine hb.walker kd3' ha hbP vm hP' hW' ?_ ?_ ?_ ?_ ⟨?_, ?_, ?_, ?_⟩ ⟨?_, ?_, ?_, ?_⟩ (fun c hc k hk => ⟨?_, i10 c (by omega) _ (by omega) (by omega)⟩) (fun c hc k hk => ⟨?_, i10 c (by omega) _ (by omega) (by omega)⟩)
                        · rw [i11 _ _ (by omega) (by omega), c10.1 t (by omega) (by omega)]; exact q1
                        · rw [i10 2 (by decide) _ (by omega) (by omega)]; exact q2
                        · rw [i11 _ _ (by omega) (by omega), c10.1 t (by omega) (by omega), i10 2 (by decide) 7 (by omega) (by omega)]; exact q3
                        · rw [i11 _ _ (by omega) (by omega), c10.1 t (by omega) (by omega), j10 24 (by decide) (by decide) (by decide) (by decide) (by decide) (by decide) (by decide)]; exact q4
                        · rw [e11, gI_pI_n (Or.inl (by omega)), gI_pI_n (Or.inl (by omega)), gI_pI_n (Or.inl (by omega)), gI_pI_n (Or.inl (by omega)), gI_pI_s]
                        · rw [e11, gI_pI_n (Or.inl (by omega)), gI_pI_n (Or.inl (by omega)), gI_pI_n (Or.inl (by omega)), gI_pI_s]
                        · rw [e11, gI_pI_n (Or.inl (by omega)), gI_pI_n (Or.inl (by omega)), gI_pI_s]
                        · rw [e11, gI_pI_n (Or.inl (by omega)), gI_pI_s]
                        · rw [x4.1 8 (by decide), e9', gI_pI_n (Or.inl (by decide)), gI_pL, gI_pI_n (Or.inl (by decide)), m68.1 8 (by decide)]; exact e8
                        · rw [x4.1 9 (by decide), e9', gI_pI_n (Or.inl (by decide)), gI_pL, gI_pI_n (Or.inl (by decide)), m68.1 9 (by decide)]; exact e9
                        · rw [x4.1 10 (by decide), e9', gI_pI_n (Or.inl (by decide)), gI_pL, gI_pI_n (Or.inl (by decide)), m68.1 10 (by decide)]; exact B7
                        · rw [x4.1 11 (by decide), e9', gI_pI_n (Or.inl (by decide)), gI_pL, gI_pI_s]
                        · rw [i11 _ _ (by omega) (by omega), c10.1 _ (by omega) (by omega)]
                        · rw [i11 _ _ (by omega) (by omega), c10.1 _ (by omega) (by omega)]
                    · right
                      rw [cl_of _ x1, if_pos rfl, cl_of _ x2]
                      exact ⟨σ10, μ10, rfl, rfl, (c06.tr (g3.tr (w4.tr x3))).ct, mt9.tr x4.mt, x5⟩
                  · right
                    have w1 : f_X6_readNumber 30 σ7 = some (-1, σ8) := w1
                    have w2 : f_X12_needsNumber 0 30 μ7 = some (0, μ8) := w2
                    rw [cl_of _ w1, if_pos rfl, cl_of _ w2, if_pos rfl]
                    exact ⟨σ8, μ8, rfl, rfl, (c06.tr (g3.tr w3.1)).ct, mt6.tr (g4.tr w3.2.1).mt, w3.2.2⟩
                · right
                  have g1 : f_X6_readWord 6 σ6 = some (0, σ7) := g1
                  have g2 : f_X12_needsWord 47 μ6 = some (0, μ7) := g2
                  rw [cl_of _ g1, if_pos rfl, cl_of _ g2, if_pos rfl]
                  exact ⟨σ7, μ7, rfl, rfl, (c06.tr g3.1).ct, mt6.tr g3.2.1.mt, g3.2.2⟩
            rcases fin with ⟨σ', μ', x1, x2, x3⟩ | ⟨σ', μ', x1, x2, x3⟩
            · left; exact ⟨σ', μ', A1.trans (B1.trans x1), A2.trans (B2.trans x2), x3⟩
            · right; exact ⟨σ', μ', A1.trans (B1.trans x1), A2.trans (B2.trans x2), x3⟩
          · right
            exact ⟨σ6, μ6, A1.trans B1, A2.trans B2, (c04.tr (A3.tr B3.1)).ct, mt4.tr (A8.tr B3.2.1.mt), B3.2.2⟩
        · right
          exact ⟨σ5, μ5, A1, A2, (c04.tr A3.1).ct, mt4.tr A3.2.1.mt, A3.2.2⟩
    · right
      rw [cl_of _ b1, if_pos rfl, cl_of _ b2, if_pos rfl]
      exact ⟨σ2, μ2, rfl, rfl, (a3.tr b3.1).ct, (a4.tr b3.2.1).mt, b3.2.2⟩
  · right
    rw [if_neg (fun w => z (k6.mp w)), if_pos (k12.mpr (by omega))]
    obtain ⟨σ', μ', a1, a2, a3, a4, a5⟩ := h.bad (k := 5) (by omega) (by omega)
    have a1 : f_X6_wrong 5 σ = some (0, σ') := a1
    have a2 : f_X12_fails 5 μ = some (0, μ') := a2
    rw [cl_of _ a1, cl_of _ a2]
    exact ⟨σ', μ', rfl, rfl, a3.ct, a4.mt, a5⟩
