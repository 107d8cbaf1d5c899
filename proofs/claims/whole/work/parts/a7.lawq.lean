theorem lev_step {t n F k : Nat} {s : Nat → Nat} (ht : isTown t = true) (ih : LevOk t s n F (k + 1)) (hk : k < 4) : LevOk t s n (F + 1) k := by
  intro σ μ p len c d o hd hF hp0 hL ho hp h0
  show (∃ σ' μ' q len' c' E cm, fb_X6_readLevel (fLP F).1 (fLP F).2 (t + 1) (nI k) (nI d) σ = some (1, σ') ∧ _) ∨ (∃ σ' μ', fb_X6_readLevel (fLP F).1 (fLP F).2 (t + 1) (nI k) (nI d) σ = some (0, σ') ∧ _)
  unfold fb_X6_readLevel
  rw [ck_t (law_a ht), if_pos (show nI k < 4 from nI_lt (a := k) (b := 4) hk (by omega)), nI_1]
  rcases ih σ μ p len c d o hd (by omega) hp0 hL ho hp (fun h => h0 (by omega)) with ⟨σ1, μ1, q, len1, c1, E1, cm, b1, L1, b2, b3, b4, S1, b5, b6, b7, b8⟩ | ⟨σ1, μ1, b1, b2⟩
  · rw [cl_of _ b1, if_neg one0, jn_e2]
    have qn : q ≤ n := L1.1.2.2.2.1
    have n1 : n ≤ 1000 := L1.1.1.1
    have hc : ∃ cm1, c16 k d (gI μ 16 d) μ1 cm1 ∧ (k = 1 → cm1 = decide (0 < 0)) ∧ noK (k + 1) s n q cm1 := by
      by_cases k0 : k = 0
      · exact ⟨cm, ⟨fun _ => b5.1 (by omega), fun z => absurd z (by omega)⟩, fun z => by omega, b8⟩
      · have u : gI μ1 16 d = gI μ 16 d := b5.2 (by omega)
        by_cases k1 : k = 1
        · refine ⟨false, ⟨fun _ => ?_, fun z => absurd z (by omega)⟩, fun _ => rfl, ⟨fun z => b8.1 z, fun z => b8.2.1 z, fun z => absurd z (by omega), fun z => absurd z (by omega)⟩⟩
          rw [u, h0 (by omega)]; rfl
        · exact ⟨cm, ⟨fun z => absurd z (by omega), fun _ => u⟩, fun z => absurd z k1, b8⟩
    obtain ⟨cm1, e1, e2, e3⟩ := hc
    rcases lev_loop ht ih hk hd (by omega) hp len c (gI μ 16 d) 1000000 0 σ1 μ1 q len1 c1 E1 cm1 (by omega) (by omega) L1 (S1.op (by omega) ho) (by omega) (by omega) (b6.mono (by omega)) (acS_0 hk hp b7) e1 e2 e3 with ⟨σ', μ', q', len', c', E', cm', f1, f2, f3, f4, f5, f6, f7⟩ | ⟨σ', μ', f1, f2⟩
    · have ps := f3.pos
      exact Or.inl ⟨σ', μ', q', len', c', E', cm', f1, f2, by omega, by omega, by omega, S1.tr f3, f4, f5, f6, f7⟩
    · exact Or.inr ⟨σ', μ', f1, S1.sf qn f2⟩
  · rw [cl_of _ b1, if_pos rfl]
    exact Or.inr ⟨σ1, μ1, rfl, b2⟩
theorem lev_4 {t n F : Nat} {s : Nat → Nat} (ht : isTown t = true) (ih : PartOk t s n F) : LevOk t s n (F + 1) 4 := by
  intro σ μ p len c d o hd hF hp0 hL ho hp h0
  show (∃ σ' μ' q len' c' E cm, fb_X6_readLevel (fLP F).1 (fLP F).2 (t + 1) (nI 4) (nI d) σ = some (1, σ') ∧ _) ∨ (∃ σ' μ', fb_X6_readLevel (fLP F).1 (fLP F).2 (t + 1) (nI 4) (nI d) σ = some (0, σ') ∧ _)
  unfold fb_X6_readLevel
  rw [ck_t (law_a ht), if_neg (show ¬ nI 4 < 4 by decide)]
  rcases ih σ μ p len c d o hd (by omega) hp0 hL ho with ⟨σ1, μ1, q, len1, c1, E1, b1, L1, b2, b3, b4, S1, b5, b6, b7⟩ | ⟨σ1, μ1, b1, b2⟩
  · rw [cl_of _ b1]
    rw [hp] at S1
    have b7 : LkS 4 (gI μ1 14) c c1 d o E1 := ⟨b7.1, by have q := b7.2; rw [hp] at q; exact q⟩
    exact Or.inl ⟨σ1, μ1, q, len1, c1, E1, true, rfl, L1, b2, b3, b4, S1, ⟨fun z => absurd z (by omega), fun _ => b5⟩, b6.mono (by omega), b7, ⟨fun z => absurd z (by omega), fun z => absurd z (by omega), fun z => absurd z (by omega), fun z => absurd z (by omega)⟩⟩
  · rw [cl_of _ b1]
    exact Or.inr ⟨σ1, μ1, rfl, b2⟩
theorem part_step {t n F : Nat} {s : Nat → Nat} (ht : isTown t = true) (ihP : PartOk t s n F) (ihL : LevOk t s n F 0) : PartOk t s n (F + 1) := by
  intro σ μ p len c d o hd hF hp0 hL ho
  show (∃ σ' μ' q len' c' E, fb_X6_readPart (fLP F).1 (fLP F).2 (t + 1) (nI d) σ = some (1, σ') ∧ _) ∨ (∃ σ' μ', fb_X6_readPart (fLP F).1 (fLP F).2 (t + 1) (nI d) σ = some (0, σ') ∧ _)
  have hR := hL.1
  have pn : p ≤ n := hR.2.2.2.1
  have n1 : n ≤ 1000 := hR.1.1
  have tn : tkE s n p ≤ n := tkE_le hR
  have lp := hL.2.2.2.1
  have cu := hL.2.2.2.2.2.2
  have cl0 := hL.2.2.2.2.2.1
  obtain ⟨c1, c2, c3, c4, c5⟩ := c_part (d := d) hR (law_a ht) hd (fLP F).1 (fLP F).2
  have f1 := fun m => m_fail1 (d := d) hR hd m
  by_cases some1 : (∃ v, vT s n p = some v) ∨ wdT s n p 16 = true ∨ sgT s n p 40 = true
  · by_cases d5 : d = 5
    · obtain ⟨σ', μ', e1, e2⟩ := sf_at (k := 5) (w := 1) (d := d) ht hL (by omega) (by omega) (fun m => (f1 m).2 some1 d5)
      have e1 : f_X6_wrong 5 σ = _ := e1
      rw [c4 some1 d5, cl_of _ e1]
      exact Or.inr ⟨σ', μ', rfl, e2⟩
    · have d4 : d < 5 := by omega
      rcases some1 with ⟨v, hv⟩ | hn | hq
      · -- a value
        obtain ⟨v8, v3, vI, adv, ve⟩ := vT_lt pn hv
        have cb : c < 2000 := by omega
        obtain ⟨m1, m2, m3, m4, m5, m6⟩ := muP_f hR (c := c) (nI v.2)
        obtain ⟨σ1, μ1, a1, L1, S1, x14, x15, x16, xs⟩ := stp_next (B := d) ht hL adv m2 m3 (fun j _ => m4 j) (fun j _ => m1 j) m5 m6 (m_leaf1 hR d4 hL.2.2.2.2.1 cb ho hv)
        obtain ⟨σ2, e1, L2, e2, e3, e4⟩ := l_add (k := v.1) ht L1 (by omega) v3
        rw [c1 v hv d4, cl_of _ a1, cl_of _ e1]
        refine Or.inl ⟨σ2, μ1, tkE s n p, len + 1, c + 1, fun x => valS x (nI v.1), rfl, L2, adv, by omega, by omega, Sg.add (p1 := 0) S1 (by omega) e2 e3, ?_, ?_, ?_⟩
        · rw [x16, m1]
        · have q := semC_leaf (f := gI σ2 (t + 2)) (i := len) (h := 15 + 4 * d) (by rw [e4]; exact fun z => by have := (nI_ltI (b := 8) (by omega) (by omega)).mp z; omega) (by omega)
          rw [e4] at q
          exact q
        · have q := psem_leaf (g := gI μ1 14) (c := c) (d := d) (o := o) (by rw [x14]; exact vI)
          rw [x14] at q
          rw [show (fun x => valS x (nI v.1)) = (fun x => valM x (nI v.2)) from funext ve]
          exact ⟨q, dp_leaf hd (by rw [x14]; exact vI)⟩
      · -- `not`
        have adv : p < tkE s n p := kw_adv pn (Or.inl (of_decide_eq_true hn).1)
        have cb : c < 2000 := by omega
        obtain ⟨m1, m2, m3, m4, m5, m6⟩ := muO_f hR (c := c) (d := d) 30 1
        obtain ⟨σ1, μ1, a1, L1, S1, x14, x15, x16, xs⟩ := stp_next (B := d) ht hL adv m2 m3 (fun j hj => by rw [m4, if_neg (by omega)]) (fun j hj => by rw [m1, if_neg (by omega)]) m5 m6 (m_open1 hR d4 hL.2.2.2.2.1 cb true hn)
        have o1 : OpOk μ1 (fun j => if j = d + 1 then true else o j) (d + 1) := fun j h1 h2 => by
          rw [x15, m4]
          show _ = if (if j = d + 1 then true else o j) = true then (1 : Int32) else 2
          by_cases z : j = d + 1
          · rw [if_pos z, if_pos z]; rfl
          · rw [if_neg z, if_neg z]; exact ho j h1 (by omega)
        have oo : ∀ j, 0 < j → j ≤ d → (fun j => if j = d + 1 then true else o j) j = o j := fun j _ h2 => if_neg (by omega)
        have od : (fun j => if j = d + 1 then true else o j) (d + 1) = true := if_pos rfl
        have pd : popD (fun j => if j = d + 1 then true else o j) (d + 1) = popD o d := by
          show (if (if d + 1 = d + 1 then true else o (d + 1)) = true then popD _ d else d + 1) = _
          rw [if_pos (show (if d + 1 = d + 1 then true else o (d + 1)) = true from if_pos rfl)]
          exact popD_congr oo
        rw [c2 hn d4, cl_of _ a1]
        rcases ihP σ1 μ1 (tkE s n p) len (c + 1) (d + 1) _ (by omega) (by omega) (by omega) L1 o1 with ⟨σ3, μ3, q, len3, c3, E3, b1, L3, b2, b3, b4, S3, b5, b6, b7⟩ | ⟨σ3, μ3, b1, b2⟩
        · rw [cl_of _ b1, if_neg one0]
          rw [pd] at S3
          have ps := S3.pos
          obtain ⟨σ4, e1, L4, e2, e3, e4⟩ := l_add (k := 0) ht L3 (by omega) (by omega)
          have e1 : f_X1_add (t + 1) 0 σ3 = _ := e1
          rw [cl_of _ e1]
          have S13 := S1.tr (S3.low (B' := d) (by omega))
          refine Or.inl ⟨σ4, μ3, q, len3 + 1, c3, fun x => ntS (E3 x), rfl, L4, by omega, by omega, by omega, Sg.add (p1 := 0) S13 (by omega) e2 e3, ?_, ?_, ?_⟩
          · rw [S3.b16 (by omega), x16, m1, if_neg (by omega)]
          · exact semC_not (by omega) ((b6.mono (by omega)).congr (fun j _ hj => e3 j hj)) e4
          · have g30 : gI μ3 14 c = 30 := by rw [S3.b14 (by omega)]; exact x14
            have q := b7.2
            rw [pd] at q
            exact ⟨psem_not (by omega) g30 od oo b7.1, dp_not d4 (by omega) g30 od oo q⟩
        · rw [cl_of _ b1, if_pos rfl]
          exact Or.inr ⟨σ3, μ3, rfl, S1.sf tn b2⟩
      · -- the opening sign
        have adv : p < tkE s n p := sg_lt pn hq
        have cb : c < 2000 := by omega
        obtain ⟨m1, m2, m3, m4, m5, m6⟩ := muO_f hR (c := c) (d := d) 28 2
        obtain ⟨σ1, μ1, a1, L1, S1, x14, x15, x16, xs⟩ := stp_next (B := d) ht hL adv m2 m3 (fun j hj => by rw [m4, if_neg (by omega)]) (fun j hj => by rw [m1, if_neg (by omega)]) m5 m6 (m_open1 hR d4 hL.2.2.2.2.1 cb false hq)
        have o1 : OpOk μ1 (fun j => if j = d + 1 then false else o j) (d + 1) := fun j h1 h2 => by
          rw [x15, m4]
          show _ = if (if j = d + 1 then false else o j) = true then (1 : Int32) else 2
          by_cases z : j = d + 1
          · rw [if_pos z, if_pos z]; rfl
          · rw [if_neg z, if_neg z]; exact ho j h1 (by omega)
        have oo : ∀ j, 0 < j → j ≤ d → (fun j => if j = d + 1 then false else o j) j = o j := fun j _ h2 => if_neg (by omega)
        have od : (fun j => if j = d + 1 then false else o j) (d + 1) = false := if_pos rfl
        have pd : popD (fun j => if j = d + 1 then false else o j) (d + 1) = d + 1 := by
          show (if (if d + 1 = d + 1 then false else o (d + 1)) = true then popD _ d else d + 1) = _
          rw [if_neg (by rw [if_pos rfl]; decide)]
        rw [c3 hq d4, cl_of _ a1]
        rcases ihL σ1 μ1 (tkE s n p) len (c + 1) (d + 1) _ (by omega) (by omega) (by omega) L1 o1 pd (fun _ => by rw [x16, m1, if_pos rfl]) with ⟨σ3, μ3, q, len3, c3, E3, cm, b1, L3, b2, b3, b4, S3, b5, b6, b7, b8⟩ | ⟨σ3, μ3, b1, b2⟩
        · have b1 : (fLP F).1 (t + 1) 0 (nI (d + 1)) σ1 = _ := b1
          rw [cl_of _ b1, if_neg one0]
          have ps := S3.pos
          have qn : q ≤ n := L3.1.2.2.2.1
          have o3 : OpOk μ3 o d := (S1.tr (S3.low (B' := d) (by omega))).op (by omega) ho
          have g16 := b5.1 (by omega)
          have g41 : f_X8_isSign 41 σ3 = _ := (L3.1.sign (c := 41) (by omega)).1
          unfold f_X6_readSign
          cases e : sgT s n q 41
          · obtain ⟨σ', μ', e1, e2⟩ := sf_at (k := 1) (w := 0) (d := d + 1) ht L3 (by omega) (by omega) (fun m => by
              rw [m_past L3.1 (by omega) g16 ⟨b8.1 (by omega), b8.2.1 (by omega), b8.2.2.1 (by omega), b8.2.2.2 rfl⟩ m, if_neg (fun z => by rw [e] at z; cases z.1), if_neg (fun z => by omega)]; rfl)
            have e1 : f_X6_wrong 1 σ3 = _ := e1
            rw [e] at g41
            rw [cl_of _ g41, if_pos b1F0, cl_of _ e1]
            simp only [cl_of _ (rfl : some ((0 : Int32), σ') = some (0, σ'))]
            exact Or.inr ⟨σ', μ', rfl, S1.sf tn (S3.sf qn e2)⟩
          · rw [e] at g41
            have tn3 : tkE s n q ≤ n := tkE_le L3.1
            have adv3 : q < tkE s n q := sg_lt qn e
            have cb3 : c3 < 2000 := by have := L3.2.2.2.2.2.2; omega
            obtain ⟨y1, y2, y3, y4, y5, y6⟩ := muP_f L3.1 (c := c3) 29
            obtain ⟨σ4, μ4, f1, L4, S4, z14, z15, z16, zs⟩ := stp_next (B := d) ht L3 adv3 y2 y3 (fun j _ => y4 j) (fun j _ => y1 j) y5 y6 (m_close L3.1 d4 L3.2.2.2.2.1 cb3 o3 cm g16 e)
            rw [cl_of _ g41, if_neg b1T0, cl_of _ f1]
            simp only [cl_of _ (rfl : some ((1 : Int32), σ4) = some (1, σ4)), if_neg one0]
            refine Or.inl ⟨σ4, μ4, tkE s n q, len3, c3 + 1, E3, rfl, L4, by omega, by omega, by omega, (S1.tr (S3.low (B' := d) (by omega))).tr S4, ?_, ?_, ?_⟩
            · rw [z16, y1, S3.b16 (by omega), x16, m1, if_neg (by omega)]
            · exact (b6.mono (by omega)).congr (fun j _ hj => zs j)
            · have g28 : gI μ4 14 c = 28 := by rw [S4.b14 (by omega), S3.b14 (by omega)]; exact x14
              have q := LkS.congr (k := 0) b7 (fun j _ hj => S4.b14 hj)
              exact ⟨psem_par (by omega) g28 z14 od oo q.1, dp_par d4 (by omega) g28 z14 od oo q.2⟩
        · have b1 : (fLP F).1 (t + 1) 0 (nI (d + 1)) σ1 = _ := b1
          rw [cl_of _ b1, if_pos rfl]
          exact Or.inr ⟨σ3, μ3, rfl, S1.sf tn b2⟩
  · have h1 : vT s n p = none := by
      cases e : vT s n p with
      | none => rfl
      | some v => exact absurd (Or.inl ⟨v, e⟩) some1
    have h2 : wdT s n p 16 = false := by cases e : wdT s n p 16; rfl; exact absurd (Or.inr (Or.inl e)) some1
    have h3 : sgT s n p 40 = false := by cases e : sgT s n p 40; rfl; exact absurd (Or.inr (Or.inr e)) some1
    obtain ⟨σ', μ', e1, e2⟩ := sf_at (k := 1) (w := 1) (d := d) ht hL (by omega) (by omega) (fun m => (f1 m).1 h1 h2 h3)
    have e1 : f_X6_wrong 1 σ = _ := e1
    rw [c5 h1 h2 h3, cl_of _ e1]
    exact Or.inr ⟨σ', μ', rfl, e2⟩
theorem law_ind {t n : Nat} {s : Nat → Nat} (ht : isTown t = true) : ∀ F, PartOk t s n F ∧ ∀ k, k ≤ 4 → LevOk t s n F k
  | 0 => ⟨fun _ _ _ _ _ _ _ _ h => absurd h (by omega), fun _ _ _ _ _ _ _ _ _ _ h => absurd h (by omega)⟩
  | F + 1 => by
    obtain ⟨a, b⟩ := law_ind (n := n) (s := s) ht F
    refine ⟨part_step ht a (b 0 (by omega)), fun k hk => ?_⟩
    by_cases z : k = 4
    · rw [z]; exact lev_4 ht a
    · exact lev_step ht (b (k + 1) (by omega)) (by omega)
