/-! the law's loop -/
theorem lw_next {L : Nat} {xs : Nat → Int32} {g j : Nat} {σ μ : Mm} {ov : Nat → Int64} (k : LX L xs g 23 (lws (j + 7)) [] σ μ ov) : LX L xs g 1277 (lws j) [] σ μ ov := by
  refine LX_iinc (pc := 1277) (v := nI (j + 7)) (td kLw_12 50 rfl) 4 rfl (nI_add j 7) (by decide) rfl ?_
  refine LX_goto (pc := 1280) (tgt := 23) (td kLw_12 51 rfl) (by decide) ?_
  refine LX_sub (lv' := lws (j + 7)) [1, 2, 3, 4, 0] rfl ?_
  exact k
theorem lw_neg : ∀ L, L < 7 → nI L - 7 < 0 := by decide
theorem lw_cmp {L j : Nat} (hL : L ≤ 3584) (hj : j < 100000) (h : ¬ nI L - 7 < nI j) : j + 7 ≤ L := by
  apply Classical.byContradiction
  intro z
  apply h
  by_cases y : L < 7
  · exact Int32.lt_of_lt_of_le (lw_neg L y) (nI_pos' (by omega))
  · rw [show (7 : Int32) = nI 7 from rfl, pk_sub (by omega)]
    exact nI_lt (by omega) (by omega)
set_option maxHeartbeats 4000000 in
theorem lw_body {L : Nat} {xs : Nat → Int32} {g j : Nat} {σ μ : Mm} {ov : Nat → Int64} (hj : j + 7 ≤ L) (hL : L ≤ 3584) (h : Iv σ μ) (nx : ∀ σ' μ' ov', Iv σ' μ' → LX L xs g 1277 (lws j) [] σ' μ' ov') : LX L xs (g + 1) 33 (lws j) [] σ μ ov := by
  refine LX_aload_n (pc := 33) (td kLw_0 19 rfl) rfl 0 rfl ?_
  refine LX_iload (pc := 34) (td kLw_0 20 rfl) 4 rfl ?_
  refine LX_sld (pc := 36) (by omega) hL (td kLw_0 21 rfl) ?_
  refine LX_bipush (pc := 37) (v := 63) (td kLw_0 22 rfl) (by decide) ?_
  refine LX_iand (pc := 39) (td kLw_0 23 rfl) ?_
  generalize xs j &&& 63 = v
  by_cases z0 : v = 0
  · refine LX_swI (pc := 40) (c := 0) (tgt := 188) (td kLw_0 24 rfl) z0 (by decide) (by decide) rfl (by decide) ?_
    exact LX_less (Nat.le_succ g) (lw_c0 hj hL h (fun a b hi => nx a b ov hi))
  by_cases z1 : v = 1
  · refine LX_swI (pc := 40) (c := 1) (tgt := 335) (td kLw_0 24 rfl) z1 (by decide) (by decide) rfl (by decide) ?_
    exact LX_less (Nat.le_succ g) (lw_c1 hj hL h (fun a b hi => nx a b ov hi))
  by_cases z2 : v = 2
  · refine LX_swI (pc := 40) (c := 2) (tgt := 348) (td kLw_0 24 rfl) z2 (by decide) (by decide) rfl (by decide) ?_
    exact LX_less (Nat.le_succ g) (lw_c2 hj hL h (fun a b hi => nx a b ov hi))
  by_cases z3 : v = 3
  · refine LX_swI (pc := 40) (c := 3) (tgt := 361) (td kLw_0 24 rfl) z3 (by decide) (by decide) rfl (by decide) ?_
    exact LX_less (Nat.le_succ g) (lw_c3 hj hL h (fun a b hi => nx a b ov hi))
  by_cases z4 : v = 4
  · refine LX_swI (pc := 40) (c := 4) (tgt := 398) (td kLw_0 24 rfl) z4 (by decide) (by decide) rfl (by decide) ?_
    exact LX_less (Nat.le_succ g) (lw_c4 hj hL h (fun a b hi => nx a b ov hi))
  by_cases z5 : v = 5
  · refine LX_swI (pc := 40) (c := 5) (tgt := 435) (td kLw_0 24 rfl) z5 (by decide) (by decide) rfl (by decide) ?_
    exact LX_less (Nat.le_succ g) (lw_c5 hj hL h (fun a b hi => nx a b ov hi))
  by_cases z6 : v = 6
  · refine LX_swI (pc := 40) (c := 6) (tgt := 472) (td kLw_0 24 rfl) z6 (by decide) (by decide) rfl (by decide) ?_
    exact LX_less (Nat.le_succ g) (lw_c6 hj hL h (fun a b hi => nx a b ov hi))
  by_cases z7 : v = 7
  · refine LX_swI (pc := 40) (c := 7) (tgt := 497) (td kLw_0 24 rfl) z7 (by decide) (by decide) rfl (by decide) ?_
    exact LX_less (Nat.le_succ g) (lw_c7 hj hL h (fun a b hi => nx a b ov hi))
  by_cases z8 : v = 8
  · refine LX_swI (pc := 40) (c := 8) (tgt := 510) (td kLw_0 24 rfl) z8 (by decide) (by decide) rfl (by decide) ?_
    exact LX_less (Nat.le_succ g) (lw_c8 hj hL h (fun a b hi => nx a b ov hi))
  by_cases z9 : v = 9
  · refine LX_swI (pc := 40) (c := 9) (tgt := 547) (td kLw_0 24 rfl) z9 (by decide) (by decide) rfl (by decide) ?_
    exact LX_less (Nat.le_succ g) (lw_c9 hj hL h (fun a b hi => nx a b ov hi))
  by_cases z10 : v = 10
  · refine LX_swI (pc := 40) (c := 10) (tgt := 572) (td kLw_0 24 rfl) z10 (by decide) (by decide) rfl (by decide) ?_
    exact LX_less (Nat.le_succ g) (lw_c10 hj hL h (fun a b hi => nx a b ov hi))
  by_cases z11 : v = 11
  · refine LX_swI (pc := 40) (c := 11) (tgt := 597) (td kLw_0 24 rfl) z11 (by decide) (by decide) rfl (by decide) ?_
    exact LX_less (Nat.le_succ g) (lw_c11 hj hL h (fun a b hi => nx a b ov hi))
  by_cases z12 : v = 12
  · refine LX_swI (pc := 40) (c := 12) (tgt := 610) (td kLw_0 24 rfl) z12 (by decide) (by decide) rfl (by decide) ?_
    exact LX_less (Nat.le_succ g) (lw_c12 hj hL h (fun a b hi => nx a b ov hi))
  by_cases z13 : v = 13
  · refine LX_swI (pc := 40) (c := 13) (tgt := 635) (td kLw_0 24 rfl) z13 (by decide) (by decide) rfl (by decide) ?_
    exact LX_less (Nat.le_succ g) (lw_c13 hj hL h (fun a b hi => nx a b ov hi))
  by_cases z14 : v = 14
  · refine LX_swI (pc := 40) (c := 14) (tgt := 660) (td kLw_0 24 rfl) z14 (by decide) (by decide) rfl (by decide) ?_
    exact LX_less (Nat.le_succ g) (lw_c14 hj hL h (fun a b hi => nx a b ov hi))
  by_cases z15 : v = 15
  · refine LX_swI (pc := 40) (c := 15) (tgt := 685) (td kLw_0 24 rfl) z15 (by decide) (by decide) rfl (by decide) ?_
    exact LX_less (Nat.le_succ g) (lw_c15 hj hL h (fun a b hi => nx a b ov hi))
  by_cases z16 : v = 16
  · refine LX_swI (pc := 40) (c := 16) (tgt := 698) (td kLw_0 24 rfl) z16 (by decide) (by decide) rfl (by decide) ?_
    exact LX_less (Nat.le_succ g) (lw_c16 hj hL h (fun a b hi => nx a b ov hi))
  by_cases z17 : v = 17
  · refine LX_swI (pc := 40) (c := 17) (tgt := 735) (td kLw_0 24 rfl) z17 (by decide) (by decide) rfl (by decide) ?_
    exact LX_less (Nat.le_succ g) (lw_c17 hj hL h (fun a b hi => nx a b ov hi))
  by_cases z18 : v = 18
  · refine LX_swI (pc := 40) (c := 18) (tgt := 760) (td kLw_0 24 rfl) z18 (by decide) (by decide) rfl (by decide) ?_
    exact LX_less (Nat.le_succ g) (lw_c18 hj hL h (fun a b hi => nx a b ov hi))
  by_cases z19 : v = 19
  · refine LX_swI (pc := 40) (c := 19) (tgt := 773) (td kLw_0 24 rfl) z19 (by decide) (by decide) rfl (by decide) ?_
    exact LX_less (Nat.le_succ g) (lw_c19 hj hL h (fun a b hi => nx a b ov hi))
  by_cases z20 : v = 20
  · refine LX_swI (pc := 40) (c := 20) (tgt := 786) (td kLw_0 24 rfl) z20 (by decide) (by decide) rfl (by decide) ?_
    exact LX_less (Nat.le_succ g) (lw_c20 hj hL h (fun a b hi => nx a b ov hi))
  by_cases z21 : v = 21
  · refine LX_swI (pc := 40) (c := 21) (tgt := 799) (td kLw_0 24 rfl) z21 (by decide) (by decide) rfl (by decide) ?_
    exact LX_less (Nat.le_succ g) (lw_c21 hj hL h (fun a b hi => nx a b ov hi))
  by_cases z22 : v = 22
  · refine LX_swI (pc := 40) (c := 22) (tgt := 836) (td kLw_0 24 rfl) z22 (by decide) (by decide) rfl (by decide) ?_
    exact LX_less (Nat.le_succ g) (lw_c22 hj hL h (fun a b hi => nx a b ov hi))
  by_cases z23 : v = 23
  · refine LX_swI (pc := 40) (c := 23) (tgt := 849) (td kLw_0 24 rfl) z23 (by decide) (by decide) rfl (by decide) ?_
    exact LX_less (Nat.le_succ g) (lw_c23 hj hL h (fun a b hi => nx a b ov hi))
  by_cases z24 : v = 24
  · refine LX_swI (pc := 40) (c := 24) (tgt := 914) (td kLw_0 24 rfl) z24 (by decide) (by decide) rfl (by decide) ?_
    exact LX_less (Nat.le_succ g) (lw_c24 hj hL h (fun a b hi => nx a b ov hi))
  by_cases z25 : v = 25
  · refine LX_swI (pc := 40) (c := 25) (tgt := 939) (td kLw_0 24 rfl) z25 (by decide) (by decide) rfl (by decide) ?_
    exact LX_less (Nat.le_succ g) (lw_c25 hj hL h (fun a b hi => nx a b ov hi))
  by_cases z26 : v = 26
  · refine LX_swI (pc := 40) (c := 26) (tgt := 964) (td kLw_0 24 rfl) z26 (by decide) (by decide) rfl (by decide) ?_
    exact LX_less (Nat.le_succ g) (lw_c26 hj hL h (fun a b hi => nx a b ov hi))
  by_cases z27 : v = 27
  · refine LX_swI (pc := 40) (c := 27) (tgt := 977) (td kLw_0 24 rfl) z27 (by decide) (by decide) rfl (by decide) ?_
    exact lw_c27 hj hL h nx
  by_cases z28 : v = 28
  · refine LX_swI (pc := 40) (c := 28) (tgt := 1033) (td kLw_0 24 rfl) z28 (by decide) (by decide) rfl (by decide) ?_
    exact LX_less (Nat.le_succ g) (lw_c28 hj hL h (fun a b hi => nx a b ov hi))
  by_cases z29 : v = 29
  · refine LX_swI (pc := 40) (c := 29) (tgt := 1058) (td kLw_0 24 rfl) z29 (by decide) (by decide) rfl (by decide) ?_
    exact lw_c29 hj hL h nx
  by_cases z30 : v = 30
  · refine LX_swI (pc := 40) (c := 30) (tgt := 1150) (td kLw_0 24 rfl) z30 (by decide) (by decide) rfl (by decide) ?_
    exact LX_less (Nat.le_succ g) (lw_c30 hj hL h (fun a b hi => nx a b ov hi))
  by_cases z31 : v = 31
  · refine LX_swI (pc := 40) (c := 31) (tgt := 1199) (td kLw_0 24 rfl) z31 (by decide) (by decide) rfl (by decide) ?_
    exact LX_less (Nat.le_succ g) (lw_c31 hj hL h (fun a b hi => nx a b ov hi))
  by_cases z32 : v = 32
  · refine LX_swI (pc := 40) (c := 32) (tgt := 1252) (td kLw_0 24 rfl) z32 (by decide) (by decide) rfl (by decide) ?_
    exact LX_less (Nat.le_succ g) (lw_c32 hj hL h (fun a b hi => nx a b ov hi))
  refine LX_swO (pc := 40) (tgt := 1277) (td kLw_0 24 rfl) ?_ (by decide) (LX_less (Nat.le_succ g) (nx σ μ ov h))
  have w0 := tsw_ne 0 rfl z0
  have w1 := tsw_ne 1 rfl z1
  have w2 := tsw_ne 2 rfl z2
  have w3 := tsw_ne 3 rfl z3
  have w4 := tsw_ne 4 rfl z4
  have w5 := tsw_ne 5 rfl z5
  have w6 := tsw_ne 6 rfl z6
  have w7 := tsw_ne 7 rfl z7
  have w8 := tsw_ne 8 rfl z8
  have w9 := tsw_ne 9 rfl z9
  have w10 := tsw_ne 10 rfl z10
  have w11 := tsw_ne 11 rfl z11
  have w12 := tsw_ne 12 rfl z12
  have w13 := tsw_ne 13 rfl z13
  have w14 := tsw_ne 14 rfl z14
  have w15 := tsw_ne 15 rfl z15
  have w16 := tsw_ne 16 rfl z16
  have w17 := tsw_ne 17 rfl z17
  have w18 := tsw_ne 18 rfl z18
  have w19 := tsw_ne 19 rfl z19
  have w20 := tsw_ne 20 rfl z20
  have w21 := tsw_ne 21 rfl z21
  have w22 := tsw_ne 22 rfl z22
  have w23 := tsw_ne 23 rfl z23
  have w24 := tsw_ne 24 rfl z24
  have w25 := tsw_ne 25 rfl z25
  have w26 := tsw_ne 26 rfl z26
  have w27 := tsw_ne 27 rfl z27
  have w28 := tsw_ne 28 rfl z28
  have w29 := tsw_ne 29 rfl z29
  have w30 := tsw_ne 30 rfl z30
  have w31 := tsw_ne 31 rfl z31
  have w32 := tsw_ne 32 rfl z32
  omega
theorem lw_loop {L : Nat} {xs : Nat → Int32} (hL : L ≤ 3584) : ∀ (n j : Nat) (σ μ : Mm) (ov : Nat → Int64), L < 7 * n + j + 7 → j < 100000 → Iv σ μ → LX L xs n 23 (lws j) [] σ μ ov := by
  intro n
  induction n with
  | zero =>
    intro j σ μ ov hn hj h
    refine LX_iload (pc := 23) (td kLw_0 13 rfl) 4 rfl ?_
    refine LX_aload_n (pc := 25) (td kLw_0 14 rfl) rfl 0 rfl ?_
    refine LX_slen (pc := 26) (td kLw_0 15 rfl) ?_
    refine LX_bipush (pc := 27) (v := 7) (td kLw_0 16 rfl) (by decide) ?_
    refine LX_isub (pc := 29) (td kLw_0 17 rfl) ?_
    refine LX_gt (pc := 30) (tgt := 1283) (td kLw_0 18 rfl) (by decide) (fun _ => ?_) (fun q => ?_)
    · refine LX_iconst (pc := 1283) (v := 1) (td kLw_12 52 rfl) (by decide) ?_
      exact LX_end (pc := 1284) (td kLw_12 53 rfl)
    · have := lw_cmp hL hj q
      omega
  | succ n ih =>
    intro j σ μ ov hn hj h
    refine LX_iload (pc := 23) (td kLw_0 13 rfl) 4 rfl ?_
    refine LX_aload_n (pc := 25) (td kLw_0 14 rfl) rfl 0 rfl ?_
    refine LX_slen (pc := 26) (td kLw_0 15 rfl) ?_
    refine LX_bipush (pc := 27) (v := 7) (td kLw_0 16 rfl) (by decide) ?_
    refine LX_isub (pc := 29) (td kLw_0 17 rfl) ?_
    refine LX_gt (pc := 30) (tgt := 1283) (td kLw_0 18 rfl) (by decide) (fun _ => ?_) (fun q => ?_)
    · refine LX_iconst (pc := 1283) (v := 1) (td kLw_12 52 rfl) (by decide) ?_
      exact LX_end (pc := 1284) (td kLw_12 53 rfl)
    · have hj7 := lw_cmp hL hj q
      exact lw_body hj7 hL h (fun a b c hi => lw_next (ih (j + 7) a b c (by omega) (by omega) hi))
