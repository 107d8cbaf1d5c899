/-! the maker of the whole -/
def Gn (κ : FieldType → ClassId) (h0 : Nat) (w : va_W) : Prop := ∃ (q1 q2 q3 q4 q5 qm q6 q7 q8 q9 q10 : Nat) (w1 w2 w3 w4 w5 w6 w7 w8 w9 w10 : va_W) (qss : List (List Nat)) (f : Nat → Option Nat), Gk shTape κ zM q1 w1 ∧ Grd κ q2 q1 w2 ∧ Gk (shNight 0) κ zM q3 w3 ∧ Gp κ q4 w4 ∧ Gk (shWatched 0) κ zM q5 w5 ∧ qss.length = 4 ∧ (∀ qs ∈ qss, qs.length = (shMark 0).length) ∧ (∀ j, j < 4 → f j = some (gD (qss.getD j []) 0)) ∧ Gk shAhead κ zM q6 w6 ∧ Gk (shTown 0) κ zT q7 w7 ∧ Gk (shTown 0) κ zT q8 w8 ∧ Gk (shLines 0) κ zM q9 w9 ∧ Gk (shLines 0) κ zM q10 w10 ∧ w = ((h0, .inr (11, [.ref q1, .ref q2, .ref q3, .ref q4, .ref q5, .ref qm, .ref q6, .ref q7, .ref q8, .ref q9, .ref q10])) :: (((((((((((w1 ++ w2) ++ w3) ++ w4) ++ w5) ++ [(qm, rwE κ RX3 4 f)]) ++ nW (shMark 0) κ zM qss) ++ w6) ++ w7) ++ w8) ++ w9) ++ w10))
set_option maxHeartbeats 8000000 in
set_option maxRecDepth 100000 in
theorem n_X11 (D : va_G) (κ : FieldType → ClassId) (ρ : Nat → Nat) (h0 : Nat) : NCon yX11_init cX11_init 2 7 244 5444 11 [.null, .null, .null, .null, .null, .null, .null, .null, .null, .null, .null] D κ ρ h0 [] (Gn κ h0) := by
  refine NCon.of_NX (by decide +kernel) rfl (Nat.le_of_ble_eq_true rfl) ?_
  show NX RX11 cX11_init 2 7 D κ ρ _ 244 5444 0 [(0, .ref h0)] [] [(h0, .inr (11, [.null, .null, .null, .null, .null, .null, .null, .null, .null, .null, .null]))]
  refine N_aload_n (pc := 0) (td kX11_init 0 rfl) rfl 0 rfl ?_
  refine N_obj (pc := 1) no_X11 (by decide) (Nat.le_of_ble_eq_true rfl) (td kX11_init 1 rfl) ?_
  refine N_aload_n (pc := 4) (td kX11_init 2 rfl) rfl 0 rfl ?_
  refine N_new (ci := 7) (pc := 5) (gc := 243) (gs := 5442) tyX7 rfl wi_X7 tyX7_ok nw_X11_7 nk_X7_a nk_X7_b nk_X7_f (td kX11_init 3 rfl) (fun q1 => ?_)
  refine N_dup (pc := 8) (td kX11_init 4 rfl) rfl ?_
  refine N_callN (n := 0) (w := ((h0, .inr (11, [.null, .null, .null, .null, .null, .null, .null, .null, .null, .null, .null])) :: [])) (pc := 9) (gc := 242) (gs := 4442) (As := []) (st := [.ref q1, .ref h0]) (n_X7 D κ ρ q1) (by decide +kernel) nk_X7_c nk_X7_d nk_X7_b (by decide +kernel) rfl (by decide) (by decide) rfl rfl (Nat.le_of_ble_eq_true rfl) (td kX11_init 5 rfl) (fun w1 hw1 => ?_)
  refine N_putF (pc := 12) (q0 := 0) fk_X11_10 (fun C T N h => by cases h; rfl) rfl rfl rfl (Nat.le_of_ble_eq_true rfl) (td kX11_init 6 rfl) ?_
  refine N_eq (w' := ((h0, .inr (11, [.ref q1, .null, .null, .null, .null, .null, .null, .null, .null, .null, .null])) :: w1)) rfl ?_
  refine N_aload_n (pc := 15) (td kX11_init 7 rfl) rfl 0 rfl ?_
  refine N_new (ci := 6) (pc := 16) (gc := 241) (gs := 4440) tyX6 rfl wi_X6 tyX6_ok nw_X11_16 nk_X6_a nk_X6_b nk_X6_f (td kX11_init 8 rfl) (fun q2 => ?_)
  refine N_dup (pc := 19) (td kX11_init 9 rfl) rfl ?_
  refine N_aload_n (pc := 20) (td kX11_init 10 rfl) rfl 0 rfl ?_
  refine N_get (pc := 21) (q0 := 0) (v := .ref q1) fk_X11_10 rfl rfl (td kX11_init 11 rfl) ?_
  refine N_call (n := 1) (w := ((h0, .inr (11, [.ref q1, .null, .null, .null, .null, .null, .null, .null, .null, .null, .null])) :: w1)) (pc := 24) (gc := 239) (gs := 4410) (As := [.ref q1]) (st := [.ref q2, .ref h0]) (n_X6 D κ ρ q2 q1) lk_X11_18 nk_X6_c nk_X6_d nk_X6_b (by decide +kernel) rfl (by decide) (by decide) rfl rfl (Nat.le_of_ble_eq_true rfl) (td kX11_init 12 rfl) (fun w2 hw2 => ?_)
  refine N_putF (pc := 27) (q0 := 0) fk_X11_21 (fun C T N h => by cases h; rfl) rfl rfl rfl (Nat.le_of_ble_eq_true rfl) (td kX11_init 13 rfl) ?_
  refine N_eq (w' := ((h0, .inr (11, [.ref q1, .ref q2, .null, .null, .null, .null, .null, .null, .null, .null, .null])) :: (w1 ++ w2))) rfl ?_
  refine N_aload_n (pc := 30) (td kX11_init 14 rfl) rfl 0 rfl ?_
  refine N_new (ci := 4) (pc := 31) (gc := 238) (gs := 4399) tyX4 rfl wi_X4 tyX4_ok nw_X11_25 nk_X4_a nk_X4_b nk_X4_f (td kX11_init 15 rfl) (fun q3 => ?_)
  refine N_dup (pc := 34) (td kX11_init 16 rfl) rfl ?_
  refine N_callN (n := 0) (w := ((h0, .inr (11, [.ref q1, .ref q2, .null, .null, .null, .null, .null, .null, .null, .null, .null])) :: (w1 ++ w2))) (pc := 35) (gc := 232) (gs := 4359) (As := []) (st := [.ref q3, .ref h0]) (n_X4 D κ ρ q3) (by decide +kernel) nk_X4_c nk_X4_d nk_X4_b (by decide +kernel) rfl (by decide) (by decide) rfl rfl (Nat.le_of_ble_eq_true rfl) (td kX11_init 17 rfl) (fun w3 hw3 => ?_)
  refine N_putF (pc := 38) (q0 := 0) fk_X11_28 (fun C T N h => by cases h; rfl) rfl rfl rfl (Nat.le_of_ble_eq_true rfl) (td kX11_init 18 rfl) ?_
  refine N_eq (w' := ((h0, .inr (11, [.ref q1, .ref q2, .ref q3, .null, .null, .null, .null, .null, .null, .null, .null])) :: ((w1 ++ w2) ++ w3))) rfl ?_
  refine N_aload_n (pc := 41) (td kX11_init 19 rfl) rfl 0 rfl ?_
  refine N_new (ci := 5) (pc := 42) (gc := 231) (gs := 4356) tyX5 rfl wi_X5 tyX5_ok nw_X11_32 nk_X5_a nk_X5_b nk_X5_f (td kX11_init 20 rfl) (fun q4 => ?_)
  refine N_dup (pc := 45) (td kX11_init 21 rfl) rfl ?_
  refine N_call (n := 0) (w := ((h0, .inr (11, [.ref q1, .ref q2, .ref q3, .null, .null, .null, .null, .null, .null, .null, .null])) :: ((w1 ++ w2) ++ w3))) (pc := 46) (gc := 118) (gs := 3524) (As := []) (st := [.ref q4, .ref h0]) (n_X5 D κ ρ q4) lk_X11_34 nk_X5_c nk_X5_d nk_X5_b (by decide +kernel) rfl (by decide) (by decide) rfl rfl (Nat.le_of_ble_eq_true rfl) (td kX11_init 22 rfl) (fun w4 hw4 => ?_)
  refine N_putF (pc := 49) (q0 := 0) fk_X11_35 (fun C T N h => by cases h; rfl) rfl rfl rfl (Nat.le_of_ble_eq_true rfl) (td kX11_init 23 rfl) ?_
  refine N_eq (w' := ((h0, .inr (11, [.ref q1, .ref q2, .ref q3, .ref q4, .null, .null, .null, .null, .null, .null, .null])) :: (((w1 ++ w2) ++ w3) ++ w4))) rfl ?_
  refine N_aload_n (pc := 52) (td kX11_init 24 rfl) rfl 0 rfl ?_
  refine N_new (ci := 10) (pc := 53) (gc := 117) (gs := 3520) tyX10 rfl wi_X10 tyX10_ok nw_X11_39 nk_X10_a nk_X10_b nk_X10_f (td kX11_init 25 rfl) (fun q5 => ?_)
  refine N_dup (pc := 56) (td kX11_init 26 rfl) rfl ?_
  refine N_callN (n := 0) (w := ((h0, .inr (11, [.ref q1, .ref q2, .ref q3, .ref q4, .null, .null, .null, .null, .null, .null, .null])) :: (((w1 ++ w2) ++ w3) ++ w4))) (pc := 57) (gc := 114) (gs := 3502) (As := []) (st := [.ref q5, .ref h0]) (n_X10 D κ ρ q5) (by decide +kernel) nk_X10_c nk_X10_d nk_X10_b (by decide +kernel) rfl (by decide) (by decide) rfl rfl (Nat.le_of_ble_eq_true rfl) (td kX11_init 27 rfl) (fun w5 hw5 => ?_)
  refine N_putF (pc := 60) (q0 := 0) fk_X11_42 (fun C T N h => by cases h; rfl) rfl rfl rfl (Nat.le_of_ble_eq_true rfl) (td kX11_init 28 rfl) ?_
  refine N_eq (w' := ((h0, .inr (11, [.ref q1, .ref q2, .ref q3, .ref q4, .ref q5, .null, .null, .null, .null, .null, .null])) :: ((((w1 ++ w2) ++ w3) ++ w4) ++ w5))) rfl ?_
  refine N_aload_n (pc := 63) (td kX11_init 29 rfl) rfl 0 rfl ?_
  refine N_iconst (pc := 64) (v := 4) (td kX11_init 30 rfl) (by decide) ?_
  refine N_newq (pc := 65) (gc := 113) (gs := 3498) (N' := 4) (C := RX3) 6 (fun _ => rfl) nw_X11_46 (Or.inr rfl) (by decide) rfl (by decide) (td kX11_init 31 rfl) (fun qm => ?_)
  refine N_putF (pc := 68) (q0 := 0) fk_X11_48 (fun C T N h => by cases h; rfl) rfl rfl rfl (Nat.le_of_ble_eq_true rfl) (td kX11_init 32 rfl) ?_
  refine N_iconst (pc := 71) (v := 0) (td kX11_init 33 rfl) (by decide) ?_
  refine N_istore_n (pc := 72) (i := 1) (lv' := [(1, .int 0), (0, .ref h0)]) (td kX11_init 34 rfl) rfl (by decide) rfl ?_
  refine N_eq (w' := ([(h0, .inr (11, [.ref q1, .ref q2, .ref q3, .ref q4, .ref q5, .ref qm, .null, .null, .null, .null, .null]))] ++ ((((w1 ++ w2) ++ w3) ++ w4) ++ w5)) ++ [(qm, rwE κ RX3 4 (fun _ => none))]) rfl ?_
  refine N_swap ?_
  refine N_eq (w' := [(h0, .inr (11, [.ref q1, .ref q2, .ref q3, .ref q4, .ref q5, .ref qm, .null, .null, .null, .null, .null])), (qm, rwE κ RX3 4 (fun _ => none))] ++ (((((w1 ++ w2) ++ w3) ++ w4) ++ w5) ++ nW (shMark 0) κ zM [])) (by rw [show nW (shMark 0) κ zM [] = [] from rfl, List.append_nil]; rfl) ?_
  refine N_row (n := 4) (p0 := 73) (pl := 1) (pE := 97) (iF := 48) (iN := 46) (iC := 52) (t0 := 6) (gE := 49) (sE := 2694) (C := RX3) (R := ((((w1 ++ w2) ++ w3) ++ w4) ++ w5)) (fs := [.ref q1, .ref q2, .ref q3, .ref q4, .ref q5, .ref qm, .null, .null, .null, .null, .null]) (ciE := 3) (mc := 15) (ms := 197) (NF := 4) tyX3 22 (-21) (by decide) (by decide) (td kX11_init 35 rfl) (fun gc gs lv st w h => N_iconst (td kX11_init 36 rfl) (by decide) h) (td kX11_init 37 rfl) (by decide) (td kX11_init 38 rfl) (td kX11_init 39 rfl) fk_X11_48 rfl (td kX11_init 40 rfl) (td kX11_init 41 rfl) rfl wi_X3 tyX3_ok nw_X11_46 nk_X3_a nk_X3_b nk_X3_f (td kX11_init 42 rfl) (td kX11_init 43 rfl) (fun q => n_X3 D κ ρ q) (by decide +kernel) nk_X3_c nk_X3_d nk_X3_b (by decide +kernel) rfl (by decide) (by decide) (td kX11_init 44 rfl) (fun _ => rfl) rfl (td kX11_init 45 rfl) (td kX11_init 46 rfl) (by decide) (fun qss f a1 a2 a3 => ?_) 4 0 [] (fun _ => none) rfl rfl (fun qs h => by cases h) (fun j h => absurd h (Nat.not_lt_zero j))
  refine N_sub (lv' := [(0, .ref h0)]) [1] rfl ?_
  refine N_eq (w' := ([(h0, .inr (11, [.ref q1, .ref q2, .ref q3, .ref q4, .ref q5, .ref qm, .null, .null, .null, .null, .null]))] ++ [(qm, rwE κ RX3 4 f)]) ++ (((((w1 ++ w2) ++ w3) ++ w4) ++ w5) ++ nW (shMark 0) κ zM qss)) rfl ?_
  refine N_swap ?_
  refine N_eq (w' := (([(h0, .inr (11, [.ref q1, .ref q2, .ref q3, .ref q4, .ref q5, .ref qm, .null, .null, .null, .null, .null]))] ++ ((((w1 ++ w2) ++ w3) ++ w4) ++ w5)) ++ nW (shMark 0) κ zM qss) ++ [(qm, rwE κ RX3 4 f)]) (by rw [List.append_assoc [_] _ (nW _ _ _ _)]) ?_
  refine N_swap ?_
  refine N_eq (w' := ((h0, .inr (11, [.ref q1, .ref q2, .ref q3, .ref q4, .ref q5, .ref qm, .null, .null, .null, .null, .null])) :: ((((((w1 ++ w2) ++ w3) ++ w4) ++ w5) ++ [(qm, rwE κ RX3 4 f)]) ++ nW (shMark 0) κ zM qss))) rfl ?_
  refine N_aload_n (pc := 97) (td kX11_init 47 rfl) rfl 0 rfl ?_
  refine N_new (ci := 0) (pc := 98) (gc := 48) (gs := 2687) tyX0 rfl wi_X0 tyX0_ok nw_X11_53 nk_X0_a nk_X0_b nk_X0_f (td kX11_init 48 rfl) (fun q6 => ?_)
  refine N_dup (pc := 101) (td kX11_init 49 rfl) rfl ?_
  refine N_callN (n := 0) (w := ((h0, .inr (11, [.ref q1, .ref q2, .ref q3, .ref q4, .ref q5, .ref qm, .null, .null, .null, .null, .null])) :: ((((((w1 ++ w2) ++ w3) ++ w4) ++ w5) ++ [(qm, rwE κ RX3 4 f)]) ++ nW (shMark 0) κ zM qss))) (pc := 102) (gc := 38) (gs := 2616) (As := []) (st := [.ref q6, .ref h0]) (n_X0 D κ ρ q6) (by decide +kernel) nk_X0_c nk_X0_d nk_X0_b (by decide +kernel) rfl (by decide) (by decide) rfl rfl (Nat.le_of_ble_eq_true rfl) (td kX11_init 50 rfl) (fun w6 hw6 => ?_)
  refine N_putF (pc := 105) (q0 := 0) fk_X11_56 (fun C T N h => by cases h; rfl) rfl rfl rfl (Nat.le_of_ble_eq_true rfl) (td kX11_init 51 rfl) ?_
  refine N_eq (w' := ((h0, .inr (11, [.ref q1, .ref q2, .ref q3, .ref q4, .ref q5, .ref qm, .ref q6, .null, .null, .null, .null])) :: (((((((w1 ++ w2) ++ w3) ++ w4) ++ w5) ++ [(qm, rwE κ RX3 4 f)]) ++ nW (shMark 0) κ zM qss) ++ w6))) rfl ?_
  refine N_aload_n (pc := 108) (td kX11_init 52 rfl) rfl 0 rfl ?_
  refine N_new (ci := 9) (pc := 109) (gc := 37) (gs := 2599) tyX9 rfl wi_X9 tyX9_ok nw_X11_60 nk_X9_a nk_X9_b nk_X9_f (td kX11_init 53 rfl) (fun q7 => ?_)
  refine N_dup (pc := 112) (td kX11_init 54 rfl) rfl ?_
  refine N_callN (n := 0) (w := ((h0, .inr (11, [.ref q1, .ref q2, .ref q3, .ref q4, .ref q5, .ref qm, .ref q6, .null, .null, .null, .null])) :: (((((((w1 ++ w2) ++ w3) ++ w4) ++ w5) ++ [(qm, rwE κ RX3 4 f)]) ++ nW (shMark 0) κ zM qss) ++ w6))) (pc := 113) (gc := 23) (gs := 1432) (As := []) (st := [.ref q7, .ref h0]) (n_X9 D κ ρ q7) (by decide +kernel) nk_X9_c nk_X9_d nk_X9_b (by decide +kernel) rfl (by decide) (by decide) rfl rfl (Nat.le_of_ble_eq_true rfl) (td kX11_init 55 rfl) (fun w7 hw7 => ?_)
  refine N_put (pc := 116) (q0 := 0) fk_X11_63 rfl rfl rfl (Nat.le_of_ble_eq_true rfl) (td kX11_init 56 rfl) ?_
  refine N_eq (w' := ((h0, .inr (11, [.ref q1, .ref q2, .ref q3, .ref q4, .ref q5, .ref qm, .ref q6, .ref q7, .null, .null, .null])) :: ((((((((w1 ++ w2) ++ w3) ++ w4) ++ w5) ++ [(qm, rwE κ RX3 4 f)]) ++ nW (shMark 0) κ zM qss) ++ w6) ++ w7))) rfl ?_
  refine N_aload_n (pc := 119) (td kX11_init 57 rfl) rfl 0 rfl ?_
  refine N_new (ci := 9) (pc := 120) (gc := 22) (gs := 1415) tyX9 rfl wi_X9 tyX9_ok nw_X11_60 nk_X9_a nk_X9_b nk_X9_f (td kX11_init 58 rfl) (fun q8 => ?_)
  refine N_dup (pc := 123) (td kX11_init 59 rfl) rfl ?_
  refine N_callN (n := 0) (w := ((h0, .inr (11, [.ref q1, .ref q2, .ref q3, .ref q4, .ref q5, .ref qm, .ref q6, .ref q7, .null, .null, .null])) :: ((((((((w1 ++ w2) ++ w3) ++ w4) ++ w5) ++ [(qm, rwE κ RX3 4 f)]) ++ nW (shMark 0) κ zM qss) ++ w6) ++ w7))) (pc := 124) (gc := 8) (gs := 248) (As := []) (st := [.ref q8, .ref h0]) (n_X9 D κ ρ q8) (by decide +kernel) nk_X9_c nk_X9_d nk_X9_b (by decide +kernel) rfl (by decide) (by decide) rfl rfl (Nat.le_of_ble_eq_true rfl) (td kX11_init 60 rfl) (fun w8 hw8 => ?_)
  refine N_put (pc := 127) (q0 := 0) fk_X11_67 rfl rfl rfl (Nat.le_of_ble_eq_true rfl) (td kX11_init 61 rfl) ?_
  refine N_eq (w' := ((h0, .inr (11, [.ref q1, .ref q2, .ref q3, .ref q4, .ref q5, .ref qm, .ref q6, .ref q7, .ref q8, .null, .null])) :: (((((((((w1 ++ w2) ++ w3) ++ w4) ++ w5) ++ [(qm, rwE κ RX3 4 f)]) ++ nW (shMark 0) κ zM qss) ++ w6) ++ w7) ++ w8))) rfl ?_
  refine N_aload_n (pc := 130) (td kX11_init 62 rfl) rfl 0 rfl ?_
  refine N_new (ci := 2) (pc := 131) (gc := 7) (gs := 244) tyX2 rfl wi_X2 tyX2_ok nw_X11_70 nk_X2_a nk_X2_b nk_X2_f (td kX11_init 63 rfl) (fun q9 => ?_)
  refine N_dup (pc := 134) (td kX11_init 64 rfl) rfl ?_
  refine N_callN (n := 0) (w := ((h0, .inr (11, [.ref q1, .ref q2, .ref q3, .ref q4, .ref q5, .ref qm, .ref q6, .ref q7, .ref q8, .null, .null])) :: (((((((((w1 ++ w2) ++ w3) ++ w4) ++ w5) ++ [(qm, rwE κ RX3 4 f)]) ++ nW (shMark 0) κ zM qss) ++ w6) ++ w7) ++ w8))) (pc := 135) (gc := 4) (gs := 124) (As := []) (st := [.ref q9, .ref h0]) (n_X2 D κ ρ q9) (by decide +kernel) nk_X2_c nk_X2_d nk_X2_b (by decide +kernel) rfl (by decide) (by decide) rfl rfl (Nat.le_of_ble_eq_true rfl) (td kX11_init 65 rfl) (fun w9 hw9 => ?_)
  refine N_put (pc := 138) (q0 := 0) fk_X11_73 rfl rfl rfl (Nat.le_of_ble_eq_true rfl) (td kX11_init 66 rfl) ?_
  refine N_eq (w' := ((h0, .inr (11, [.ref q1, .ref q2, .ref q3, .ref q4, .ref q5, .ref qm, .ref q6, .ref q7, .ref q8, .ref q9, .null])) :: ((((((((((w1 ++ w2) ++ w3) ++ w4) ++ w5) ++ [(qm, rwE κ RX3 4 f)]) ++ nW (shMark 0) κ zM qss) ++ w6) ++ w7) ++ w8) ++ w9))) rfl ?_
  refine N_aload_n (pc := 141) (td kX11_init 67 rfl) rfl 0 rfl ?_
  refine N_new (ci := 2) (pc := 142) (gc := 3) (gs := 120) tyX2 rfl wi_X2 tyX2_ok nw_X11_70 nk_X2_a nk_X2_b nk_X2_f (td kX11_init 68 rfl) (fun q10 => ?_)
  refine N_dup (pc := 145) (td kX11_init 69 rfl) rfl ?_
  refine N_callN (n := 0) (w := ((h0, .inr (11, [.ref q1, .ref q2, .ref q3, .ref q4, .ref q5, .ref qm, .ref q6, .ref q7, .ref q8, .ref q9, .null])) :: ((((((((((w1 ++ w2) ++ w3) ++ w4) ++ w5) ++ [(qm, rwE κ RX3 4 f)]) ++ nW (shMark 0) κ zM qss) ++ w6) ++ w7) ++ w8) ++ w9))) (pc := 146) (gc := 0) (gs := 0) (As := []) (st := [.ref q10, .ref h0]) (n_X2 D κ ρ q10) (by decide +kernel) nk_X2_c nk_X2_d nk_X2_b (by decide +kernel) rfl (by decide) (by decide) rfl rfl (Nat.le_of_ble_eq_true rfl) (td kX11_init 70 rfl) (fun w10 hw10 => ?_)
  refine N_put (pc := 149) (q0 := 0) fk_X11_77 rfl rfl rfl (Nat.le_of_ble_eq_true rfl) (td kX11_init 71 rfl) ?_
  refine N_eq (w' := ((h0, .inr (11, [.ref q1, .ref q2, .ref q3, .ref q4, .ref q5, .ref qm, .ref q6, .ref q7, .ref q8, .ref q9, .ref q10])) :: (((((((((((w1 ++ w2) ++ w3) ++ w4) ++ w5) ++ [(qm, rwE κ RX3 4 f)]) ++ nW (shMark 0) κ zM qss) ++ w6) ++ w7) ++ w8) ++ w9) ++ w10))) rfl ?_
  exact N_ret ⟨q1, q2, q3, q4, q5, qm, q6, q7, q8, q9, q10, w1, w2, w3, w4, w5, w6, w7, w8, w9, w10, qss, f, hw1, hw2, hw3, hw4, hw5, a1, a2, a3, hw6, hw7, hw8, hw9, hw10, rfl⟩ (td kX11_init 72 rfl)
