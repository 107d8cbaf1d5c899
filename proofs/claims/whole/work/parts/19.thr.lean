def f_X11_share (p1 : Int32) (σ : Mm) : Option (Int32 × Mm) := bn (gR σ 0 7) (fun t_1 => ck (isTown t_1) (cl (f_X9_hasWalker t_1 p1 σ) (fun r5 _ => (if r5 = 0 then none else bn (gR σ 0 7) (fun t_27 => cl (f_X0_oilWithout t_27 6 (-1 : Int32) σ) (fun r35 σ35 => bn (gR σ35 0 7) (fun t_43 => cl (f_X0_oilWithout t_43 6 p1 σ35) (fun r51 σ51 => some ((r35 - r51), σ51)))))))))
set_option maxHeartbeats 4000000 in
set_option maxRecDepth 100000 in
theorem x_X11_share (p1 : Int32) (σ : Mm) : Con (wsOf SHC) yX11_share cX11_share 2 (some .int) 7 [.ref 0, .int p1] σ (f_X11_share p1 σ) := by
  refine Con.of_X (by decide +kernel) (Nat.le_of_ble_eq_true rfl) ?_
  unfold f_X11_share
  show X (wsOf SHC) RX11 cX11_share 2 (some .int) 7 0 0 [(0, .ref 0), (1, .int p1)] [] σ _
  refine X_aload_n (pc := 0) (td kX11_share 0 rfl) rfl 0 rfl ?_
  refine X_getR (pc := 1) sC_0 rfl fk_X11_63 (td kX11_share 1 rfl) ?_
  refine X_br (fun t_1 => ?_)
  refine X_iload_n (pc := 4) (td kX11_share 2 rfl) rfl 1 rfl ?_
  refine X_ck (fun t_1_h => ?_)
  obtain ⟨t_1_s0, t_1_s1, t_1_s2, t_1_s3, t_1_s4, t_1_s5, t_1_s6, t_1_s7, t_1_s8, t_1_s9, t_1_s10, t_1_s11, t_1_s12, t_1_s13, t_1_s14⟩ := knTown t_1_h
  refine X_callip (pc := 5) (As := [.int p1]) (st := []) (p_X9_hasWalker t_1 p1 σ) t_1_s0 (x_X9_hasWalker t_1 p1 σ) mkX9_hasWalker lk_X11_129 (by omega) rfl rfl (Nat.le_of_ble_eq_true rfl) (td kX11_share 3 rfl) (fun r5 hr5 => ?_)
  refine X_if_ne (pc := 8) (tgt := 22) (td kX11_share 4 rfl) (by decide) (fun c_8 => ?_) (fun c_8 => ?_)
  · refine X_aload_n (pc := 22) (td kX11_share 10 rfl) rfl 0 rfl ?_
    refine X_getF (b := 196) (pc := 23) sC_0 rfl fk_X11_56 (td kX11_share 11 rfl) ?_
    refine X_aload_n (pc := 26) (td kX11_share 12 rfl) rfl 0 rfl ?_
    refine X_getR (pc := 27) sC_0 rfl fk_X11_63 (td kX11_share 13 rfl) ?_
    refine X_br (fun t_27 => ?_)
    refine X_aload_n (pc := 30) (td kX11_share 14 rfl) rfl 0 rfl ?_
    refine X_getF (b := 6) (pc := 31) sC_0 rfl fk_X11_28 (td kX11_share 15 rfl) ?_
    refine X_iconst (v := (-1 : Int32)) (pc := 34) (td kX11_share 16 rfl) (by decide) ?_
    refine X_calli (pc := 35) (As := [.ref t_27, .ref 6, .int (-1 : Int32)]) (st := []) sC_196 (x_X0_oilWithout t_27 6 (-1 : Int32) σ) mkX0_oilWithout lk_X11_253 (by omega) rfl rfl (Nat.le_of_ble_eq_true rfl) (td kX11_share 17 rfl) (fun r35 σ35 _ hr35 => ?_)
    refine X_aload_n (pc := 38) (td kX11_share 18 rfl) rfl 0 rfl ?_
    refine X_getF (b := 196) (pc := 39) sC_0 rfl fk_X11_56 (td kX11_share 19 rfl) ?_
    refine X_aload_n (pc := 42) (td kX11_share 20 rfl) rfl 0 rfl ?_
    refine X_getR (pc := 43) sC_0 rfl fk_X11_63 (td kX11_share 21 rfl) ?_
    refine X_br (fun t_43 => ?_)
    refine X_aload_n (pc := 46) (td kX11_share 22 rfl) rfl 0 rfl ?_
    refine X_getF (b := 6) (pc := 47) sC_0 rfl fk_X11_28 (td kX11_share 23 rfl) ?_
    refine X_iload_n (pc := 50) (td kX11_share 24 rfl) rfl 1 rfl ?_
    refine X_calli (pc := 51) (As := [.ref t_43, .ref 6, .int p1]) (st := [.int r35]) sC_196 (x_X0_oilWithout t_43 6 p1 σ35) mkX0_oilWithout lk_X11_253 (by omega) rfl rfl (Nat.le_of_ble_eq_true rfl) (td kX11_share 25 rfl) (fun r51 σ51 _ hr51 => ?_)
    refine X_isub (pc := 54) (td kX11_share 26 rfl) ?_
    exact X_ret (pc := 55) (td kX11_share 27 rfl) rfl
  · exact X_none
def fT_X11_share (p1 : Int32) (σ : Mm) : Option (Int32 × Mm) := bn (gR σ 0 7) (fun t_1 => ck (isTown t_1) (cl (f_X9_hasWalker t_1 p1 σ) (fun r5 _ => (if r5 = 0 then some ((11 : Int32), σ) else bn (gR σ 0 7) (fun t_27 => cl (f_X0_oilWithout t_27 6 (-1 : Int32) σ) (fun r35 σ35 => bn (gR σ35 0 7) (fun t_43 => cl (f_X0_oilWithout t_43 6 p1 σ35) (fun r51 σ51 => none))))))))
set_option maxHeartbeats 4000000 in
set_option maxRecDepth 100000 in
theorem xT_X11_share (p1 : Int32) (σ : Mm) : X (wsOf SHC) RX11 cX11_share 2 (some .int) 7 1 0 [(0, .ref 0), (1, .int p1)] [] σ (fT_X11_share p1 σ) := by
  unfold fT_X11_share
  refine X_aload_n (pc := 0) (td kX11_share 0 rfl) rfl 0 rfl ?_
  refine X_getR (pc := 1) sC_0 rfl fk_X11_63 (td kX11_share 1 rfl) ?_
  refine X_br (fun t_1 => ?_)
  refine X_iload_n (pc := 4) (td kX11_share 2 rfl) rfl 1 rfl ?_
  refine X_ck (fun t_1_h => ?_)
  obtain ⟨t_1_s0, t_1_s1, t_1_s2, t_1_s3, t_1_s4, t_1_s5, t_1_s6, t_1_s7, t_1_s8, t_1_s9, t_1_s10, t_1_s11, t_1_s12, t_1_s13, t_1_s14⟩ := knTown t_1_h
  refine X_callip (pc := 5) (As := [.int p1]) (st := []) (p_X9_hasWalker t_1 p1 σ) t_1_s0 (x_X9_hasWalker t_1 p1 σ) mkX9_hasWalker lk_X11_129 (by omega) rfl rfl (Nat.le_of_ble_eq_true rfl) (td kX11_share 3 rfl) (fun r5 hr5 => ?_)
  refine X_if_ne (pc := 8) (tgt := 22) (td kX11_share 4 rfl) (by decide) (fun c_8 => ?_) (fun c_8 => ?_)
  · refine X_aload_n (pc := 22) (td kX11_share 10 rfl) rfl 0 rfl ?_
    refine X_getF (b := 196) (pc := 23) sC_0 rfl fk_X11_56 (td kX11_share 11 rfl) ?_
    refine X_aload_n (pc := 26) (td kX11_share 12 rfl) rfl 0 rfl ?_
    refine X_getR (pc := 27) sC_0 rfl fk_X11_63 (td kX11_share 13 rfl) ?_
    refine X_br (fun t_27 => ?_)
    refine X_aload_n (pc := 30) (td kX11_share 14 rfl) rfl 0 rfl ?_
    refine X_getF (b := 6) (pc := 31) sC_0 rfl fk_X11_28 (td kX11_share 15 rfl) ?_
    refine X_iconst (v := (-1 : Int32)) (pc := 34) (td kX11_share 16 rfl) (by decide) ?_
    refine X_calli (pc := 35) (As := [.ref t_27, .ref 6, .int (-1 : Int32)]) (st := []) sC_196 (x_X0_oilWithout t_27 6 (-1 : Int32) σ) mkX0_oilWithout lk_X11_253 (by omega) rfl rfl (Nat.le_of_ble_eq_true rfl) (td kX11_share 17 rfl) (fun r35 σ35 _ hr35 => ?_)
    refine X_aload_n (pc := 38) (td kX11_share 18 rfl) rfl 0 rfl ?_
    refine X_getF (b := 196) (pc := 39) sC_0 rfl fk_X11_56 (td kX11_share 19 rfl) ?_
    refine X_aload_n (pc := 42) (td kX11_share 20 rfl) rfl 0 rfl ?_
    refine X_getR (pc := 43) sC_0 rfl fk_X11_63 (td kX11_share 21 rfl) ?_
    refine X_br (fun t_43 => ?_)
    refine X_aload_n (pc := 46) (td kX11_share 22 rfl) rfl 0 rfl ?_
    refine X_getF (b := 6) (pc := 47) sC_0 rfl fk_X11_28 (td kX11_share 23 rfl) ?_
    refine X_iload_n (pc := 50) (td kX11_share 24 rfl) rfl 1 rfl ?_
    refine X_calli (pc := 51) (As := [.ref t_43, .ref 6, .int p1]) (st := [.int r35]) sC_196 (x_X0_oilWithout t_43 6 p1 σ35) mkX0_oilWithout lk_X11_253 (by omega) rfl rfl (Nat.le_of_ble_eq_true rfl) (td kX11_share 25 rfl) (fun r51 σ51 _ hr51 => ?_)
    refine X_isub (pc := 54) (td kX11_share 26 rfl) ?_
    exact X_none
  · exact X_thr (pc := 11) (td kX11_share 5 rfl) rfl
def F_X11_rests_44 (p1 : Int32) (p2 : Int32) (p3 : Int32) (p4 : Int32) (σ : Mm) (k80 : Int32 → Option (Int32 × Mm)) (rec44 : Int32 → Int32 → Option (Int32 × Mm)) (x5_44 : Int32) (x6_44 : Int32) : Option (Int32 × Mm) := (if x6_44 < (4 : Int32) then cl (f_X11_isRest p1 p2 p3 x6_44 σ) (fun r55 _ => jn (fun (x5_74 : Int32) => rec44 x5_74 (x6_44 + (1 : Int32))) (fun k74 => (if r55 = 0 then k74 x5_44 else (if x5_44 = p4 then some (x6_44, σ) else k74 (x5_44 + (1 : Int32)))))) else k80 x5_44)
def f_X11_rests (p1 : Int32) (p2 : Int32) (p3 : Int32) (p4 : Int32) (σ : Mm) : Option (Int32 × Mm) := cl (f_X11_isPay p1 σ) (fun r1 _ => jn (none) (fun k27 => (if r1 = 0 then k27 else cl (f_X11_isPay p2 σ) (fun r8 _ => (if r8 = 0 then k27 else cl (f_X11_isPay p3 σ) (fun r15 _ => (if r15 = 0 then k27 else (if p4 < (-1 : Int32) then k27 else jn (fun (x5_80 : Int32) => (if p4 = (-1 : Int32) then some (x5_80, σ) else none)) (fun k80 => lq2 (F_X11_rests_44 p1 p2 p3 p4 σ k80) 1000000 (0 : Int32) (0 : Int32))))))))))
set_option maxHeartbeats 4000000 in
set_option maxRecDepth 100000 in
theorem x_X11_rests (p1 : Int32) (p2 : Int32) (p3 : Int32) (p4 : Int32) (σ : Mm) : Con (wsOf SHC) yX11_rests cX11_rests 7 (some .int) 3 [.ref 0, .int p1, .int p2, .int p3, .int p4] σ (f_X11_rests p1 p2 p3 p4 σ) := by
  refine Con.of_X (by decide +kernel) (Nat.le_of_ble_eq_true rfl) ?_
  unfold f_X11_rests
  show X (wsOf SHC) RX11 cX11_rests 7 (some .int) 3 0 0 [(0, .ref 0), (1, .int p1), (2, .int p2), (3, .int p3), (4, .int p4)] [] σ _
  refine X_iload_n (pc := 0) (td kX11_rests 0 rfl) rfl 1 rfl ?_
  refine X_callsip (pc := 1) (As := [.int p1]) (st := []) (p_X11_isPay p1 σ) (x_X11_isPay p1 σ) mkX11_isPay lk_X11_266 (by omega) rfl rfl (Nat.le_of_ble_eq_true rfl) (td kX11_rests 1 rfl) (fun r1 hr1 => ?_)
  refine X_jn (P := fun k => X (wsOf SHC) RX11 cX11_rests 7 (some .int) 3 0 27 [] [] σ k) ?_ (fun k27 h27 => ?_)
  · exact X_none
  · refine X_if_eq (pc := 4) (tgt := 27) (td kX11_rests 2 rfl) (by decide) (fun c_4 => ?_) (fun c_4 => ?_)
    · refine X_sub [] rfl ?_
      exact h27
    · refine X_iload_n (pc := 7) (td kX11_rests 3 rfl) rfl 2 rfl ?_
      refine X_callsip (pc := 8) (As := [.int p2]) (st := []) (p_X11_isPay p2 σ) (x_X11_isPay p2 σ) mkX11_isPay lk_X11_266 (by omega) rfl rfl (Nat.le_of_ble_eq_true rfl) (td kX11_rests 4 rfl) (fun r8 hr8 => ?_)
      refine X_if_eq (pc := 11) (tgt := 27) (td kX11_rests 5 rfl) (by decide) (fun c_11 => ?_) (fun c_11 => ?_)
      · refine X_sub [] rfl ?_
        exact h27
      · refine X_iload_n (pc := 14) (td kX11_rests 6 rfl) rfl 3 rfl ?_
        refine X_callsip (pc := 15) (As := [.int p3]) (st := []) (p_X11_isPay p3 σ) (x_X11_isPay p3 σ) mkX11_isPay lk_X11_266 (by omega) rfl rfl (Nat.le_of_ble_eq_true rfl) (td kX11_rests 7 rfl) (fun r15 hr15 => ?_)
        refine X_if_eq (pc := 18) (tgt := 27) (td kX11_rests 8 rfl) (by decide) (fun c_18 => ?_) (fun c_18 => ?_)
        · refine X_sub [] rfl ?_
          exact h27
        · refine X_iload (pc := 21) (td kX11_rests 9 rfl) 4 rfl ?_
          refine X_iconst (v := (-1 : Int32)) (pc := 23) (td kX11_rests 10 rfl) (by decide) ?_
          refine X_icmp_ge (pc := 24) (tgt := 38) (td kX11_rests 11 rfl) (by decide) (fun c_24 => ?_) (fun c_24 => ?_)
          · refine X_iconst (v := (0 : Int32)) (pc := 38) (td kX11_rests 17 rfl) (by decide) ?_
            refine X_istore (L' := [(5, .int (0 : Int32)), (0, .ref 0), (1, .int p1), (2, .int p2), (3, .int p3), (4, .int p4)]) (pc := 39) (td kX11_rests 18 rfl) (by decide) rfl ?_
            refine X_iconst (v := (0 : Int32)) (pc := 41) (td kX11_rests 19 rfl) (by decide) ?_
            refine X_istore (L' := [(6, .int (0 : Int32)), (5, .int (0 : Int32)), (0, .ref 0), (1, .int p1), (2, .int p2), (3, .int p3), (4, .int p4)]) (pc := 42) (td kX11_rests 20 rfl) (by decide) rfl ?_
            refine X_jn (P := fun k => ∀ (x5_80 : Int32), X (wsOf SHC) RX11 cX11_rests 7 (some .int) 3 0 80 [(4, .int p4), (5, .int x5_80)] [] σ (k x5_80)) (fun x5_80 => ?_) (fun k80 h80 => ?_)
            · refine X_iload (pc := 80) (td kX11_rests 38 rfl) 0 rfl ?_
              refine X_iconst (v := (-1 : Int32)) (pc := 82) (td kX11_rests 39 rfl) (by decide) ?_
              refine X_icmp_eq (pc := 83) (tgt := 97) (td kX11_rests 40 rfl) (by decide) (fun c_83 => ?_) (fun c_83 => ?_)
              · refine X_iload (pc := 97) (td kX11_rests 46 rfl) 1 rfl ?_
                exact X_ret (pc := 99) (td kX11_rests 47 rfl) rfl
              · exact X_none
            · refine X_sub [3, 4, 5, 6, 1, 0] rfl ?_
              refine lq2_ind (P := fun x5_44 x6_44 E => X (wsOf SHC) RX11 cX11_rests 7 (some .int) 3 0 44 [(1, .int p1), (2, .int p2), (3, .int p3), (4, .int p4), (5, .int x5_44), (6, .int x6_44)] [] σ E) (fun _ _ => X_none) (fun rec44 hrec44 x5_44 x6_44 => ?_) _ _ _
              unfold F_X11_rests_44
              refine X_iload (pc := 44) (td kX11_rests 21 rfl) 5 rfl ?_
              refine X_iconst (v := (4 : Int32)) (pc := 46) (td kX11_rests 22 rfl) (by decide) ?_
              refine X_icmp_ge (pc := 47) (tgt := 80) (td kX11_rests 23 rfl) (by decide) (fun c_47 => ?_) (fun c_47 => ?_)
              · refine X_sub [3, 4] rfl ?_
                exact h80 x5_44
              · refine X_iload_n (pc := 50) (td kX11_rests 24 rfl) rfl 0 rfl ?_
                refine X_iload_n (pc := 51) (td kX11_rests 25 rfl) rfl 1 rfl ?_
                refine X_iload_n (pc := 52) (td kX11_rests 26 rfl) rfl 2 rfl ?_
                refine X_iload (pc := 53) (td kX11_rests 27 rfl) 5 rfl ?_
                refine X_callsip (pc := 55) (As := [.int p1, .int p2, .int p3, .int x6_44]) (st := []) (p_X11_isRest p1 p2 p3 x6_44 σ) (x_X11_isRest p1 p2 p3 x6_44 σ) mkX11_isRest lk_X11_271 (by omega) rfl rfl (Nat.le_of_ble_eq_true rfl) (td kX11_rests 28 rfl) (fun r55 hr55 => ?_)
                refine X_jn (P := fun k => ∀ (x5_74 : Int32), X (wsOf SHC) RX11 cX11_rests 7 (some .int) 3 0 74 [(1, .int p1), (2, .int p2), (3, .int p3), (4, .int p4), (5, .int x5_74), (6, .int x6_44)] [] σ (k x5_74)) (fun x5_74 => ?_) (fun k74 h74 => ?_)
                · refine X_iinc (v := (x6_44 + (1 : Int32))) (L' := [(6, .int (x6_44 + (1 : Int32))), (1, .int p1), (2, .int p2), (3, .int p3), (4, .int p4), (5, .int x5_74)]) (pc := 74) (td kX11_rests 36 rfl) 5 rfl rfl (by decide) rfl ?_
                  refine X_goto (pc := 77) (tgt := 44) (td kX11_rests 37 rfl) (by decide) ?_
                  refine X_sub [1, 2, 3, 4, 5, 0] rfl ?_
                  exact hrec44 x5_74 (x6_44 + (1 : Int32))
                · refine X_if_eq (pc := 58) (tgt := 74) (td kX11_rests 29 rfl) (by decide) (fun c_58 => ?_) (fun c_58 => ?_)
                  · exact h74 x5_44
                  · refine X_iload (pc := 61) (td kX11_rests 30 rfl) 4 rfl ?_
                    refine X_iload (pc := 63) (td kX11_rests 31 rfl) 3 rfl ?_
                    refine X_icmp_ne (pc := 65) (tgt := 71) (td kX11_rests 32 rfl) (by decide) (fun c_65 => ?_) (fun c_65 => ?_)
                    · refine X_iinc (v := (x5_44 + (1 : Int32))) (L' := [(5, .int (x5_44 + (1 : Int32))), (1, .int p1), (2, .int p2), (3, .int p3), (4, .int p4), (6, .int x6_44)]) (pc := 71) (td kX11_rests 35 rfl) 4 rfl rfl (by decide) rfl ?_
                      refine X_sub [1, 2, 3, 4, 0, 5] rfl ?_
                      exact h74 (x5_44 + (1 : Int32))
                    · refine X_iload (pc := 68) (td kX11_rests 33 rfl) 5 rfl ?_
                      exact X_ret (pc := 70) (td kX11_rests 34 rfl) rfl
          · refine X_sub [] rfl ?_
            exact h27
def FT_X11_rests_44 (p1 : Int32) (p2 : Int32) (p3 : Int32) (p4 : Int32) (σ : Mm) (k80 : Int32 → Option (Int32 × Mm)) (rec44 : Int32 → Int32 → Option (Int32 × Mm)) (x5_44 : Int32) (x6_44 : Int32) : Option (Int32 × Mm) := (if x6_44 < (4 : Int32) then cl (f_X11_isRest p1 p2 p3 x6_44 σ) (fun r55 _ => jn (fun (x5_74 : Int32) => rec44 x5_74 (x6_44 + (1 : Int32))) (fun k74 => (if r55 = 0 then k74 x5_44 else (if x5_44 = p4 then none else k74 (x5_44 + (1 : Int32)))))) else k80 x5_44)
def fT_X11_rests (p1 : Int32) (p2 : Int32) (p3 : Int32) (p4 : Int32) (σ : Mm) : Option (Int32 × Mm) := cl (f_X11_isPay p1 σ) (fun r1 _ => jn (some ((27 : Int32), σ)) (fun k27 => (if r1 = 0 then k27 else cl (f_X11_isPay p2 σ) (fun r8 _ => (if r8 = 0 then k27 else cl (f_X11_isPay p3 σ) (fun r15 _ => (if r15 = 0 then k27 else (if p4 < (-1 : Int32) then k27 else jn (fun (x5_80 : Int32) => (if p4 = (-1 : Int32) then none else some ((86 : Int32), σ))) (fun k80 => lq2 (FT_X11_rests_44 p1 p2 p3 p4 σ k80) 1000000 (0 : Int32) (0 : Int32))))))))))
set_option maxHeartbeats 4000000 in
set_option maxRecDepth 100000 in
theorem xT_X11_rests (p1 : Int32) (p2 : Int32) (p3 : Int32) (p4 : Int32) (σ : Mm) : X (wsOf SHC) RX11 cX11_rests 7 (some .int) 3 1 0 [(0, .ref 0), (1, .int p1), (2, .int p2), (3, .int p3), (4, .int p4)] [] σ (fT_X11_rests p1 p2 p3 p4 σ) := by
  unfold fT_X11_rests
  refine X_iload_n (pc := 0) (td kX11_rests 0 rfl) rfl 1 rfl ?_
  refine X_callsip (pc := 1) (As := [.int p1]) (st := []) (p_X11_isPay p1 σ) (x_X11_isPay p1 σ) mkX11_isPay lk_X11_266 (by omega) rfl rfl (Nat.le_of_ble_eq_true rfl) (td kX11_rests 1 rfl) (fun r1 hr1 => ?_)
  refine X_jn (P := fun k => X (wsOf SHC) RX11 cX11_rests 7 (some .int) 3 1 27 [] [] σ k) ?_ (fun k27 h27 => ?_)
  · exact X_thr (pc := 27) (td kX11_rests 12 rfl) rfl
  · refine X_if_eq (pc := 4) (tgt := 27) (td kX11_rests 2 rfl) (by decide) (fun c_4 => ?_) (fun c_4 => ?_)
    · refine X_sub [] rfl ?_
      exact h27
    · refine X_iload_n (pc := 7) (td kX11_rests 3 rfl) rfl 2 rfl ?_
      refine X_callsip (pc := 8) (As := [.int p2]) (st := []) (p_X11_isPay p2 σ) (x_X11_isPay p2 σ) mkX11_isPay lk_X11_266 (by omega) rfl rfl (Nat.le_of_ble_eq_true rfl) (td kX11_rests 4 rfl) (fun r8 hr8 => ?_)
      refine X_if_eq (pc := 11) (tgt := 27) (td kX11_rests 5 rfl) (by decide) (fun c_11 => ?_) (fun c_11 => ?_)
      · refine X_sub [] rfl ?_
        exact h27
      · refine X_iload_n (pc := 14) (td kX11_rests 6 rfl) rfl 3 rfl ?_
        refine X_callsip (pc := 15) (As := [.int p3]) (st := []) (p_X11_isPay p3 σ) (x_X11_isPay p3 σ) mkX11_isPay lk_X11_266 (by omega) rfl rfl (Nat.le_of_ble_eq_true rfl) (td kX11_rests 7 rfl) (fun r15 hr15 => ?_)
        refine X_if_eq (pc := 18) (tgt := 27) (td kX11_rests 8 rfl) (by decide) (fun c_18 => ?_) (fun c_18 => ?_)
        · refine X_sub [] rfl ?_
          exact h27
        · refine X_iload (pc := 21) (td kX11_rests 9 rfl) 4 rfl ?_
          refine X_iconst (v := (-1 : Int32)) (pc := 23) (td kX11_rests 10 rfl) (by decide) ?_
          refine X_icmp_ge (pc := 24) (tgt := 38) (td kX11_rests 11 rfl) (by decide) (fun c_24 => ?_) (fun c_24 => ?_)
          · refine X_iconst (v := (0 : Int32)) (pc := 38) (td kX11_rests 17 rfl) (by decide) ?_
            refine X_istore (L' := [(5, .int (0 : Int32)), (0, .ref 0), (1, .int p1), (2, .int p2), (3, .int p3), (4, .int p4)]) (pc := 39) (td kX11_rests 18 rfl) (by decide) rfl ?_
            refine X_iconst (v := (0 : Int32)) (pc := 41) (td kX11_rests 19 rfl) (by decide) ?_
            refine X_istore (L' := [(6, .int (0 : Int32)), (5, .int (0 : Int32)), (0, .ref 0), (1, .int p1), (2, .int p2), (3, .int p3), (4, .int p4)]) (pc := 42) (td kX11_rests 20 rfl) (by decide) rfl ?_
            refine X_jn (P := fun k => ∀ (x5_80 : Int32), X (wsOf SHC) RX11 cX11_rests 7 (some .int) 3 1 80 [(4, .int p4), (5, .int x5_80)] [] σ (k x5_80)) (fun x5_80 => ?_) (fun k80 h80 => ?_)
            · refine X_iload (pc := 80) (td kX11_rests 38 rfl) 0 rfl ?_
              refine X_iconst (v := (-1 : Int32)) (pc := 82) (td kX11_rests 39 rfl) (by decide) ?_
              refine X_icmp_eq (pc := 83) (tgt := 97) (td kX11_rests 40 rfl) (by decide) (fun c_83 => ?_) (fun c_83 => ?_)
              · refine X_iload (pc := 97) (td kX11_rests 46 rfl) 1 rfl ?_
                exact X_none
              · exact X_thr (pc := 86) (td kX11_rests 41 rfl) rfl
            · refine X_sub [3, 4, 5, 6, 1, 0] rfl ?_
              refine lq2_ind (P := fun x5_44 x6_44 E => X (wsOf SHC) RX11 cX11_rests 7 (some .int) 3 1 44 [(1, .int p1), (2, .int p2), (3, .int p3), (4, .int p4), (5, .int x5_44), (6, .int x6_44)] [] σ E) (fun _ _ => X_none) (fun rec44 hrec44 x5_44 x6_44 => ?_) _ _ _
              unfold FT_X11_rests_44
              refine X_iload (pc := 44) (td kX11_rests 21 rfl) 5 rfl ?_
              refine X_iconst (v := (4 : Int32)) (pc := 46) (td kX11_rests 22 rfl) (by decide) ?_
              refine X_icmp_ge (pc := 47) (tgt := 80) (td kX11_rests 23 rfl) (by decide) (fun c_47 => ?_) (fun c_47 => ?_)
              · refine X_sub [3, 4] rfl ?_
                exact h80 x5_44
              · refine X_iload_n (pc := 50) (td kX11_rests 24 rfl) rfl 0 rfl ?_
                refine X_iload_n (pc := 51) (td kX11_rests 25 rfl) rfl 1 rfl ?_
                refine X_iload_n (pc := 52) (td kX11_rests 26 rfl) rfl 2 rfl ?_
                refine X_iload (pc := 53) (td kX11_rests 27 rfl) 5 rfl ?_
                refine X_callsip (pc := 55) (As := [.int p1, .int p2, .int p3, .int x6_44]) (st := []) (p_X11_isRest p1 p2 p3 x6_44 σ) (x_X11_isRest p1 p2 p3 x6_44 σ) mkX11_isRest lk_X11_271 (by omega) rfl rfl (Nat.le_of_ble_eq_true rfl) (td kX11_rests 28 rfl) (fun r55 hr55 => ?_)
                refine X_jn (P := fun k => ∀ (x5_74 : Int32), X (wsOf SHC) RX11 cX11_rests 7 (some .int) 3 1 74 [(1, .int p1), (2, .int p2), (3, .int p3), (4, .int p4), (5, .int x5_74), (6, .int x6_44)] [] σ (k x5_74)) (fun x5_74 => ?_) (fun k74 h74 => ?_)
                · refine X_iinc (v := (x6_44 + (1 : Int32))) (L' := [(6, .int (x6_44 + (1 : Int32))), (1, .int p1), (2, .int p2), (3, .int p3), (4, .int p4), (5, .int x5_74)]) (pc := 74) (td kX11_rests 36 rfl) 5 rfl rfl (by decide) rfl ?_
                  refine X_goto (pc := 77) (tgt := 44) (td kX11_rests 37 rfl) (by decide) ?_
                  refine X_sub [1, 2, 3, 4, 5, 0] rfl ?_
                  exact hrec44 x5_74 (x6_44 + (1 : Int32))
                · refine X_if_eq (pc := 58) (tgt := 74) (td kX11_rests 29 rfl) (by decide) (fun c_58 => ?_) (fun c_58 => ?_)
                  · exact h74 x5_44
                  · refine X_iload (pc := 61) (td kX11_rests 30 rfl) 4 rfl ?_
                    refine X_iload (pc := 63) (td kX11_rests 31 rfl) 3 rfl ?_
                    refine X_icmp_ne (pc := 65) (tgt := 71) (td kX11_rests 32 rfl) (by decide) (fun c_65 => ?_) (fun c_65 => ?_)
                    · refine X_iinc (v := (x5_44 + (1 : Int32))) (L' := [(5, .int (x5_44 + (1 : Int32))), (1, .int p1), (2, .int p2), (3, .int p3), (4, .int p4), (6, .int x6_44)]) (pc := 71) (td kX11_rests 35 rfl) 4 rfl rfl (by decide) rfl ?_
                      refine X_sub [1, 2, 3, 4, 0, 5] rfl ?_
                      exact h74 (x5_44 + (1 : Int32))
                    · refine X_iload (pc := 68) (td kX11_rests 33 rfl) 5 rfl ?_
                      exact X_none
          · refine X_sub [] rfl ?_
            exact h27
