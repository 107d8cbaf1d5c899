def f_X0_areTogether (b1 : Nat) (p2 : Int32) (p3 : Int32) (σ : Mm) : Option (Int32 × Mm) := ck (isTown b1) (cl (f_X4_isOut 197 b1 p2 σ) (fun r6 _ => jn (some ((0 : Int32), σ)) (fun k49 => (if r6 = 0 then k49 else cl (f_X4_isOut 197 b1 p3 σ) (fun r18 _ => (if r18 = 0 then k49 else cl (f_X4_placeOf 197 b1 p2 σ) (fun r30 _ => cl (f_X4_placeOf 197 b1 p3 σ) (fun r39 _ => (if r30 = r39 then some ((1 : Int32), σ) else k49)))))))))
set_option maxHeartbeats 4000000 in
set_option maxRecDepth 100000 in
theorem x_X0_areTogether (b1 : Nat) (p2 : Int32) (p3 : Int32) (σ : Mm) : Con (wsOf SHC) yX0_areTogether cX0_areTogether 4 (some .boolean) 4 [.ref 196, .ref b1, .int p2, .int p3] σ (f_X0_areTogether b1 p2 p3 σ) := by
  refine Con.of_X (by decide +kernel) (Nat.le_of_ble_eq_true rfl) ?_
  unfold f_X0_areTogether
  show X (wsOf SHC) RX0 cX0_areTogether 4 (some .boolean) 4 0 0 [(0, .ref 196), (1, .ref b1), (2, .int p2), (3, .int p3)] [] σ _
  refine X_ck (fun b1_h => ?_)
  obtain ⟨b1_s0, b1_s1, b1_s2, b1_s3, b1_s4, b1_s5, b1_s6, b1_s7, b1_s8, b1_s9, b1_s10, b1_s11, b1_s12, b1_s13, b1_s14⟩ := knTown b1_h
  refine X_aload_n (pc := 0) (td kX0_areTogether 0 rfl) rfl 0 rfl ?_
  refine X_getF (b := 197) (pc := 1) sC_196 rfl fk_X0_12 (td kX0_areTogether 1 rfl) ?_
  refine X_aload_n (pc := 4) (td kX0_areTogether 2 rfl) rfl 1 rfl ?_
  refine X_iload_n (pc := 5) (td kX0_areTogether 3 rfl) rfl 2 rfl ?_
  refine X_callip (pc := 6) (As := [.ref b1, .int p2]) (st := []) (p_X4_isOut 197 b1 p2 σ) sC_197 (x_X4_isOut 197 b1 p2 σ) mkX4_isOut lk_X0_141 (by omega) rfl rfl (Nat.le_of_ble_eq_true rfl) (td kX0_areTogether 4 rfl) (fun r6 hr6 => ?_)
  refine X_jn (P := fun k => X (wsOf SHC) RX0 cX0_areTogether 4 (some .boolean) 4 0 49 [] [] σ k) ?_ (fun k49 h49 => ?_)
  · refine X_iconst (v := (0 : Int32)) (pc := 49) (td kX0_areTogether 25 rfl) (by decide) ?_
    exact X_ret (pc := 50) (td kX0_areTogether 26 rfl) rfl
  · refine X_if_eq (pc := 9) (tgt := 49) (td kX0_areTogether 5 rfl) (by decide) (fun c_9 => ?_) (fun c_9 => ?_)
    · refine X_sub [] rfl ?_
      exact h49
    · refine X_aload_n (pc := 12) (td kX0_areTogether 6 rfl) rfl 0 rfl ?_
      refine X_getF (b := 197) (pc := 13) sC_196 rfl fk_X0_12 (td kX0_areTogether 7 rfl) ?_
      refine X_aload_n (pc := 16) (td kX0_areTogether 8 rfl) rfl 1 rfl ?_
      refine X_iload_n (pc := 17) (td kX0_areTogether 9 rfl) rfl 3 rfl ?_
      refine X_callip (pc := 18) (As := [.ref b1, .int p3]) (st := []) (p_X4_isOut 197 b1 p3 σ) sC_197 (x_X4_isOut 197 b1 p3 σ) mkX4_isOut lk_X0_141 (by omega) rfl rfl (Nat.le_of_ble_eq_true rfl) (td kX0_areTogether 10 rfl) (fun r18 hr18 => ?_)
      refine X_if_eq (pc := 21) (tgt := 49) (td kX0_areTogether 11 rfl) (by decide) (fun c_21 => ?_) (fun c_21 => ?_)
      · refine X_sub [] rfl ?_
        exact h49
      · refine X_aload_n (pc := 24) (td kX0_areTogether 12 rfl) rfl 0 rfl ?_
        refine X_getF (b := 197) (pc := 25) sC_196 rfl fk_X0_12 (td kX0_areTogether 13 rfl) ?_
        refine X_aload_n (pc := 28) (td kX0_areTogether 14 rfl) rfl 1 rfl ?_
        refine X_iload_n (pc := 29) (td kX0_areTogether 15 rfl) rfl 2 rfl ?_
        refine X_callip (pc := 30) (As := [.ref b1, .int p2]) (st := []) (p_X4_placeOf 197 b1 p2 σ) sC_197 (x_X4_placeOf 197 b1 p2 σ) mkX4_placeOf lk_X0_144 (by omega) rfl rfl (Nat.le_of_ble_eq_true rfl) (td kX0_areTogether 16 rfl) (fun r30 hr30 => ?_)
        refine X_aload_n (pc := 33) (td kX0_areTogether 17 rfl) rfl 0 rfl ?_
        refine X_getF (b := 197) (pc := 34) sC_196 rfl fk_X0_12 (td kX0_areTogether 18 rfl) ?_
        refine X_aload_n (pc := 37) (td kX0_areTogether 19 rfl) rfl 1 rfl ?_
        refine X_iload_n (pc := 38) (td kX0_areTogether 20 rfl) rfl 3 rfl ?_
        refine X_callip (pc := 39) (As := [.ref b1, .int p3]) (st := [.int r30]) (p_X4_placeOf 197 b1 p3 σ) sC_197 (x_X4_placeOf 197 b1 p3 σ) mkX4_placeOf lk_X0_144 (by omega) rfl rfl (Nat.le_of_ble_eq_true rfl) (td kX0_areTogether 21 rfl) (fun r39 hr39 => ?_)
        refine X_icmp_ne (pc := 42) (tgt := 49) (td kX0_areTogether 22 rfl) (by decide) (fun c_42 => ?_) (fun c_42 => ?_)
        · refine X_sub [] rfl ?_
          exact h49
        · refine X_iconst (v := (1 : Int32)) (pc := 45) (td kX0_areTogether 23 rfl) (by decide) ?_
          refine X_goto (pc := 46) (tgt := 50) (td kX0_areTogether 24 rfl) (by decide) ?_
          exact X_ret (pc := 50) (td kX0_areTogether 26 rfl) rfl
set_option maxHeartbeats 4000000 in
theorem p_X0_areTogether (b1 : Nat) (p2 : Int32) (p3 : Int32) (σ : Mm) : Pu σ (f_X0_areTogether b1 p2 p3 σ) := by
  unfold f_X0_areTogether
  refine Pu_ck ?_
  refine Pu_cl (fun _ _ => ?_)
  refine Pu_jn (fun k => Pu σ (k)) ?_ (fun k49 h49 => ?_)
  · exact Pu_some
  · refine Pu_if ?_ ?_
    · exact h49
    · refine Pu_cl (fun _ _ => ?_)
      refine Pu_if ?_ ?_
      · exact h49
      · refine Pu_cl (fun _ _ => ?_)
        refine Pu_cl (fun _ _ => ?_)
        refine Pu_if ?_ ?_
        · exact Pu_some
        · exact h49
def F_X0_bestFollowed_84 (b1 : Nat) (σ50 : Mm) (v7_66 : Int32) (r76 : Int32) (k149 : Int32 → Int32 → Option (Int32 × Mm)) (rec84 : Int32 → Int32 → Int32 → Option (Int32 × Mm)) (x3_84 : Int32) (x4_84 : Int32) (x9_84 : Int32) : Option (Int32 × Mm) := (if x9_84 < (gI σ50 b1 2) then jn (fun (y0_118 : Int32) => jn (fun (x3_143 : Int32) (x4_143 : Int32) => rec84 x3_143 x4_143 (x9_84 + (1 : Int32))) (fun k143 => (if ((v7_66 >>> (x9_84 &&& 31)) &&& (1 : Int32)) = (1 : Int32) then (if y0_118 = 0 then k143 x3_84 x4_84 else k143 x9_84 r76) else k143 x3_84 x4_84))) (fun k118 => jn (k118 (1 : Int32)) (fun k113 => (if x4_84 < r76 then k113 else jn (k118 (0 : Int32)) (fun k117 => (if r76 = x4_84 then (if x9_84 < x3_84 then k113 else k117) else k117))))) else k149 x3_84 x4_84)
def F_X0_bestFollowed_26 (b1 : Nat) (k162 : Int32 → Mm → Option (Int32 × Mm)) (rec26 : Int32 → Int32 → Int32 → Int32 → Mm → Option (Int32 × Mm)) (x3_26 : Int32) (x4_26 : Int32) (x5_26 : Int32) (x6_26 : Int32) (σ_26 : Mm) : Option (Int32 × Mm) := (if x6_26 < (99 : Int32) then cl (f_X4_isAllHome 197 b1 σ_26) (fun r38 _ => (if r38 = 0 then cl (f_X4_pass 197 b1 (0 : Int32) σ_26) (fun _ σ50 => cl (f_X4_homeBits 197 b1 σ50) (fun r58 _ => bn (r58 &&& (x5_26 ^^^ (-1 : Int32))) (fun v7_66 => cl (f_X4_litBits 197 b1 σ50) (fun r73 _ => cl (f_J6_bitCount_0f7a4 r73 σ50) (fun r76 _ => jn (fun (x3_149 : Int32) (x4_149 : Int32) => bn (x5_26 ||| v7_66) (fun v5_154 => rec26 x3_149 x4_149 v5_154 (x6_26 + (1 : Int32)) σ50)) (fun k149 => lq3 (F_X0_bestFollowed_84 b1 σ50 v7_66 r76 k149) 1000000 x3_26 x4_26 (0 : Int32))))))) else k162 x3_26 σ_26)) else k162 x3_26 σ_26)
def f_X0_bestFollowed (b1 : Nat) (b2 : Nat) (σ : Mm) : Option (Int32 × Mm) := ck (isTown b1) (ck (isNight b2) (cl (f_X4_copyFrom 197 b2 σ) (fun _ σ10 => cl (f_X4_homeBits 197 b1 σ10) (fun r18 _ => jn (fun (x3_162 : Int32) (σ_162 : Mm) => some (x3_162, σ_162)) (fun k162 => lq5 (F_X0_bestFollowed_26 b1 k162) 1000000 (-1 : Int32) (-1 : Int32) r18 (0 : Int32) σ10)))))
set_option maxHeartbeats 4000000 in
set_option maxRecDepth 100000 in
theorem x_X0_bestFollowed (b1 : Nat) (b2 : Nat) (σ : Mm) : Con (wsOf SHC) yX0_bestFollowed cX0_bestFollowed 11 (some .int) 5 [.ref 196, .ref b1, .ref b2] σ (f_X0_bestFollowed b1 b2 σ) := by
  refine Con.of_X (by decide +kernel) (Nat.le_of_ble_eq_true rfl) ?_
  unfold f_X0_bestFollowed
  show X (wsOf SHC) RX0 cX0_bestFollowed 11 (some .int) 5 0 0 [(0, .ref 196), (1, .ref b1), (2, .ref b2)] [] σ _
  refine X_ck (fun b1_h => ?_)
  obtain ⟨b1_s0, b1_s1, b1_s2, b1_s3, b1_s4, b1_s5, b1_s6, b1_s7, b1_s8, b1_s9, b1_s10, b1_s11, b1_s12, b1_s13, b1_s14⟩ := knTown b1_h
  refine X_ck (fun b2_h => ?_)
  obtain ⟨b2_s0, b2_s1, b2_s2, b2_s3, b2_s4, b2_s5, b2_s6⟩ := knNight b2_h
  refine X_iconst (v := (-1 : Int32)) (pc := 0) (td kX0_bestFollowed 0 rfl) (by decide) ?_
  refine X_istore_n (L' := [(3, .int (-1 : Int32)), (0, .ref 196), (1, .ref b1), (2, .ref b2)]) (pc := 1) (td kX0_bestFollowed 1 rfl) rfl (by decide) rfl ?_
  refine X_iconst (v := (-1 : Int32)) (pc := 2) (td kX0_bestFollowed 2 rfl) (by decide) ?_
  refine X_istore (L' := [(4, .int (-1 : Int32)), (3, .int (-1 : Int32)), (0, .ref 196), (1, .ref b1), (2, .ref b2)]) (pc := 3) (td kX0_bestFollowed 3 rfl) (by decide) rfl ?_
  refine X_aload_n (pc := 5) (td kX0_bestFollowed 4 rfl) rfl 2 rfl ?_
  refine X_getF (b := 197) (pc := 6) sC_196 rfl fk_X0_12 (td kX0_bestFollowed 5 rfl) ?_
  refine X_aload_n (pc := 9) (td kX0_bestFollowed 6 rfl) rfl 4 rfl ?_
  refine X_callv (pc := 10) (As := [.ref b2]) (st := []) sC_197 (x_X4_copyFrom 197 b2 σ) mkX4_copyFrom lk_X0_59 (by omega) rfl rfl (Nat.le_of_ble_eq_true rfl) (td kX0_bestFollowed 7 rfl) (fun _ σ10 _ => ?_)
  refine X_aload_n (pc := 13) (td kX0_bestFollowed 8 rfl) rfl 2 rfl ?_
  refine X_getF (b := 197) (pc := 14) sC_196 rfl fk_X0_12 (td kX0_bestFollowed 9 rfl) ?_
  refine X_aload_n (pc := 17) (td kX0_bestFollowed 10 rfl) rfl 3 rfl ?_
  refine X_callip (pc := 18) (As := [.ref b1]) (st := []) (p_X4_homeBits 197 b1 σ10) sC_197 (x_X4_homeBits 197 b1 σ10) mkX4_homeBits lk_X0_94 (by omega) rfl rfl (Nat.le_of_ble_eq_true rfl) (td kX0_bestFollowed 11 rfl) (fun r18 hr18 => ?_)
  refine X_istore (L' := [(5, .int r18), (4, .int (-1 : Int32)), (3, .int (-1 : Int32)), (0, .ref 196), (1, .ref b1), (2, .ref b2)]) (pc := 21) (td kX0_bestFollowed 12 rfl) (by decide) rfl ?_
  refine X_iconst (v := (0 : Int32)) (pc := 23) (td kX0_bestFollowed 13 rfl) (by decide) ?_
  refine X_istore (L' := [(6, .int (0 : Int32)), (5, .int r18), (4, .int (-1 : Int32)), (3, .int (-1 : Int32)), (0, .ref 196), (1, .ref b1), (2, .ref b2)]) (pc := 24) (td kX0_bestFollowed 14 rfl) (by decide) rfl ?_
  refine X_jn (P := fun k => ∀ (x3_162 : Int32) (σ_162 : Mm), X (wsOf SHC) RX0 cX0_bestFollowed 11 (some .int) 5 0 162 [(3, .int x3_162)] [] σ_162 (k x3_162 σ_162)) (fun x3_162 σ_162 => ?_) (fun k162 h162 => ?_)
  · refine X_iload_n (pc := 162) (td kX0_bestFollowed 83 rfl) rfl 0 rfl ?_
    exact X_ret (pc := 163) (td kX0_bestFollowed 84 rfl) rfl
  · refine X_sub [4, 5, 3, 2, 1, 0] rfl ?_
    refine lq5_ind (P := fun x3_26 x4_26 x5_26 x6_26 σ_26 E => X (wsOf SHC) RX0 cX0_bestFollowed 11 (some .int) 5 0 26 [(0, .ref 196), (1, .ref b1), (3, .int x3_26), (4, .int x4_26), (5, .int x5_26), (6, .int x6_26)] [] σ_26 E) (fun _ _ _ _ _ => X_none) (fun rec26 hrec26 x3_26 x4_26 x5_26 x6_26 σ_26 => ?_) _ _ _ _ _ _
    unfold F_X0_bestFollowed_26
    refine X_iload (pc := 26) (td kX0_bestFollowed 15 rfl) 5 rfl ?_
    refine X_bipush (v := (99 : Int32)) (pc := 28) (td kX0_bestFollowed 16 rfl) (by decide) ?_
    refine X_icmp_ge (pc := 30) (tgt := 162) (td kX0_bestFollowed 17 rfl) (by decide) (fun c_30 => ?_) (fun c_30 => ?_)
    · refine X_sub [2] rfl ?_
      exact h162 x3_26 σ_26
    · refine X_aload_n (pc := 33) (td kX0_bestFollowed 18 rfl) rfl 0 rfl ?_
      refine X_getF (b := 197) (pc := 34) sC_196 rfl fk_X0_12 (td kX0_bestFollowed 19 rfl) ?_
      refine X_aload_n (pc := 37) (td kX0_bestFollowed 20 rfl) rfl 1 rfl ?_
      refine X_callip (pc := 38) (As := [.ref b1]) (st := []) (p_X4_isAllHome 197 b1 σ_26) sC_197 (x_X4_isAllHome 197 b1 σ_26) mkX4_isAllHome lk_X0_63 (by omega) rfl rfl (Nat.le_of_ble_eq_true rfl) (td kX0_bestFollowed 21 rfl) (fun r38 hr38 => ?_)
      refine X_if_ne (pc := 41) (tgt := 162) (td kX0_bestFollowed 22 rfl) (by decide) (fun c_41 => ?_) (fun c_41 => ?_)
      · refine X_sub [2] rfl ?_
        exact h162 x3_26 σ_26
      · refine X_aload_n (pc := 44) (td kX0_bestFollowed 23 rfl) rfl 0 rfl ?_
        refine X_getF (b := 197) (pc := 45) sC_196 rfl fk_X0_12 (td kX0_bestFollowed 24 rfl) ?_
        refine X_aload_n (pc := 48) (td kX0_bestFollowed 25 rfl) rfl 1 rfl ?_
        refine X_iconst (v := (0 : Int32)) (pc := 49) (td kX0_bestFollowed 26 rfl) (by decide) ?_
        refine X_callv (pc := 50) (As := [.ref b1, .int (0 : Int32)]) (st := []) sC_197 (x_X4_pass 197 b1 (0 : Int32) σ_26) mkX4_pass lk_X0_67 (by omega) rfl rfl (Nat.le_of_ble_eq_true rfl) (td kX0_bestFollowed 27 rfl) (fun _ σ50 _ => ?_)
        refine X_aload_n (pc := 53) (td kX0_bestFollowed 28 rfl) rfl 0 rfl ?_
        refine X_getF (b := 197) (pc := 54) sC_196 rfl fk_X0_12 (td kX0_bestFollowed 29 rfl) ?_
        refine X_aload_n (pc := 57) (td kX0_bestFollowed 30 rfl) rfl 1 rfl ?_
        refine X_callip (pc := 58) (As := [.ref b1]) (st := []) (p_X4_homeBits 197 b1 σ50) sC_197 (x_X4_homeBits 197 b1 σ50) mkX4_homeBits lk_X0_94 (by omega) rfl rfl (Nat.le_of_ble_eq_true rfl) (td kX0_bestFollowed 31 rfl) (fun r58 hr58 => ?_)
        refine X_iload (pc := 61) (td kX0_bestFollowed 32 rfl) 4 rfl ?_
        refine X_iconst (v := (-1 : Int32)) (pc := 63) (td kX0_bestFollowed 33 rfl) (by decide) ?_
        refine X_ixor (pc := 64) (td kX0_bestFollowed 34 rfl) ?_
        refine X_iand (pc := 65) (td kX0_bestFollowed 35 rfl) ?_
        refine X_bi (fun v7_66 => ?_)
        refine X_istore (L' := [(7, .int v7_66), (0, .ref 196), (1, .ref b1), (3, .int x3_26), (4, .int x4_26), (5, .int x5_26), (6, .int x6_26)]) (pc := 66) (td kX0_bestFollowed 36 rfl) (by decide) rfl ?_
        refine X_aload_n (pc := 68) (td kX0_bestFollowed 37 rfl) rfl 1 rfl ?_
        refine X_getF (b := 197) (pc := 69) sC_196 rfl fk_X0_12 (td kX0_bestFollowed 38 rfl) ?_
        refine X_aload_n (pc := 72) (td kX0_bestFollowed 39 rfl) rfl 2 rfl ?_
        refine X_callip (pc := 73) (As := [.ref b1]) (st := []) (p_X4_litBits 197 b1 σ50) sC_197 (x_X4_litBits 197 b1 σ50) mkX4_litBits lk_X0_81 (by omega) rfl rfl (Nat.le_of_ble_eq_true rfl) (td kX0_bestFollowed 40 rfl) (fun r73 hr73 => ?_)
        refine X_callsip (pc := 76) (As := [.int r73]) (st := []) (p_J6_bitCount_0f7a4 r73 σ50) (x_J6_bitCount_0f7a4 r73 σ50) mkJ6_bitCount_0f7a4 lk_X0_85 (by omega) rfl rfl (Nat.le_of_ble_eq_true rfl) (td kX0_bestFollowed 41 rfl) (fun r76 hr76 => ?_)
        refine X_istore (L' := [(8, .int r76), (7, .int v7_66), (0, .ref 196), (1, .ref b1), (3, .int x3_26), (4, .int x4_26), (5, .int x5_26), (6, .int x6_26)]) (pc := 79) (td kX0_bestFollowed 42 rfl) (by decide) rfl ?_
        refine X_iconst (v := (0 : Int32)) (pc := 81) (td kX0_bestFollowed 43 rfl) (by decide) ?_
        refine X_istore (L' := [(9, .int (0 : Int32)), (8, .int r76), (7, .int v7_66), (0, .ref 196), (1, .ref b1), (3, .int x3_26), (4, .int x4_26), (5, .int x5_26), (6, .int x6_26)]) (pc := 82) (td kX0_bestFollowed 44 rfl) (by decide) rfl ?_
        refine X_jn (P := fun k => ∀ (x3_149 : Int32) (x4_149 : Int32), X (wsOf SHC) RX0 cX0_bestFollowed 11 (some .int) 5 0 149 [(0, .ref 196), (1, .ref b1), (3, .int x3_149), (4, .int x4_149), (5, .int x5_26), (6, .int x6_26), (7, .int v7_66)] [] σ50 (k x3_149 x4_149)) (fun x3_149 x4_149 => ?_) (fun k149 h149 => ?_)
        · refine X_iload (pc := 149) (td kX0_bestFollowed 77 rfl) 4 rfl ?_
          refine X_iload (pc := 151) (td kX0_bestFollowed 78 rfl) 6 rfl ?_
          refine X_ior (pc := 153) (td kX0_bestFollowed 79 rfl) ?_
          refine X_bi (fun v5_154 => ?_)
          refine X_istore (L' := [(5, .int v5_154), (0, .ref 196), (1, .ref b1), (3, .int x3_149), (4, .int x4_149), (6, .int x6_26), (7, .int v7_66)]) (pc := 154) (td kX0_bestFollowed 80 rfl) (by decide) rfl ?_
          refine X_iinc (v := (x6_26 + (1 : Int32))) (L' := [(6, .int (x6_26 + (1 : Int32))), (5, .int v5_154), (0, .ref 196), (1, .ref b1), (3, .int x3_149), (4, .int x4_149), (7, .int v7_66)]) (pc := 156) (td kX0_bestFollowed 81 rfl) 5 rfl rfl (by decide) rfl ?_
          refine X_goto (pc := 159) (tgt := 26) (td kX0_bestFollowed 82 rfl) (by decide) ?_
          refine X_sub [2, 3, 4, 5, 1, 0] rfl ?_
          exact hrec26 x3_149 x4_149 v5_154 (x6_26 + (1 : Int32)) σ50
        · refine X_sub [3, 4, 5, 6, 7, 8, 2, 1, 0] rfl ?_
          refine lq3_ind (P := fun x3_84 x4_84 x9_84 E => X (wsOf SHC) RX0 cX0_bestFollowed 11 (some .int) 5 0 84 [(0, .ref 196), (1, .ref b1), (3, .int x3_84), (4, .int x4_84), (5, .int x5_26), (6, .int x6_26), (7, .int v7_66), (8, .int r76), (9, .int x9_84)] [] σ50 E) (fun _ _ _ => X_none) (fun rec84 hrec84 x3_84 x4_84 x9_84 => ?_) _ _ _ _
          unfold F_X0_bestFollowed_84
          refine X_iload (pc := 84) (td kX0_bestFollowed 45 rfl) 8 rfl ?_
          refine X_aload_n (pc := 86) (td kX0_bestFollowed 46 rfl) rfl 1 rfl ?_
          refine X_getI (pc := 87) b1_s0 rfl fk_X0_97 (td kX0_bestFollowed 47 rfl) ?_
          refine X_icmp_ge (pc := 90) (tgt := 149) (td kX0_bestFollowed 48 rfl) (by decide) (fun c_90 => ?_) (fun c_90 => ?_)
          · refine X_sub [0, 1, 2, 3, 4, 5, 6] rfl ?_
            exact h149 x3_84 x4_84
          · refine X_iload (pc := 93) (td kX0_bestFollowed 49 rfl) 7 rfl ?_
            refine X_iload (pc := 95) (td kX0_bestFollowed 50 rfl) 3 rfl ?_
            refine X_jn (P := fun k => ∀ (y0_118 : Int32), X (wsOf SHC) RX0 cX0_bestFollowed 11 (some .int) 5 0 118 [(0, .ref 196), (1, .ref b1), (3, .int x3_84), (4, .int x4_84), (5, .int x5_26), (6, .int x6_26), (7, .int v7_66), (8, .int r76), (9, .int x9_84)] [.int y0_118] σ50 (k y0_118)) (fun y0_118 => ?_) (fun k118 h118 => ?_)
            · refine X_istore (L' := [(10, .int y0_118), (0, .ref 196), (1, .ref b1), (3, .int x3_84), (4, .int x4_84), (5, .int x5_26), (6, .int x6_26), (7, .int v7_66), (8, .int r76), (9, .int x9_84)]) (pc := 118) (td kX0_bestFollowed 61 rfl) (by decide) rfl ?_
              refine X_iload (pc := 120) (td kX0_bestFollowed 62 rfl) 7 rfl ?_
              refine X_iload (pc := 122) (td kX0_bestFollowed 63 rfl) 9 rfl ?_
              refine X_ishr (pc := 124) (td kX0_bestFollowed 64 rfl) ?_
              refine X_iconst (v := (1 : Int32)) (pc := 125) (td kX0_bestFollowed 65 rfl) (by decide) ?_
              refine X_iand (pc := 126) (td kX0_bestFollowed 66 rfl) ?_
              refine X_iconst (v := (1 : Int32)) (pc := 127) (td kX0_bestFollowed 67 rfl) (by decide) ?_
              refine X_jn (P := fun k => ∀ (x3_143 : Int32) (x4_143 : Int32), X (wsOf SHC) RX0 cX0_bestFollowed 11 (some .int) 5 0 143 [(0, .ref 196), (1, .ref b1), (3, .int x3_143), (4, .int x4_143), (5, .int x5_26), (6, .int x6_26), (7, .int v7_66), (8, .int r76), (9, .int x9_84)] [] σ50 (k x3_143 x4_143)) (fun x3_143 x4_143 => ?_) (fun k143 h143 => ?_)
              · refine X_iinc (v := (x9_84 + (1 : Int32))) (L' := [(9, .int (x9_84 + (1 : Int32))), (0, .ref 196), (1, .ref b1), (3, .int x3_143), (4, .int x4_143), (5, .int x5_26), (6, .int x6_26), (7, .int v7_66), (8, .int r76)]) (pc := 143) (td kX0_bestFollowed 75 rfl) 8 rfl rfl (by decide) rfl ?_
                refine X_goto (pc := 146) (tgt := 84) (td kX0_bestFollowed 76 rfl) (by decide) ?_
                refine X_sub [1, 2, 3, 4, 5, 6, 7, 8, 0] rfl ?_
                exact hrec84 x3_143 x4_143 (x9_84 + (1 : Int32))
              · refine X_icmp_ne (pc := 128) (tgt := 143) (td kX0_bestFollowed 68 rfl) (by decide) (fun c_128 => ?_) (fun c_128 => ?_)
                · refine X_sub [1, 2, 3, 4, 5, 6, 7, 8, 9] rfl ?_
                  exact h143 x3_84 x4_84
                · refine X_iload (pc := 131) (td kX0_bestFollowed 69 rfl) 0 rfl ?_
                  refine X_if_eq (pc := 133) (tgt := 143) (td kX0_bestFollowed 70 rfl) (by decide) (fun c_133 => ?_) (fun c_133 => ?_)
                  · refine X_sub [1, 2, 3, 4, 5, 6, 7, 8, 9] rfl ?_
                    exact h143 x3_84 x4_84
                  · refine X_iload (pc := 136) (td kX0_bestFollowed 71 rfl) 9 rfl ?_
                    refine X_istore_n (L' := [(3, .int x9_84), (10, .int y0_118), (0, .ref 196), (1, .ref b1), (4, .int x4_84), (5, .int x5_26), (6, .int x6_26), (7, .int v7_66), (8, .int r76), (9, .int x9_84)]) (pc := 138) (td kX0_bestFollowed 72 rfl) rfl (by decide) rfl ?_
                    refine X_iload (pc := 139) (td kX0_bestFollowed 73 rfl) 8 rfl ?_
                    refine X_istore (L' := [(4, .int r76), (3, .int x9_84), (10, .int y0_118), (0, .ref 196), (1, .ref b1), (5, .int x5_26), (6, .int x6_26), (7, .int v7_66), (8, .int r76), (9, .int x9_84)]) (pc := 141) (td kX0_bestFollowed 74 rfl) (by decide) rfl ?_
                    refine X_sub [3, 4, 1, 0, 5, 6, 7, 8, 9] rfl ?_
                    exact h143 x9_84 r76
            · refine X_jn (P := fun k => X (wsOf SHC) RX0 cX0_bestFollowed 11 (some .int) 5 0 113 [(0, .ref 196), (1, .ref b1), (3, .int x3_84), (4, .int x4_84), (5, .int x5_26), (6, .int x6_26), (7, .int v7_66), (8, .int r76), (9, .int x9_84)] [] σ50 k) ?_ (fun k113 h113 => ?_)
              · refine X_iconst (v := (1 : Int32)) (pc := 113) (td kX0_bestFollowed 58 rfl) (by decide) ?_
                refine X_goto (pc := 114) (tgt := 118) (td kX0_bestFollowed 59 rfl) (by decide) ?_
                exact h118 (1 : Int32)
              · refine X_icmp_gt (pc := 97) (tgt := 113) (td kX0_bestFollowed 51 rfl) (by decide) (fun c_97 => ?_) (fun c_97 => ?_)
                · exact h113
                · refine X_iload (pc := 100) (td kX0_bestFollowed 52 rfl) 7 rfl ?_
                  refine X_iload (pc := 102) (td kX0_bestFollowed 53 rfl) 3 rfl ?_
                  refine X_jn (P := fun k => X (wsOf SHC) RX0 cX0_bestFollowed 11 (some .int) 5 0 117 [(0, .ref 196), (1, .ref b1), (3, .int x3_84), (4, .int x4_84), (5, .int x5_26), (6, .int x6_26), (7, .int v7_66), (8, .int r76), (9, .int x9_84)] [] σ50 k) ?_ (fun k117 h117 => ?_)
                  · refine X_iconst (v := (0 : Int32)) (pc := 117) (td kX0_bestFollowed 60 rfl) (by decide) ?_
                    exact h118 (0 : Int32)
                  · refine X_icmp_ne (pc := 104) (tgt := 117) (td kX0_bestFollowed 54 rfl) (by decide) (fun c_104 => ?_) (fun c_104 => ?_)
                    · exact h117
                    · refine X_iload (pc := 107) (td kX0_bestFollowed 55 rfl) 8 rfl ?_
                      refine X_iload_n (pc := 109) (td kX0_bestFollowed 56 rfl) rfl 2 rfl ?_
                      refine X_icmp_ge (pc := 110) (tgt := 117) (td kX0_bestFollowed 57 rfl) (by decide) (fun c_110 => ?_) (fun c_110 => ?_)
                      · exact h117
                      · exact h113
def F_X0_brightest_26 (b1 : Nat) (k87 : Int32 → Mm → Option (Int32 × Mm)) (rec26 : Int32 → Int32 → Int32 → Mm → Option (Int32 × Mm)) (x3_26 : Int32) (x4_26 : Int32) (x5_26 : Int32) (σ_26 : Mm) : Option (Int32 × Mm) := (if x5_26 < (99 : Int32) then cl (f_X4_isAllHome 197 b1 σ_26) (fun r38 _ => (if r38 = 0 then cl (f_X4_pass 197 b1 (0 : Int32) σ_26) (fun _ σ50 => cl (f_X4_litBits 197 b1 σ50) (fun r58 _ => cl (f_J6_bitCount_0f7a4 r58 σ50) (fun r61 _ => jn (fun (x3_81 : Int32) (x4_81 : Int32) => rec26 x3_81 x4_81 (x5_26 + (1 : Int32)) σ50) (fun k81 => (if x3_26 < r61 then bn (x5_26 + (1 : Int32)) (fun v4_79 => k81 r61 v4_79) else k81 x3_26 x4_26))))) else k87 x4_26 σ_26)) else k87 x4_26 σ_26)
def f_X0_brightest (b1 : Nat) (b2 : Nat) (σ : Mm) : Option (Int32 × Mm) := ck (isTown b1) (ck (isNight b2) (cl (f_X4_copyFrom 197 b2 σ) (fun _ σ5 => cl (f_X4_litBits 197 b1 σ5) (fun r13 _ => cl (f_J6_bitCount_0f7a4 r13 σ5) (fun r16 _ => jn (fun (x4_87 : Int32) (σ_87 : Mm) => some (x4_87, σ_87)) (fun k87 => lq4 (F_X0_brightest_26 b1 k87) 1000000 r16 (0 : Int32) (0 : Int32) σ5))))))
set_option maxHeartbeats 4000000 in
set_option maxRecDepth 100000 in
theorem x_X0_brightest (b1 : Nat) (b2 : Nat) (σ : Mm) : Con (wsOf SHC) yX0_brightest cX0_brightest 7 (some .int) 5 [.ref 196, .ref b1, .ref b2] σ (f_X0_brightest b1 b2 σ) := by
  refine Con.of_X (by decide +kernel) (Nat.le_of_ble_eq_true rfl) ?_
  unfold f_X0_brightest
  show X (wsOf SHC) RX0 cX0_brightest 7 (some .int) 5 0 0 [(0, .ref 196), (1, .ref b1), (2, .ref b2)] [] σ _
  refine X_ck (fun b1_h => ?_)
  obtain ⟨b1_s0, b1_s1, b1_s2, b1_s3, b1_s4, b1_s5, b1_s6, b1_s7, b1_s8, b1_s9, b1_s10, b1_s11, b1_s12, b1_s13, b1_s14⟩ := knTown b1_h
  refine X_ck (fun b2_h => ?_)
  obtain ⟨b2_s0, b2_s1, b2_s2, b2_s3, b2_s4, b2_s5, b2_s6⟩ := knNight b2_h
  refine X_aload_n (pc := 0) (td kX0_brightest 0 rfl) rfl 0 rfl ?_
  refine X_getF (b := 197) (pc := 1) sC_196 rfl fk_X0_12 (td kX0_brightest 1 rfl) ?_
  refine X_aload_n (pc := 4) (td kX0_brightest 2 rfl) rfl 2 rfl ?_
  refine X_callv (pc := 5) (As := [.ref b2]) (st := []) sC_197 (x_X4_copyFrom 197 b2 σ) mkX4_copyFrom lk_X0_59 (by omega) rfl rfl (Nat.le_of_ble_eq_true rfl) (td kX0_brightest 3 rfl) (fun _ σ5 _ => ?_)
  refine X_aload_n (pc := 8) (td kX0_brightest 4 rfl) rfl 0 rfl ?_
  refine X_getF (b := 197) (pc := 9) sC_196 rfl fk_X0_12 (td kX0_brightest 5 rfl) ?_
  refine X_aload_n (pc := 12) (td kX0_brightest 6 rfl) rfl 1 rfl ?_
  refine X_callip (pc := 13) (As := [.ref b1]) (st := []) (p_X4_litBits 197 b1 σ5) sC_197 (x_X4_litBits 197 b1 σ5) mkX4_litBits lk_X0_81 (by omega) rfl rfl (Nat.le_of_ble_eq_true rfl) (td kX0_brightest 7 rfl) (fun r13 hr13 => ?_)
  refine X_callsip (pc := 16) (As := [.int r13]) (st := []) (p_J6_bitCount_0f7a4 r13 σ5) (x_J6_bitCount_0f7a4 r13 σ5) mkJ6_bitCount_0f7a4 lk_X0_85 (by omega) rfl rfl (Nat.le_of_ble_eq_true rfl) (td kX0_brightest 8 rfl) (fun r16 hr16 => ?_)
  refine X_istore_n (L' := [(3, .int r16), (0, .ref 196), (1, .ref b1), (2, .ref b2)]) (pc := 19) (td kX0_brightest 9 rfl) rfl (by decide) rfl ?_
  refine X_iconst (v := (0 : Int32)) (pc := 20) (td kX0_brightest 10 rfl) (by decide) ?_
  refine X_istore (L' := [(4, .int (0 : Int32)), (3, .int r16), (0, .ref 196), (1, .ref b1), (2, .ref b2)]) (pc := 21) (td kX0_brightest 11 rfl) (by decide) rfl ?_
  refine X_iconst (v := (0 : Int32)) (pc := 23) (td kX0_brightest 12 rfl) (by decide) ?_
  refine X_istore (L' := [(5, .int (0 : Int32)), (4, .int (0 : Int32)), (3, .int r16), (0, .ref 196), (1, .ref b1), (2, .ref b2)]) (pc := 24) (td kX0_brightest 13 rfl) (by decide) rfl ?_
  refine X_jn (P := fun k => ∀ (x4_87 : Int32) (σ_87 : Mm), X (wsOf SHC) RX0 cX0_brightest 7 (some .int) 5 0 87 [(4, .int x4_87)] [] σ_87 (k x4_87 σ_87)) (fun x4_87 σ_87 => ?_) (fun k87 h87 => ?_)
  · refine X_iload (pc := 87) (td kX0_brightest 44 rfl) 0 rfl ?_
    exact X_ret (pc := 89) (td kX0_brightest 45 rfl) rfl
  · refine X_sub [3, 4, 2, 1, 0] rfl ?_
    refine lq4_ind (P := fun x3_26 x4_26 x5_26 σ_26 E => X (wsOf SHC) RX0 cX0_brightest 7 (some .int) 5 0 26 [(0, .ref 196), (1, .ref b1), (3, .int x3_26), (4, .int x4_26), (5, .int x5_26)] [] σ_26 E) (fun _ _ _ _ => X_none) (fun rec26 hrec26 x3_26 x4_26 x5_26 σ_26 => ?_) _ _ _ _ _
    unfold F_X0_brightest_26
    refine X_iload (pc := 26) (td kX0_brightest 14 rfl) 4 rfl ?_
    refine X_bipush (v := (99 : Int32)) (pc := 28) (td kX0_brightest 15 rfl) (by decide) ?_
    refine X_icmp_ge (pc := 30) (tgt := 87) (td kX0_brightest 16 rfl) (by decide) (fun c_30 => ?_) (fun c_30 => ?_)
    · refine X_sub [3] rfl ?_
      exact h87 x4_26 σ_26
    · refine X_aload_n (pc := 33) (td kX0_brightest 17 rfl) rfl 0 rfl ?_
      refine X_getF (b := 197) (pc := 34) sC_196 rfl fk_X0_12 (td kX0_brightest 18 rfl) ?_
      refine X_aload_n (pc := 37) (td kX0_brightest 19 rfl) rfl 1 rfl ?_
      refine X_callip (pc := 38) (As := [.ref b1]) (st := []) (p_X4_isAllHome 197 b1 σ_26) sC_197 (x_X4_isAllHome 197 b1 σ_26) mkX4_isAllHome lk_X0_63 (by omega) rfl rfl (Nat.le_of_ble_eq_true rfl) (td kX0_brightest 20 rfl) (fun r38 hr38 => ?_)
      refine X_if_ne (pc := 41) (tgt := 87) (td kX0_brightest 21 rfl) (by decide) (fun c_41 => ?_) (fun c_41 => ?_)
      · refine X_sub [3] rfl ?_
        exact h87 x4_26 σ_26
      · refine X_aload_n (pc := 44) (td kX0_brightest 22 rfl) rfl 0 rfl ?_
        refine X_getF (b := 197) (pc := 45) sC_196 rfl fk_X0_12 (td kX0_brightest 23 rfl) ?_
        refine X_aload_n (pc := 48) (td kX0_brightest 24 rfl) rfl 1 rfl ?_
        refine X_iconst (v := (0 : Int32)) (pc := 49) (td kX0_brightest 25 rfl) (by decide) ?_
        refine X_callv (pc := 50) (As := [.ref b1, .int (0 : Int32)]) (st := []) sC_197 (x_X4_pass 197 b1 (0 : Int32) σ_26) mkX4_pass lk_X0_67 (by omega) rfl rfl (Nat.le_of_ble_eq_true rfl) (td kX0_brightest 26 rfl) (fun _ σ50 _ => ?_)
        refine X_aload_n (pc := 53) (td kX0_brightest 27 rfl) rfl 0 rfl ?_
        refine X_getF (b := 197) (pc := 54) sC_196 rfl fk_X0_12 (td kX0_brightest 28 rfl) ?_
        refine X_aload_n (pc := 57) (td kX0_brightest 29 rfl) rfl 1 rfl ?_
        refine X_callip (pc := 58) (As := [.ref b1]) (st := []) (p_X4_litBits 197 b1 σ50) sC_197 (x_X4_litBits 197 b1 σ50) mkX4_litBits lk_X0_81 (by omega) rfl rfl (Nat.le_of_ble_eq_true rfl) (td kX0_brightest 30 rfl) (fun r58 hr58 => ?_)
        refine X_callsip (pc := 61) (As := [.int r58]) (st := []) (p_J6_bitCount_0f7a4 r58 σ50) (x_J6_bitCount_0f7a4 r58 σ50) mkJ6_bitCount_0f7a4 lk_X0_85 (by omega) rfl rfl (Nat.le_of_ble_eq_true rfl) (td kX0_brightest 31 rfl) (fun r61 hr61 => ?_)
        refine X_istore (L' := [(6, .int r61), (0, .ref 196), (1, .ref b1), (3, .int x3_26), (4, .int x4_26), (5, .int x5_26)]) (pc := 64) (td kX0_brightest 32 rfl) (by decide) rfl ?_
        refine X_iload (pc := 66) (td kX0_brightest 33 rfl) 0 rfl ?_
        refine X_iload_n (pc := 68) (td kX0_brightest 34 rfl) rfl 3 rfl ?_
        refine X_jn (P := fun k => ∀ (x3_81 : Int32) (x4_81 : Int32), X (wsOf SHC) RX0 cX0_brightest 7 (some .int) 5 0 81 [(0, .ref 196), (1, .ref b1), (3, .int x3_81), (4, .int x4_81), (5, .int x5_26)] [] σ50 (k x3_81 x4_81)) (fun x3_81 x4_81 => ?_) (fun k81 h81 => ?_)
        · refine X_iinc (v := (x5_26 + (1 : Int32))) (L' := [(5, .int (x5_26 + (1 : Int32))), (0, .ref 196), (1, .ref b1), (3, .int x3_81), (4, .int x4_81)]) (pc := 81) (td kX0_brightest 42 rfl) 4 rfl rfl (by decide) rfl ?_
          refine X_goto (pc := 84) (tgt := 26) (td kX0_brightest 43 rfl) (by decide) ?_
          refine X_sub [1, 2, 3, 4, 0] rfl ?_
          exact hrec26 x3_81 x4_81 (x5_26 + (1 : Int32)) σ50
        · refine X_icmp_le (pc := 69) (tgt := 81) (td kX0_brightest 35 rfl) (by decide) (fun c_69 => ?_) (fun c_69 => ?_)
          · refine X_sub [1, 2, 3, 4, 5] rfl ?_
            exact h81 x3_26 x4_26
          · refine X_iload (pc := 72) (td kX0_brightest 36 rfl) 0 rfl ?_
            refine X_istore_n (L' := [(3, .int r61), (6, .int r61), (0, .ref 196), (1, .ref b1), (4, .int x4_26), (5, .int x5_26)]) (pc := 74) (td kX0_brightest 37 rfl) rfl (by decide) rfl ?_
            refine X_iload (pc := 75) (td kX0_brightest 38 rfl) 5 rfl ?_
            refine X_iconst (v := (1 : Int32)) (pc := 77) (td kX0_brightest 39 rfl) (by decide) ?_
            refine X_iadd (pc := 78) (td kX0_brightest 40 rfl) ?_
            refine X_bi (fun v4_79 => ?_)
            refine X_istore (L' := [(4, .int v4_79), (3, .int r61), (6, .int r61), (0, .ref 196), (1, .ref b1), (5, .int x5_26)]) (pc := 79) (td kX0_brightest 41 rfl) (by decide) rfl ?_
            refine X_sub [3, 4, 1, 0, 5] rfl ?_
            exact h81 r61 v4_79
def F_X0_darkTimesOfAll_12 (b1 : Nat) (p2 : Int32) (p3 : Int32) (v4_7 : Int32) (k62 : Mm → Option (Int32 × Mm)) (rec12 : Int32 → Mm → Option (Int32 × Mm)) (x5_12 : Int32) (σ_12 : Mm) : Option (Int32 × Mm) := (if x5_12 < (99 : Int32) then cl (f_X4_isAllHome 197 b1 σ_12) (fun r24 _ => (if r24 = 0 then (if p3 < ((gI σ_12 197 2) - v4_7) then k62 σ_12 else cl (f_X4_pass 197 b1 p2 σ_12) (fun _ σ53 => rec12 (x5_12 + (1 : Int32)) σ53)) else k62 σ_12)) else k62 σ_12)
def f_X0_darkTimesOfAll (b1 : Nat) (p2 : Int32) (p3 : Int32) (σ : Mm) : Option (Int32 × Mm) := ck (isTown b1) (bn (gI σ 197 2) (fun v4_7 => jn (fun (σ_62 : Mm) => some (((gI σ_62 197 2) - v4_7), σ_62)) (fun k62 => lq2 (F_X0_darkTimesOfAll_12 b1 p2 p3 v4_7 k62) 1000000 (0 : Int32) σ)))
set_option maxHeartbeats 4000000 in
set_option maxRecDepth 100000 in
theorem x_X0_darkTimesOfAll (b1 : Nat) (p2 : Int32) (p3 : Int32) (σ : Mm) : Con (wsOf SHC) yX0_darkTimesOfAll cX0_darkTimesOfAll 6 (some .int) 5 [.ref 196, .ref b1, .int p2, .int p3] σ (f_X0_darkTimesOfAll b1 p2 p3 σ) := by
  refine Con.of_X (by decide +kernel) (Nat.le_of_ble_eq_true rfl) ?_
  unfold f_X0_darkTimesOfAll
  show X (wsOf SHC) RX0 cX0_darkTimesOfAll 6 (some .int) 5 0 0 [(0, .ref 196), (1, .ref b1), (2, .int p2), (3, .int p3)] [] σ _
  refine X_ck (fun b1_h => ?_)
  obtain ⟨b1_s0, b1_s1, b1_s2, b1_s3, b1_s4, b1_s5, b1_s6, b1_s7, b1_s8, b1_s9, b1_s10, b1_s11, b1_s12, b1_s13, b1_s14⟩ := knTown b1_h
  refine X_aload_n (pc := 0) (td kX0_darkTimesOfAll 0 rfl) rfl 0 rfl ?_
  refine X_getF (b := 197) (pc := 1) sC_196 rfl fk_X0_12 (td kX0_darkTimesOfAll 1 rfl) ?_
  refine X_getI (pc := 4) sC_197 rfl fk_X0_42 (td kX0_darkTimesOfAll 2 rfl) ?_
  refine X_bi (fun v4_7 => ?_)
  refine X_istore (L' := [(4, .int v4_7), (0, .ref 196), (1, .ref b1), (2, .int p2), (3, .int p3)]) (pc := 7) (td kX0_darkTimesOfAll 3 rfl) (by decide) rfl ?_
  refine X_iconst (v := (0 : Int32)) (pc := 9) (td kX0_darkTimesOfAll 4 rfl) (by decide) ?_
  refine X_istore (L' := [(5, .int (0 : Int32)), (4, .int v4_7), (0, .ref 196), (1, .ref b1), (2, .int p2), (3, .int p3)]) (pc := 10) (td kX0_darkTimesOfAll 5 rfl) (by decide) rfl ?_
  refine X_jn (P := fun k => ∀ (σ_62 : Mm), X (wsOf SHC) RX0 cX0_darkTimesOfAll 6 (some .int) 5 0 62 [(0, .ref 196), (4, .int v4_7)] [] σ_62 (k σ_62)) (fun σ_62 => ?_) (fun k62 h62 => ?_)
  · refine X_aload_n (pc := 62) (td kX0_darkTimesOfAll 29 rfl) rfl 0 rfl ?_
    refine X_getF (b := 197) (pc := 63) sC_196 rfl fk_X0_12 (td kX0_darkTimesOfAll 30 rfl) ?_
    refine X_getI (pc := 66) sC_197 rfl fk_X0_42 (td kX0_darkTimesOfAll 31 rfl) ?_
    refine X_iload (pc := 69) (td kX0_darkTimesOfAll 32 rfl) 1 rfl ?_
    refine X_isub (pc := 71) (td kX0_darkTimesOfAll 33 rfl) ?_
    exact X_ret (pc := 72) (td kX0_darkTimesOfAll 34 rfl) rfl
  · refine X_sub [2, 3, 4, 5, 1, 0] rfl ?_
    refine lq2_ind (P := fun x5_12 σ_12 E => X (wsOf SHC) RX0 cX0_darkTimesOfAll 6 (some .int) 5 0 12 [(0, .ref 196), (1, .ref b1), (2, .int p2), (3, .int p3), (4, .int v4_7), (5, .int x5_12)] [] σ_12 E) (fun _ _ => X_none) (fun rec12 hrec12 x5_12 σ_12 => ?_) _ _ _
    unfold F_X0_darkTimesOfAll_12
    refine X_iload (pc := 12) (td kX0_darkTimesOfAll 6 rfl) 5 rfl ?_
    refine X_bipush (v := (99 : Int32)) (pc := 14) (td kX0_darkTimesOfAll 7 rfl) (by decide) ?_
    refine X_icmp_ge (pc := 16) (tgt := 62) (td kX0_darkTimesOfAll 8 rfl) (by decide) (fun c_16 => ?_) (fun c_16 => ?_)
    · refine X_sub [0, 4] rfl ?_
      exact h62 σ_12
    · refine X_aload_n (pc := 19) (td kX0_darkTimesOfAll 9 rfl) rfl 0 rfl ?_
      refine X_getF (b := 197) (pc := 20) sC_196 rfl fk_X0_12 (td kX0_darkTimesOfAll 10 rfl) ?_
      refine X_aload_n (pc := 23) (td kX0_darkTimesOfAll 11 rfl) rfl 1 rfl ?_
      refine X_callip (pc := 24) (As := [.ref b1]) (st := []) (p_X4_isAllHome 197 b1 σ_12) sC_197 (x_X4_isAllHome 197 b1 σ_12) mkX4_isAllHome lk_X0_63 (by omega) rfl rfl (Nat.le_of_ble_eq_true rfl) (td kX0_darkTimesOfAll 12 rfl) (fun r24 hr24 => ?_)
      refine X_if_ne (pc := 27) (tgt := 62) (td kX0_darkTimesOfAll 13 rfl) (by decide) (fun c_27 => ?_) (fun c_27 => ?_)
      · refine X_sub [0, 4] rfl ?_
        exact h62 σ_12
      · refine X_aload_n (pc := 30) (td kX0_darkTimesOfAll 14 rfl) rfl 0 rfl ?_
        refine X_getF (b := 197) (pc := 31) sC_196 rfl fk_X0_12 (td kX0_darkTimesOfAll 15 rfl) ?_
        refine X_getI (pc := 34) sC_197 rfl fk_X0_42 (td kX0_darkTimesOfAll 16 rfl) ?_
        refine X_iload (pc := 37) (td kX0_darkTimesOfAll 17 rfl) 4 rfl ?_
        refine X_isub (pc := 39) (td kX0_darkTimesOfAll 18 rfl) ?_
        refine X_iload_n (pc := 40) (td kX0_darkTimesOfAll 19 rfl) rfl 3 rfl ?_
        refine X_icmp_le (pc := 41) (tgt := 47) (td kX0_darkTimesOfAll 20 rfl) (by decide) (fun c_41 => ?_) (fun c_41 => ?_)
        · refine X_aload_n (pc := 47) (td kX0_darkTimesOfAll 22 rfl) rfl 0 rfl ?_
          refine X_getF (b := 197) (pc := 48) sC_196 rfl fk_X0_12 (td kX0_darkTimesOfAll 23 rfl) ?_
          refine X_aload_n (pc := 51) (td kX0_darkTimesOfAll 24 rfl) rfl 1 rfl ?_
          refine X_iload_n (pc := 52) (td kX0_darkTimesOfAll 25 rfl) rfl 2 rfl ?_
          refine X_callv (pc := 53) (As := [.ref b1, .int p2]) (st := []) sC_197 (x_X4_pass 197 b1 p2 σ_12) mkX4_pass lk_X0_67 (by omega) rfl rfl (Nat.le_of_ble_eq_true rfl) (td kX0_darkTimesOfAll 26 rfl) (fun _ σ53 _ => ?_)
          refine X_iinc (v := (x5_12 + (1 : Int32))) (L' := [(5, .int (x5_12 + (1 : Int32))), (0, .ref 196), (1, .ref b1), (2, .int p2), (3, .int p3), (4, .int v4_7)]) (pc := 56) (td kX0_darkTimesOfAll 27 rfl) 5 rfl rfl (by decide) rfl ?_
          refine X_goto (pc := 59) (tgt := 12) (td kX0_darkTimesOfAll 28 rfl) (by decide) ?_
          refine X_sub [1, 2, 3, 4, 5, 0] rfl ?_
          exact hrec12 (x5_12 + (1 : Int32)) σ53
        · refine X_goto (pc := 44) (tgt := 62) (td kX0_darkTimesOfAll 21 rfl) (by decide) ?_
          refine X_sub [0, 4] rfl ?_
          exact h62 σ_12
def f_X0_darkTimesIfLonger (b1 : Nat) (b2 : Nat) (p3 : Int32) (σ : Mm) : Option (Int32 × Mm) := ck (isTown b1) (ck (isNight b2) (cl (f_X4_copyFrom 197 b2 σ) (fun _ σ5 => cl (f_X0_darkTimesOfAll b1 p3 (1000000 : Int32) σ5) (fun r13 σ13 => some (r13, σ13)))))
set_option maxHeartbeats 4000000 in
set_option maxRecDepth 100000 in
theorem x_X0_darkTimesIfLonger (b1 : Nat) (b2 : Nat) (p3 : Int32) (σ : Mm) : Con (wsOf SHC) yX0_darkTimesIfLonger cX0_darkTimesIfLonger 4 (some .int) 6 [.ref 196, .ref b1, .ref b2, .int p3] σ (f_X0_darkTimesIfLonger b1 b2 p3 σ) := by
  refine Con.of_X (by decide +kernel) (Nat.le_of_ble_eq_true rfl) ?_
  unfold f_X0_darkTimesIfLonger
  show X (wsOf SHC) RX0 cX0_darkTimesIfLonger 4 (some .int) 6 0 0 [(0, .ref 196), (1, .ref b1), (2, .ref b2), (3, .int p3)] [] σ _
  refine X_ck (fun b1_h => ?_)
  obtain ⟨b1_s0, b1_s1, b1_s2, b1_s3, b1_s4, b1_s5, b1_s6, b1_s7, b1_s8, b1_s9, b1_s10, b1_s11, b1_s12, b1_s13, b1_s14⟩ := knTown b1_h
  refine X_ck (fun b2_h => ?_)
  obtain ⟨b2_s0, b2_s1, b2_s2, b2_s3, b2_s4, b2_s5, b2_s6⟩ := knNight b2_h
  refine X_aload_n (pc := 0) (td kX0_darkTimesIfLonger 0 rfl) rfl 0 rfl ?_
  refine X_getF (b := 197) (pc := 1) sC_196 rfl fk_X0_12 (td kX0_darkTimesIfLonger 1 rfl) ?_
  refine X_aload_n (pc := 4) (td kX0_darkTimesIfLonger 2 rfl) rfl 2 rfl ?_
  refine X_callv (pc := 5) (As := [.ref b2]) (st := []) sC_197 (x_X4_copyFrom 197 b2 σ) mkX4_copyFrom lk_X0_59 (by omega) rfl rfl (Nat.le_of_ble_eq_true rfl) (td kX0_darkTimesIfLonger 3 rfl) (fun _ σ5 _ => ?_)
  refine X_aload_n (pc := 8) (td kX0_darkTimesIfLonger 4 rfl) rfl 0 rfl ?_
  refine X_aload_n (pc := 9) (td kX0_darkTimesIfLonger 5 rfl) rfl 1 rfl ?_
  refine X_iload_n (pc := 10) (td kX0_darkTimesIfLonger 6 rfl) rfl 3 rfl ?_
  refine X_ldc (v := (1000000 : Int32)) (pc := 11) (td kX0_darkTimesIfLonger 7 rfl) cn_X0_102 ?_
  refine X_calli (pc := 13) (As := [.ref b1, .int p3, .int (1000000 : Int32)]) (st := []) sC_196 (x_X0_darkTimesOfAll b1 p3 (1000000 : Int32) σ5) mkX0_darkTimesOfAll lk_X0_121 (by omega) rfl rfl (Nat.le_of_ble_eq_true rfl) (td kX0_darkTimesIfLonger 8 rfl) (fun r13 σ13 _ hr13 => ?_)
  exact X_ret (pc := 16) (td kX0_darkTimesIfLonger 9 rfl) rfl
def F_X0_darkTimesOf_14 (b1 : Nat) (p3 : Int32) (k63 : Int32 → Mm → Option (Int32 × Mm)) (rec14 : Int32 → Int32 → Mm → Option (Int32 × Mm)) (x4_14 : Int32) (x5_14 : Int32) (σ_14 : Mm) : Option (Int32 × Mm) := (if x5_14 < (99 : Int32) then cl (f_X4_isAllHome 197 b1 σ_14) (fun r26 _ => (if r26 = 0 then cl (f_X4_pass 197 b1 (0 : Int32) σ_14) (fun _ σ38 => bn (x4_14 + (((gI σ38 197 9) >>> (p3 &&& 31)) &&& (1 : Int32))) (fun v4_55 => rec14 v4_55 (x5_14 + (1 : Int32)) σ38)) else k63 x4_14 σ_14)) else k63 x4_14 σ_14)
def f_X0_darkTimesOf (b1 : Nat) (b2 : Nat) (p3 : Int32) (σ : Mm) : Option (Int32 × Mm) := ck (isTown b1) (ck (isNight b2) (cl (f_X4_copyFrom 197 b2 σ) (fun _ σ8 => jn (fun (x4_63 : Int32) (σ_63 : Mm) => some (x4_63, σ_63)) (fun k63 => lq3 (F_X0_darkTimesOf_14 b1 p3 k63) 1000000 (0 : Int32) (0 : Int32) σ8))))
set_option maxHeartbeats 4000000 in
set_option maxRecDepth 100000 in
theorem x_X0_darkTimesOf (b1 : Nat) (b2 : Nat) (p3 : Int32) (σ : Mm) : Con (wsOf SHC) yX0_darkTimesOf cX0_darkTimesOf 6 (some .int) 5 [.ref 196, .ref b1, .ref b2, .int p3] σ (f_X0_darkTimesOf b1 b2 p3 σ) := by
  refine Con.of_X (by decide +kernel) (Nat.le_of_ble_eq_true rfl) ?_
  unfold f_X0_darkTimesOf
  show X (wsOf SHC) RX0 cX0_darkTimesOf 6 (some .int) 5 0 0 [(0, .ref 196), (1, .ref b1), (2, .ref b2), (3, .int p3)] [] σ _
  refine X_ck (fun b1_h => ?_)
  obtain ⟨b1_s0, b1_s1, b1_s2, b1_s3, b1_s4, b1_s5, b1_s6, b1_s7, b1_s8, b1_s9, b1_s10, b1_s11, b1_s12, b1_s13, b1_s14⟩ := knTown b1_h
  refine X_ck (fun b2_h => ?_)
  obtain ⟨b2_s0, b2_s1, b2_s2, b2_s3, b2_s4, b2_s5, b2_s6⟩ := knNight b2_h
  refine X_iconst (v := (0 : Int32)) (pc := 0) (td kX0_darkTimesOf 0 rfl) (by decide) ?_
  refine X_istore (L' := [(4, .int (0 : Int32)), (0, .ref 196), (1, .ref b1), (2, .ref b2), (3, .int p3)]) (pc := 1) (td kX0_darkTimesOf 1 rfl) (by decide) rfl ?_
  refine X_aload_n (pc := 3) (td kX0_darkTimesOf 2 rfl) rfl 1 rfl ?_
  refine X_getF (b := 197) (pc := 4) sC_196 rfl fk_X0_12 (td kX0_darkTimesOf 3 rfl) ?_
  refine X_aload_n (pc := 7) (td kX0_darkTimesOf 4 rfl) rfl 3 rfl ?_
  refine X_callv (pc := 8) (As := [.ref b2]) (st := []) sC_197 (x_X4_copyFrom 197 b2 σ) mkX4_copyFrom lk_X0_59 (by omega) rfl rfl (Nat.le_of_ble_eq_true rfl) (td kX0_darkTimesOf 5 rfl) (fun _ σ8 _ => ?_)
  refine X_iconst (v := (0 : Int32)) (pc := 11) (td kX0_darkTimesOf 6 rfl) (by decide) ?_
  refine X_istore (L' := [(5, .int (0 : Int32)), (4, .int (0 : Int32)), (0, .ref 196), (1, .ref b1), (2, .ref b2), (3, .int p3)]) (pc := 12) (td kX0_darkTimesOf 7 rfl) (by decide) rfl ?_
  refine X_jn (P := fun k => ∀ (x4_63 : Int32) (σ_63 : Mm), X (wsOf SHC) RX0 cX0_darkTimesOf 6 (some .int) 5 0 63 [(4, .int x4_63)] [] σ_63 (k x4_63 σ_63)) (fun x4_63 σ_63 => ?_) (fun k63 h63 => ?_)
  · refine X_iload (pc := 63) (td kX0_darkTimesOf 33 rfl) 0 rfl ?_
    exact X_ret (pc := 65) (td kX0_darkTimesOf 34 rfl) rfl
  · refine X_sub [2, 3, 5, 1, 0] rfl ?_
    refine lq3_ind (P := fun x4_14 x5_14 σ_14 E => X (wsOf SHC) RX0 cX0_darkTimesOf 6 (some .int) 5 0 14 [(0, .ref 196), (1, .ref b1), (3, .int p3), (4, .int x4_14), (5, .int x5_14)] [] σ_14 E) (fun _ _ _ => X_none) (fun rec14 hrec14 x4_14 x5_14 σ_14 => ?_) _ _ _ _
    unfold F_X0_darkTimesOf_14
    refine X_iload (pc := 14) (td kX0_darkTimesOf 8 rfl) 4 rfl ?_
    refine X_bipush (v := (99 : Int32)) (pc := 16) (td kX0_darkTimesOf 9 rfl) (by decide) ?_
    refine X_icmp_ge (pc := 18) (tgt := 63) (td kX0_darkTimesOf 10 rfl) (by decide) (fun c_18 => ?_) (fun c_18 => ?_)
    · refine X_sub [3] rfl ?_
      exact h63 x4_14 σ_14
    · refine X_aload_n (pc := 21) (td kX0_darkTimesOf 11 rfl) rfl 0 rfl ?_
      refine X_getF (b := 197) (pc := 22) sC_196 rfl fk_X0_12 (td kX0_darkTimesOf 12 rfl) ?_
      refine X_aload_n (pc := 25) (td kX0_darkTimesOf 13 rfl) rfl 1 rfl ?_
      refine X_callip (pc := 26) (As := [.ref b1]) (st := []) (p_X4_isAllHome 197 b1 σ_14) sC_197 (x_X4_isAllHome 197 b1 σ_14) mkX4_isAllHome lk_X0_63 (by omega) rfl rfl (Nat.le_of_ble_eq_true rfl) (td kX0_darkTimesOf 14 rfl) (fun r26 hr26 => ?_)
      refine X_if_ne (pc := 29) (tgt := 63) (td kX0_darkTimesOf 15 rfl) (by decide) (fun c_29 => ?_) (fun c_29 => ?_)
      · refine X_sub [3] rfl ?_
        exact h63 x4_14 σ_14
      · refine X_aload_n (pc := 32) (td kX0_darkTimesOf 16 rfl) rfl 0 rfl ?_
        refine X_getF (b := 197) (pc := 33) sC_196 rfl fk_X0_12 (td kX0_darkTimesOf 17 rfl) ?_
        refine X_aload_n (pc := 36) (td kX0_darkTimesOf 18 rfl) rfl 1 rfl ?_
        refine X_iconst (v := (0 : Int32)) (pc := 37) (td kX0_darkTimesOf 19 rfl) (by decide) ?_
        refine X_callv (pc := 38) (As := [.ref b1, .int (0 : Int32)]) (st := []) sC_197 (x_X4_pass 197 b1 (0 : Int32) σ_14) mkX4_pass lk_X0_67 (by omega) rfl rfl (Nat.le_of_ble_eq_true rfl) (td kX0_darkTimesOf 20 rfl) (fun _ σ38 _ => ?_)
        refine X_iload (pc := 41) (td kX0_darkTimesOf 21 rfl) 3 rfl ?_
        refine X_aload_n (pc := 43) (td kX0_darkTimesOf 22 rfl) rfl 0 rfl ?_
        refine X_getF (b := 197) (pc := 44) sC_196 rfl fk_X0_12 (td kX0_darkTimesOf 23 rfl) ?_
        refine X_getI (pc := 47) sC_197 rfl fk_X0_71 (td kX0_darkTimesOf 24 rfl) ?_
        refine X_iload_n (pc := 50) (td kX0_darkTimesOf 25 rfl) rfl 2 rfl ?_
        refine X_ishr (pc := 51) (td kX0_darkTimesOf 26 rfl) ?_
        refine X_iconst (v := (1 : Int32)) (pc := 52) (td kX0_darkTimesOf 27 rfl) (by decide) ?_
        refine X_iand (pc := 53) (td kX0_darkTimesOf 28 rfl) ?_
        refine X_iadd (pc := 54) (td kX0_darkTimesOf 29 rfl) ?_
        refine X_bi (fun v4_55 => ?_)
        refine X_istore (L' := [(4, .int v4_55), (0, .ref 196), (1, .ref b1), (3, .int p3), (5, .int x5_14)]) (pc := 55) (td kX0_darkTimesOf 30 rfl) (by decide) rfl ?_
        refine X_iinc (v := (x5_14 + (1 : Int32))) (L' := [(5, .int (x5_14 + (1 : Int32))), (4, .int v4_55), (0, .ref 196), (1, .ref b1), (3, .int p3)]) (pc := 57) (td kX0_darkTimesOf 31 rfl) 4 rfl rfl (by decide) rfl ?_
        refine X_goto (pc := 60) (tgt := 14) (td kX0_darkTimesOf 32 rfl) (by decide) ?_
        refine X_sub [2, 3, 4, 1, 0] rfl ?_
        exact hrec14 v4_55 (x5_14 + (1 : Int32)) σ38
def F_X0_oilToTheEnd_4 (b1 : Nat) (k50 : Int32 → Mm → Option (Int32 × Mm)) (rec4 : Int32 → Int32 → Mm → Option (Int32 × Mm)) (x2_4 : Int32) (x3_4 : Int32) (σ_4 : Mm) : Option (Int32 × Mm) := (if x3_4 < (99 : Int32) then cl (f_X4_isAllHome 197 b1 σ_4) (fun r15 _ => (if r15 = 0 then cl (f_X4_pass 197 b1 (0 : Int32) σ_4) (fun _ σ27 => cl (f_X4_litBits 197 b1 σ27) (fun r36 _ => cl (f_J6_bitCount_0f7a4 r36 σ27) (fun r39 _ => bn (x2_4 + r39) (fun v2_43 => rec4 v2_43 (x3_4 + (1 : Int32)) σ27)))) else k50 x2_4 σ_4)) else k50 x2_4 σ_4)
def f_X0_oilToTheEnd (b1 : Nat) (σ : Mm) : Option (Int32 × Mm) := ck (isTown b1) (jn (fun (x2_50 : Int32) (σ_50 : Mm) => some (x2_50, σ_50)) (fun k50 => lq3 (F_X0_oilToTheEnd_4 b1 k50) 1000000 (0 : Int32) (0 : Int32) σ))
set_option maxHeartbeats 4000000 in
set_option maxRecDepth 100000 in
theorem x_X0_oilToTheEnd (b1 : Nat) (σ : Mm) : Con (wsOf SHC) yX0_oilToTheEnd cX0_oilToTheEnd 4 (some .int) 5 [.ref 196, .ref b1] σ (f_X0_oilToTheEnd b1 σ) := by
  refine Con.of_X (by decide +kernel) (Nat.le_of_ble_eq_true rfl) ?_
  unfold f_X0_oilToTheEnd
  show X (wsOf SHC) RX0 cX0_oilToTheEnd 4 (some .int) 5 0 0 [(0, .ref 196), (1, .ref b1)] [] σ _
  refine X_ck (fun b1_h => ?_)
  obtain ⟨b1_s0, b1_s1, b1_s2, b1_s3, b1_s4, b1_s5, b1_s6, b1_s7, b1_s8, b1_s9, b1_s10, b1_s11, b1_s12, b1_s13, b1_s14⟩ := knTown b1_h
  refine X_iconst (v := (0 : Int32)) (pc := 0) (td kX0_oilToTheEnd 0 rfl) (by decide) ?_
  refine X_istore_n (L' := [(2, .int (0 : Int32)), (0, .ref 196), (1, .ref b1)]) (pc := 1) (td kX0_oilToTheEnd 1 rfl) rfl (by decide) rfl ?_
  refine X_iconst (v := (0 : Int32)) (pc := 2) (td kX0_oilToTheEnd 2 rfl) (by decide) ?_
  refine X_istore_n (L' := [(3, .int (0 : Int32)), (2, .int (0 : Int32)), (0, .ref 196), (1, .ref b1)]) (pc := 3) (td kX0_oilToTheEnd 3 rfl) rfl (by decide) rfl ?_
  refine X_jn (P := fun k => ∀ (x2_50 : Int32) (σ_50 : Mm), X (wsOf SHC) RX0 cX0_oilToTheEnd 4 (some .int) 5 0 50 [(2, .int x2_50)] [] σ_50 (k x2_50 σ_50)) (fun x2_50 σ_50 => ?_) (fun k50 h50 => ?_)
  · refine X_iload_n (pc := 50) (td kX0_oilToTheEnd 27 rfl) rfl 0 rfl ?_
    exact X_ret (pc := 51) (td kX0_oilToTheEnd 28 rfl) rfl
  · refine X_sub [2, 3, 1, 0] rfl ?_
    refine lq3_ind (P := fun x2_4 x3_4 σ_4 E => X (wsOf SHC) RX0 cX0_oilToTheEnd 4 (some .int) 5 0 4 [(0, .ref 196), (1, .ref b1), (2, .int x2_4), (3, .int x3_4)] [] σ_4 E) (fun _ _ _ => X_none) (fun rec4 hrec4 x2_4 x3_4 σ_4 => ?_) _ _ _ _
    unfold F_X0_oilToTheEnd_4
    refine X_iload_n (pc := 4) (td kX0_oilToTheEnd 4 rfl) rfl 3 rfl ?_
    refine X_bipush (v := (99 : Int32)) (pc := 5) (td kX0_oilToTheEnd 5 rfl) (by decide) ?_
    refine X_icmp_ge (pc := 7) (tgt := 50) (td kX0_oilToTheEnd 6 rfl) (by decide) (fun c_7 => ?_) (fun c_7 => ?_)
    · refine X_sub [2] rfl ?_
      exact h50 x2_4 σ_4
    · refine X_aload_n (pc := 10) (td kX0_oilToTheEnd 7 rfl) rfl 0 rfl ?_
      refine X_getF (b := 197) (pc := 11) sC_196 rfl fk_X0_12 (td kX0_oilToTheEnd 8 rfl) ?_
      refine X_aload_n (pc := 14) (td kX0_oilToTheEnd 9 rfl) rfl 1 rfl ?_
      refine X_callip (pc := 15) (As := [.ref b1]) (st := []) (p_X4_isAllHome 197 b1 σ_4) sC_197 (x_X4_isAllHome 197 b1 σ_4) mkX4_isAllHome lk_X0_63 (by omega) rfl rfl (Nat.le_of_ble_eq_true rfl) (td kX0_oilToTheEnd 10 rfl) (fun r15 hr15 => ?_)
      refine X_if_ne (pc := 18) (tgt := 50) (td kX0_oilToTheEnd 11 rfl) (by decide) (fun c_18 => ?_) (fun c_18 => ?_)
      · refine X_sub [2] rfl ?_
        exact h50 x2_4 σ_4
      · refine X_aload_n (pc := 21) (td kX0_oilToTheEnd 12 rfl) rfl 0 rfl ?_
        refine X_getF (b := 197) (pc := 22) sC_196 rfl fk_X0_12 (td kX0_oilToTheEnd 13 rfl) ?_
        refine X_aload_n (pc := 25) (td kX0_oilToTheEnd 14 rfl) rfl 1 rfl ?_
        refine X_iconst (v := (0 : Int32)) (pc := 26) (td kX0_oilToTheEnd 15 rfl) (by decide) ?_
        refine X_callv (pc := 27) (As := [.ref b1, .int (0 : Int32)]) (st := []) sC_197 (x_X4_pass 197 b1 (0 : Int32) σ_4) mkX4_pass lk_X0_67 (by omega) rfl rfl (Nat.le_of_ble_eq_true rfl) (td kX0_oilToTheEnd 16 rfl) (fun _ σ27 _ => ?_)
        refine X_iload_n (pc := 30) (td kX0_oilToTheEnd 17 rfl) rfl 2 rfl ?_
        refine X_aload_n (pc := 31) (td kX0_oilToTheEnd 18 rfl) rfl 0 rfl ?_
        refine X_getF (b := 197) (pc := 32) sC_196 rfl fk_X0_12 (td kX0_oilToTheEnd 19 rfl) ?_
        refine X_aload_n (pc := 35) (td kX0_oilToTheEnd 20 rfl) rfl 1 rfl ?_
        refine X_callip (pc := 36) (As := [.ref b1]) (st := [.int x2_4]) (p_X4_litBits 197 b1 σ27) sC_197 (x_X4_litBits 197 b1 σ27) mkX4_litBits lk_X0_81 (by omega) rfl rfl (Nat.le_of_ble_eq_true rfl) (td kX0_oilToTheEnd 21 rfl) (fun r36 hr36 => ?_)
        refine X_callsip (pc := 39) (As := [.int r36]) (st := [.int x2_4]) (p_J6_bitCount_0f7a4 r36 σ27) (x_J6_bitCount_0f7a4 r36 σ27) mkJ6_bitCount_0f7a4 lk_X0_85 (by omega) rfl rfl (Nat.le_of_ble_eq_true rfl) (td kX0_oilToTheEnd 22 rfl) (fun r39 hr39 => ?_)
        refine X_iadd (pc := 42) (td kX0_oilToTheEnd 23 rfl) ?_
        refine X_bi (fun v2_43 => ?_)
        refine X_istore_n (L' := [(2, .int v2_43), (0, .ref 196), (1, .ref b1), (3, .int x3_4)]) (pc := 43) (td kX0_oilToTheEnd 24 rfl) rfl (by decide) rfl ?_
        refine X_iinc (v := (x3_4 + (1 : Int32))) (L' := [(3, .int (x3_4 + (1 : Int32))), (2, .int v2_43), (0, .ref 196), (1, .ref b1)]) (pc := 44) (td kX0_oilToTheEnd 25 rfl) 3 rfl rfl (by decide) rfl ?_
        refine X_goto (pc := 47) (tgt := 4) (td kX0_oilToTheEnd 26 rfl) (by decide) ?_
        refine X_sub [2, 3, 1, 0] rfl ?_
        exact hrec4 v2_43 (x3_4 + (1 : Int32)) σ27
def F_X0_drawnNights_33 (b1 : Nat) (k85 : Int64 → Mm → Option (Int32 × Mm)) (rec33 : Int64 → Int32 → Mm → Option (Int32 × Mm)) (x5_33 : Int64) (x11_33 : Int32) (σ_33 : Mm) : Option (Int32 × Mm) := (if x11_33 < (gI σ_33 b1 2) then bn (lrm ((x5_33 * (1103515245 : Int64)) + (12345 : Int64)) (2147483648 : Int64)) (fun v5_56 => ck (inb x11_33 6) (bn (pI σ_33 201 x11_33.toNatClampNeg (lrm (v5_56 / (65536 : Int64)) (31 : Int64)).toInt32) (fun σ78 => rec33 v5_56 (x11_33 + (1 : Int32)) σ78))) else k85 x5_33 σ_33)
def F_X0_drawnNights_16 (b1 : Nat) (p3 : Int32) (k127 : Int32 → Int32 → Int32 → Mm → Option (Int32 × Mm)) (rec16 : Int64 → Int32 → Int32 → Int32 → Int32 → Mm → Option (Int32 × Mm)) (x5_16 : Int64) (x7_16 : Int32) (x8_16 : Int32) (x9_16 : Int32) (x10_16 : Int32) (σ_16 : Mm) : Option (Int32 × Mm) := (if x10_16 < p3 then cl (f_X4_begin 197 b1 σ_16) (fun _ σ27 => jn (fun (x5_85 : Int64) (σ_85 : Mm) => cl (f_X0_oilToTheEnd b1 σ_85) (fun r89 σ89 => bn (x9_16 + r89) (fun v9_93 => bn (x7_16 + (gI σ89 197 2)) (fun v7_105 => bn (imx x8_16 (gI σ89 197 2)) (fun v8_119 => rec16 x5_85 v7_105 v8_119 v9_93 (x10_16 + (1 : Int32)) σ89))))) (fun k85 => lq3 (F_X0_drawnNights_33 b1 k85) 1000000 x5_16 (0 : Int32) σ27)) else k127 x7_16 x8_16 x9_16 σ_16)
def f_X0_drawnNights (b1 : Nat) (p2 : Int32) (p3 : Int32) (p4 : Int32) (σ : Mm) : Option (Int32 × Mm) := ck (isTown b1) (jn (fun (x7_127 : Int32) (x8_127 : Int32) (x9_127 : Int32) (σ_127 : Mm) => (if p4 = 0 then some (x7_127, σ_127) else (if p4 = (1 : Int32) then some (x8_127, σ_127) else some (x9_127, σ_127)))) (fun k127 => lq6 (F_X0_drawnNights_16 b1 p3 k127) 1000000 p2.toInt64 (0 : Int32) (0 : Int32) (0 : Int32) (0 : Int32) σ))
set_option maxHeartbeats 4000000 in
set_option maxRecDepth 100000 in
theorem x_X0_drawnNights (b1 : Nat) (p2 : Int32) (p3 : Int32) (p4 : Int32) (σ : Mm) : Con (wsOf SHC) yX0_drawnNights cX0_drawnNights 12 (some .int) 6 [.ref 196, .ref b1, .int p2, .int p3, .int p4] σ (f_X0_drawnNights b1 p2 p3 p4 σ) := by
  refine Con.of_X (by decide +kernel) (Nat.le_of_ble_eq_true rfl) ?_
  unfold f_X0_drawnNights
  show X (wsOf SHC) RX0 cX0_drawnNights 12 (some .int) 6 0 0 [(0, .ref 196), (1, .ref b1), (2, .int p2), (3, .int p3), (4, .int p4)] [] σ _
  refine X_ck (fun b1_h => ?_)
  obtain ⟨b1_s0, b1_s1, b1_s2, b1_s3, b1_s4, b1_s5, b1_s6, b1_s7, b1_s8, b1_s9, b1_s10, b1_s11, b1_s12, b1_s13, b1_s14⟩ := knTown b1_h
  refine X_iload_n (pc := 0) (td kX0_drawnNights 0 rfl) rfl 2 rfl ?_
  refine X_i2l (pc := 1) (td kX0_drawnNights 1 rfl) ?_
  refine X_lstore (L' := [(5, .long p2.toInt64), (0, .ref 196), (1, .ref b1), (2, .int p2), (3, .int p3), (4, .int p4)]) (pc := 2) (td kX0_drawnNights 2 rfl) (by decide) rfl ?_
  refine X_iconst (v := (0 : Int32)) (pc := 4) (td kX0_drawnNights 3 rfl) (by decide) ?_
  refine X_istore (L' := [(7, .int (0 : Int32)), (5, .long p2.toInt64), (0, .ref 196), (1, .ref b1), (2, .int p2), (3, .int p3), (4, .int p4)]) (pc := 5) (td kX0_drawnNights 4 rfl) (by decide) rfl ?_
  refine X_iconst (v := (0 : Int32)) (pc := 7) (td kX0_drawnNights 5 rfl) (by decide) ?_
  refine X_istore (L' := [(8, .int (0 : Int32)), (7, .int (0 : Int32)), (5, .long p2.toInt64), (0, .ref 196), (1, .ref b1), (2, .int p2), (3, .int p3), (4, .int p4)]) (pc := 8) (td kX0_drawnNights 6 rfl) (by decide) rfl ?_
  refine X_iconst (v := (0 : Int32)) (pc := 10) (td kX0_drawnNights 7 rfl) (by decide) ?_
  refine X_istore (L' := [(9, .int (0 : Int32)), (8, .int (0 : Int32)), (7, .int (0 : Int32)), (5, .long p2.toInt64), (0, .ref 196), (1, .ref b1), (2, .int p2), (3, .int p3), (4, .int p4)]) (pc := 11) (td kX0_drawnNights 8 rfl) (by decide) rfl ?_
  refine X_iconst (v := (0 : Int32)) (pc := 13) (td kX0_drawnNights 9 rfl) (by decide) ?_
  refine X_istore (L' := [(10, .int (0 : Int32)), (9, .int (0 : Int32)), (8, .int (0 : Int32)), (7, .int (0 : Int32)), (5, .long p2.toInt64), (0, .ref 196), (1, .ref b1), (2, .int p2), (3, .int p3), (4, .int p4)]) (pc := 14) (td kX0_drawnNights 10 rfl) (by decide) rfl ?_
  refine X_jn (P := fun k => ∀ (x7_127 : Int32) (x8_127 : Int32) (x9_127 : Int32) (σ_127 : Mm), X (wsOf SHC) RX0 cX0_drawnNights 12 (some .int) 6 0 127 [(4, .int p4), (7, .int x7_127), (8, .int x8_127), (9, .int x9_127)] [] σ_127 (k x7_127 x8_127 x9_127 σ_127)) (fun x7_127 x8_127 x9_127 σ_127 => ?_) (fun k127 h127 => ?_)
  · refine X_iload (pc := 127) (td kX0_drawnNights 65 rfl) 0 rfl ?_
    refine X_if_ne (pc := 129) (tgt := 137) (td kX0_drawnNights 66 rfl) (by decide) (fun c_129 => ?_) (fun c_129 => ?_)
    · refine X_iload (pc := 137) (td kX0_drawnNights 69 rfl) 0 rfl ?_
      refine X_iconst (v := (1 : Int32)) (pc := 139) (td kX0_drawnNights 70 rfl) (by decide) ?_
      refine X_icmp_ne (pc := 140) (tgt := 148) (td kX0_drawnNights 71 rfl) (by decide) (fun c_140 => ?_) (fun c_140 => ?_)
      · refine X_iload (pc := 148) (td kX0_drawnNights 74 rfl) 3 rfl ?_
        exact X_ret (pc := 150) (td kX0_drawnNights 75 rfl) rfl
      · refine X_iload (pc := 143) (td kX0_drawnNights 72 rfl) 2 rfl ?_
        refine X_goto (pc := 145) (tgt := 150) (td kX0_drawnNights 73 rfl) (by decide) ?_
        exact X_ret (pc := 150) (td kX0_drawnNights 75 rfl) rfl
    · refine X_iload (pc := 132) (td kX0_drawnNights 67 rfl) 1 rfl ?_
      refine X_goto (pc := 134) (tgt := 150) (td kX0_drawnNights 68 rfl) (by decide) ?_
      exact X_ret (pc := 150) (td kX0_drawnNights 75 rfl) rfl
  · refine X_sub [5, 6, 8, 9, 4, 3, 2, 1, 0] rfl ?_
    refine lq6_ind (P := fun x5_16 x7_16 x8_16 x9_16 x10_16 σ_16 E => X (wsOf SHC) RX0 cX0_drawnNights 12 (some .int) 6 0 16 [(0, .ref 196), (1, .ref b1), (3, .int p3), (4, .int p4), (5, .long x5_16), (7, .int x7_16), (8, .int x8_16), (9, .int x9_16), (10, .int x10_16)] [] σ_16 E) (fun _ _ _ _ _ _ => X_none) (fun rec16 hrec16 x5_16 x7_16 x8_16 x9_16 x10_16 σ_16 => ?_) _ _ _ _ _ _ _
    unfold F_X0_drawnNights_16
    refine X_iload (pc := 16) (td kX0_drawnNights 11 rfl) 8 rfl ?_
    refine X_iload_n (pc := 18) (td kX0_drawnNights 12 rfl) rfl 2 rfl ?_
    refine X_icmp_ge (pc := 19) (tgt := 127) (td kX0_drawnNights 13 rfl) (by decide) (fun c_19 => ?_) (fun c_19 => ?_)
    · refine X_sub [3, 5, 6, 7] rfl ?_
      exact h127 x7_16 x8_16 x9_16 σ_16
    · refine X_aload_n (pc := 22) (td kX0_drawnNights 14 rfl) rfl 0 rfl ?_
      refine X_getF (b := 197) (pc := 23) sC_196 rfl fk_X0_12 (td kX0_drawnNights 15 rfl) ?_
      refine X_aload_n (pc := 26) (td kX0_drawnNights 16 rfl) rfl 1 rfl ?_
      refine X_callv (pc := 27) (As := [.ref b1]) (st := []) sC_197 (x_X4_begin 197 b1 σ_16) mkX4_begin lk_X0_32 (by omega) rfl rfl (Nat.le_of_ble_eq_true rfl) (td kX0_drawnNights 17 rfl) (fun _ σ27 _ => ?_)
      refine X_iconst (v := (0 : Int32)) (pc := 30) (td kX0_drawnNights 18 rfl) (by decide) ?_
      refine X_istore (L' := [(11, .int (0 : Int32)), (0, .ref 196), (1, .ref b1), (3, .int p3), (4, .int p4), (5, .long x5_16), (7, .int x7_16), (8, .int x8_16), (9, .int x9_16), (10, .int x10_16)]) (pc := 31) (td kX0_drawnNights 19 rfl) (by decide) rfl ?_
      refine X_jn (P := fun k => ∀ (x5_85 : Int64) (σ_85 : Mm), X (wsOf SHC) RX0 cX0_drawnNights 12 (some .int) 6 0 85 [(0, .ref 196), (1, .ref b1), (3, .int p3), (4, .int p4), (5, .long x5_85), (7, .int x7_16), (8, .int x8_16), (9, .int x9_16), (10, .int x10_16)] [] σ_85 (k x5_85 σ_85)) (fun x5_85 σ_85 => ?_) (fun k85 h85 => ?_)
      · refine X_iload (pc := 85) (td kX0_drawnNights 45 rfl) 7 rfl ?_
        refine X_aload_n (pc := 87) (td kX0_drawnNights 46 rfl) rfl 0 rfl ?_
        refine X_aload_n (pc := 88) (td kX0_drawnNights 47 rfl) rfl 1 rfl ?_
        refine X_calli (pc := 89) (As := [.ref b1]) (st := [.int x9_16]) sC_196 (x_X0_oilToTheEnd b1 σ_85) mkX0_oilToTheEnd lk_X0_171 (by omega) rfl rfl (Nat.le_of_ble_eq_true rfl) (td kX0_drawnNights 48 rfl) (fun r89 σ89 _ hr89 => ?_)
        refine X_iadd (pc := 92) (td kX0_drawnNights 49 rfl) ?_
        refine X_bi (fun v9_93 => ?_)
        refine X_istore (L' := [(9, .int v9_93), (0, .ref 196), (1, .ref b1), (3, .int p3), (4, .int p4), (5, .long x5_85), (7, .int x7_16), (8, .int x8_16), (10, .int x10_16)]) (pc := 93) (td kX0_drawnNights 50 rfl) (by decide) rfl ?_
        refine X_iload (pc := 95) (td kX0_drawnNights 51 rfl) 6 rfl ?_
        refine X_aload_n (pc := 97) (td kX0_drawnNights 52 rfl) rfl 1 rfl ?_
        refine X_getF (b := 197) (pc := 98) sC_196 rfl fk_X0_12 (td kX0_drawnNights 53 rfl) ?_
        refine X_getI (pc := 101) sC_197 rfl fk_X0_42 (td kX0_drawnNights 54 rfl) ?_
        refine X_iadd (pc := 104) (td kX0_drawnNights 55 rfl) ?_
        refine X_bi (fun v7_105 => ?_)
        refine X_istore (L' := [(7, .int v7_105), (9, .int v9_93), (0, .ref 196), (1, .ref b1), (3, .int p3), (4, .int p4), (5, .long x5_85), (8, .int x8_16), (10, .int x10_16)]) (pc := 105) (td kX0_drawnNights 56 rfl) (by decide) rfl ?_
        refine X_iload (pc := 107) (td kX0_drawnNights 57 rfl) 7 rfl ?_
        refine X_aload_n (pc := 109) (td kX0_drawnNights 58 rfl) rfl 2 rfl ?_
        refine X_getF (b := 197) (pc := 110) sC_196 rfl fk_X0_12 (td kX0_drawnNights 59 rfl) ?_
        refine X_getI (pc := 113) sC_197 rfl fk_X0_42 (td kX0_drawnNights 60 rfl) ?_
        refine X_mmax2 (pc := 116) (td kX0_drawnNights 61 rfl) lm_X0_152 (by omega) (Nat.le_of_ble_eq_true rfl) ?_
        refine X_bi (fun v8_119 => ?_)
        refine X_istore (L' := [(8, .int v8_119), (7, .int v7_105), (9, .int v9_93), (0, .ref 196), (1, .ref b1), (3, .int p3), (4, .int p4), (5, .long x5_85), (10, .int x10_16)]) (pc := 119) (td kX0_drawnNights 62 rfl) (by decide) rfl ?_
        refine X_iinc (v := (x10_16 + (1 : Int32))) (L' := [(10, .int (x10_16 + (1 : Int32))), (8, .int v8_119), (7, .int v7_105), (9, .int v9_93), (0, .ref 196), (1, .ref b1), (3, .int p3), (4, .int p4), (5, .long x5_85)]) (pc := 121) (td kX0_drawnNights 63 rfl) 8 rfl rfl (by decide) rfl ?_
        refine X_goto (pc := 124) (tgt := 16) (td kX0_drawnNights 64 rfl) (by decide) ?_
        refine X_sub [4, 5, 6, 7, 8, 2, 1, 3, 0] rfl ?_
        exact hrec16 x5_85 v7_105 v8_119 v9_93 (x10_16 + (1 : Int32)) σ89
      · refine X_sub [1, 2, 3, 4, 5, 6, 7, 8, 9, 0] rfl ?_
        refine lq3_ind (P := fun x5_33 x11_33 σ_33 E => X (wsOf SHC) RX0 cX0_drawnNights 12 (some .int) 6 0 33 [(0, .ref 196), (1, .ref b1), (3, .int p3), (4, .int p4), (5, .long x5_33), (7, .int x7_16), (8, .int x8_16), (9, .int x9_16), (10, .int x10_16), (11, .int x11_33)] [] σ_33 E) (fun _ _ _ => X_none) (fun rec33 hrec33 x5_33 x11_33 σ_33 => ?_) _ _ _ _
        unfold F_X0_drawnNights_33
        refine X_iload (pc := 33) (td kX0_drawnNights 20 rfl) 9 rfl ?_
        refine X_aload_n (pc := 35) (td kX0_drawnNights 21 rfl) rfl 1 rfl ?_
        refine X_getI (pc := 36) b1_s0 rfl fk_X0_97 (td kX0_drawnNights 22 rfl) ?_
        refine X_icmp_ge (pc := 39) (tgt := 85) (td kX0_drawnNights 23 rfl) (by decide) (fun c_39 => ?_) (fun c_39 => ?_)
        · refine X_sub [0, 1, 2, 3, 4, 5, 6, 7, 8] rfl ?_
          exact h85 x5_33 σ_33
        · refine X_lload (pc := 42) (td kX0_drawnNights 24 rfl) 4 rfl ?_
          refine X_ldc2 (v := (1103515245 : Int64)) (pc := 44) (td kX0_drawnNights 25 rfl) cn_X0_174 ?_
          refine X_lmul (pc := 47) (td kX0_drawnNights 26 rfl) ?_
          refine X_ldc2 (v := (12345 : Int64)) (pc := 48) (td kX0_drawnNights 27 rfl) cn_X0_176 ?_
          refine X_ladd (pc := 51) (td kX0_drawnNights 28 rfl) ?_
          refine X_ldc2 (v := (2147483648 : Int64)) (pc := 52) (td kX0_drawnNights 29 rfl) cn_X0_178 ?_
          refine X_lrem2 (pc := 55) (td kX0_drawnNights 30 rfl) (by decide) ?_
          refine X_bl (fun v5_56 => ?_)
          refine X_lstore (L' := [(5, .long v5_56), (0, .ref 196), (1, .ref b1), (3, .int p3), (4, .int p4), (7, .int x7_16), (8, .int x8_16), (9, .int x9_16), (10, .int x10_16), (11, .int x11_33)]) (pc := 56) (td kX0_drawnNights 31 rfl) (by decide) rfl ?_
          refine X_aload_n (pc := 58) (td kX0_drawnNights 32 rfl) rfl 1 rfl ?_
          refine X_getF (b := 197) (pc := 59) sC_196 rfl fk_X0_12 (td kX0_drawnNights 33 rfl) ?_
          refine X_getF (b := 201) (pc := 62) sC_197 rfl fk_X0_180 (td kX0_drawnNights 34 rfl) ?_
          refine X_iload (pc := 65) (td kX0_drawnNights 35 rfl) 9 rfl ?_
          refine X_lload (pc := 67) (td kX0_drawnNights 36 rfl) 0 rfl ?_
          refine X_ldc2 (v := (65536 : Int64)) (pc := 69) (td kX0_drawnNights 37 rfl) cn_X0_183 ?_
          refine X_ldiv (pc := 72) (td kX0_drawnNights 38 rfl) (by decide) ?_
          refine X_ldc2 (v := (31 : Int64)) (pc := 73) (td kX0_drawnNights 39 rfl) cn_X0_185 ?_
          refine X_lrem2 (pc := 76) (td kX0_drawnNights 40 rfl) (by decide) ?_
          refine X_l2i (pc := 77) (td kX0_drawnNights 41 rfl) ?_
          refine X_iast (pc := 78) sC_201 (td kX0_drawnNights 42 rfl) (fun σ78 => ?_)
          refine X_iinc (v := (x11_33 + (1 : Int32))) (L' := [(11, .int (x11_33 + (1 : Int32))), (5, .long v5_56), (0, .ref 196), (1, .ref b1), (3, .int p3), (4, .int p4), (7, .int x7_16), (8, .int x8_16), (9, .int x9_16), (10, .int x10_16)]) (pc := 79) (td kX0_drawnNights 43 rfl) 9 rfl rfl (by decide) rfl ?_
          refine X_goto (pc := 82) (tgt := 33) (td kX0_drawnNights 44 rfl) (by decide) ?_
          refine X_sub [2, 3, 4, 5, 1, 6, 7, 8, 9, 0] rfl ?_
          exact hrec33 v5_56 (x11_33 + (1 : Int32)) σ78
def F_X0_isLightEnough_11 (b1 : Nat) (p3 : Int32) (k46 : Mm → Option (Int32 × Mm)) (rec11 : Int32 → Mm → Option (Int32 × Mm)) (x4_11 : Int32) (σ_11 : Mm) : Option (Int32 × Mm) := (if x4_11 < (gI σ_11 b1 1) then jn (fun (σ_40 : Mm) => rec11 (x4_11 + (1 : Int32)) σ_40) (fun k40 => (if ((p3 >>> (x4_11 &&& 31)) &&& (1 : Int32)) = (1 : Int32) then cl (f_X4_sendBoy 197 b1 x4_11 σ_11) (fun _ σ37 => k40 σ37) else k40 σ_11)) else k46 σ_11)
def f_X0_isLightEnough (b1 : Nat) (b2 : Nat) (p3 : Int32) (σ : Mm) : Option (Int32 × Mm) := ck (isTown b1) (ck (isNight b2) (cl (f_X4_copyFrom 197 b2 σ) (fun _ σ5 => jn (fun (σ_46 : Mm) => cl (f_X0_darkTimesOfAll b1 (0 : Int32) (0 : Int32) σ_46) (fun r50 σ50 => (if r50 = 0 then some ((1 : Int32), σ50) else some ((0 : Int32), σ50)))) (fun k46 => lq2 (F_X0_isLightEnough_11 b1 p3 k46) 1000000 (0 : Int32) σ5))))
set_option maxHeartbeats 4000000 in
set_option maxRecDepth 100000 in
theorem x_X0_isLightEnough (b1 : Nat) (b2 : Nat) (p3 : Int32) (σ : Mm) : Con (wsOf SHC) yX0_isLightEnough cX0_isLightEnough 5 (some .boolean) 6 [.ref 196, .ref b1, .ref b2, .int p3] σ (f_X0_isLightEnough b1 b2 p3 σ) := by
  refine Con.of_X (by decide +kernel) (Nat.le_of_ble_eq_true rfl) ?_
  unfold f_X0_isLightEnough
  show X (wsOf SHC) RX0 cX0_isLightEnough 5 (some .boolean) 6 0 0 [(0, .ref 196), (1, .ref b1), (2, .ref b2), (3, .int p3)] [] σ _
  refine X_ck (fun b1_h => ?_)
  obtain ⟨b1_s0, b1_s1, b1_s2, b1_s3, b1_s4, b1_s5, b1_s6, b1_s7, b1_s8, b1_s9, b1_s10, b1_s11, b1_s12, b1_s13, b1_s14⟩ := knTown b1_h
  refine X_ck (fun b2_h => ?_)
  obtain ⟨b2_s0, b2_s1, b2_s2, b2_s3, b2_s4, b2_s5, b2_s6⟩ := knNight b2_h
  refine X_aload_n (pc := 0) (td kX0_isLightEnough 0 rfl) rfl 0 rfl ?_
  refine X_getF (b := 197) (pc := 1) sC_196 rfl fk_X0_12 (td kX0_isLightEnough 1 rfl) ?_
  refine X_aload_n (pc := 4) (td kX0_isLightEnough 2 rfl) rfl 2 rfl ?_
  refine X_callv (pc := 5) (As := [.ref b2]) (st := []) sC_197 (x_X4_copyFrom 197 b2 σ) mkX4_copyFrom lk_X0_59 (by omega) rfl rfl (Nat.le_of_ble_eq_true rfl) (td kX0_isLightEnough 3 rfl) (fun _ σ5 _ => ?_)
  refine X_iconst (v := (0 : Int32)) (pc := 8) (td kX0_isLightEnough 4 rfl) (by decide) ?_
  refine X_istore (L' := [(4, .int (0 : Int32)), (0, .ref 196), (1, .ref b1), (2, .ref b2), (3, .int p3)]) (pc := 9) (td kX0_isLightEnough 5 rfl) (by decide) rfl ?_
  refine X_jn (P := fun k => ∀ (σ_46 : Mm), X (wsOf SHC) RX0 cX0_isLightEnough 5 (some .boolean) 6 0 46 [(0, .ref 196), (1, .ref b1)] [] σ_46 (k σ_46)) (fun σ_46 => ?_) (fun k46 h46 => ?_)
  · refine X_aload_n (pc := 46) (td kX0_isLightEnough 24 rfl) rfl 0 rfl ?_
    refine X_aload_n (pc := 47) (td kX0_isLightEnough 25 rfl) rfl 1 rfl ?_
    refine X_iconst (v := (0 : Int32)) (pc := 48) (td kX0_isLightEnough 26 rfl) (by decide) ?_
    refine X_iconst (v := (0 : Int32)) (pc := 49) (td kX0_isLightEnough 27 rfl) (by decide) ?_
    refine X_calli (pc := 50) (As := [.ref b1, .int (0 : Int32), .int (0 : Int32)]) (st := []) sC_196 (x_X0_darkTimesOfAll b1 (0 : Int32) (0 : Int32) σ_46) mkX0_darkTimesOfAll lk_X0_121 (by omega) rfl rfl (Nat.le_of_ble_eq_true rfl) (td kX0_isLightEnough 28 rfl) (fun r50 σ50 _ hr50 => ?_)
    refine X_if_ne (pc := 53) (tgt := 60) (td kX0_isLightEnough 29 rfl) (by decide) (fun c_53 => ?_) (fun c_53 => ?_)
    · refine X_iconst (v := (0 : Int32)) (pc := 60) (td kX0_isLightEnough 32 rfl) (by decide) ?_
      exact X_ret (pc := 61) (td kX0_isLightEnough 33 rfl) rfl
    · refine X_iconst (v := (1 : Int32)) (pc := 56) (td kX0_isLightEnough 30 rfl) (by decide) ?_
      refine X_goto (pc := 57) (tgt := 61) (td kX0_isLightEnough 31 rfl) (by decide) ?_
      exact X_ret (pc := 61) (td kX0_isLightEnough 33 rfl) rfl
  · refine X_sub [1, 2, 4, 0] rfl ?_
    refine lq2_ind (P := fun x4_11 σ_11 E => X (wsOf SHC) RX0 cX0_isLightEnough 5 (some .boolean) 6 0 11 [(0, .ref 196), (1, .ref b1), (3, .int p3), (4, .int x4_11)] [] σ_11 E) (fun _ _ => X_none) (fun rec11 hrec11 x4_11 σ_11 => ?_) _ _ _
    unfold F_X0_isLightEnough_11
    refine X_iload (pc := 11) (td kX0_isLightEnough 6 rfl) 3 rfl ?_
    refine X_aload_n (pc := 13) (td kX0_isLightEnough 7 rfl) rfl 1 rfl ?_
    refine X_getI (pc := 14) b1_s0 rfl fk_X0_124 (td kX0_isLightEnough 8 rfl) ?_
    refine X_icmp_ge (pc := 17) (tgt := 46) (td kX0_isLightEnough 9 rfl) (by decide) (fun c_17 => ?_) (fun c_17 => ?_)
    · refine X_sub [0, 1] rfl ?_
      exact h46 σ_11
    · refine X_iload_n (pc := 20) (td kX0_isLightEnough 10 rfl) rfl 2 rfl ?_
      refine X_iload (pc := 21) (td kX0_isLightEnough 11 rfl) 3 rfl ?_
      refine X_ishr (pc := 23) (td kX0_isLightEnough 12 rfl) ?_
      refine X_iconst (v := (1 : Int32)) (pc := 24) (td kX0_isLightEnough 13 rfl) (by decide) ?_
      refine X_iand (pc := 25) (td kX0_isLightEnough 14 rfl) ?_
      refine X_iconst (v := (1 : Int32)) (pc := 26) (td kX0_isLightEnough 15 rfl) (by decide) ?_
      refine X_jn (P := fun k => ∀ (σ_40 : Mm), X (wsOf SHC) RX0 cX0_isLightEnough 5 (some .boolean) 6 0 40 [(0, .ref 196), (1, .ref b1), (3, .int p3), (4, .int x4_11)] [] σ_40 (k σ_40)) (fun σ_40 => ?_) (fun k40 h40 => ?_)
      · refine X_iinc (v := (x4_11 + (1 : Int32))) (L' := [(4, .int (x4_11 + (1 : Int32))), (0, .ref 196), (1, .ref b1), (3, .int p3)]) (pc := 40) (td kX0_isLightEnough 22 rfl) 3 rfl rfl (by decide) rfl ?_
        refine X_goto (pc := 43) (tgt := 11) (td kX0_isLightEnough 23 rfl) (by decide) ?_
        refine X_sub [1, 2, 3, 0] rfl ?_
        exact hrec11 (x4_11 + (1 : Int32)) σ_40
      · refine X_icmp_ne (pc := 27) (tgt := 40) (td kX0_isLightEnough 16 rfl) (by decide) (fun c_27 => ?_) (fun c_27 => ?_)
        · exact h40 σ_11
        · refine X_aload_n (pc := 30) (td kX0_isLightEnough 17 rfl) rfl 0 rfl ?_
          refine X_getF (b := 197) (pc := 31) sC_196 rfl fk_X0_12 (td kX0_isLightEnough 18 rfl) ?_
          refine X_aload_n (pc := 34) (td kX0_isLightEnough 19 rfl) rfl 1 rfl ?_
          refine X_iload (pc := 35) (td kX0_isLightEnough 20 rfl) 3 rfl ?_
          refine X_callv (pc := 37) (As := [.ref b1, .int x4_11]) (st := []) sC_197 (x_X4_sendBoy 197 b1 x4_11 σ_11) mkX4_sendBoy lk_X0_131 (by omega) rfl rfl (Nat.le_of_ble_eq_true rfl) (td kX0_isLightEnough 21 rfl) (fun _ σ37 _ => ?_)
          exact h40 σ37
def F_X0_fewestBoys_5 (b1 : Nat) (b2 : Nat) (k65 : Int32 → Mm → Option (Int32 × Mm)) (rec5 : Int32 → Int32 → Mm → Option (Int32 × Mm)) (x3_5 : Int32) (x4_5 : Int32) (σ_5 : Mm) : Option (Int32 × Mm) := (if x4_5 < ((1 : Int32) <<< ((gI σ_5 b1 1) &&& 31)) then jn (fun (y0_38 : Int32) => jn (fun (x3_59 : Int32) (σ_59 : Mm) => rec5 x3_59 (x4_5 + (1 : Int32)) σ_59) (fun k59 => (if y0_38 = 0 then k59 x3_5 σ_5 else cl (f_X0_isLightEnough b1 b2 x4_5 σ_5) (fun r50 σ50 => (if r50 = 0 then k59 x3_5 σ50 else k59 x4_5 σ50))))) (fun k38 => jn (k38 (1 : Int32)) (fun k33 => (if x3_5 = (-1 : Int32) then k33 else cl (f_J6_bitCount_0f7a4 x4_5 σ_5) (fun r23 _ => cl (f_J6_bitCount_0f7a4 x3_5 σ_5) (fun r27 _ => (if r23 < r27 then k33 else k38 (0 : Int32))))))) else k65 x3_5 σ_5)
def f_X0_fewestBoys (b1 : Nat) (b2 : Nat) (σ : Mm) : Option (Int32 × Mm) := ck (isTown b1) (ck (isNight b2) (jn (fun (x3_65 : Int32) (σ_65 : Mm) => some (x3_65, σ_65)) (fun k65 => lq3 (F_X0_fewestBoys_5 b1 b2 k65) 1000000 (-1 : Int32) (0 : Int32) σ)))
set_option maxHeartbeats 4000000 in
set_option maxRecDepth 100000 in
theorem x_X0_fewestBoys (b1 : Nat) (b2 : Nat) (σ : Mm) : Con (wsOf SHC) yX0_fewestBoys cX0_fewestBoys 6 (some .int) 7 [.ref 196, .ref b1, .ref b2] σ (f_X0_fewestBoys b1 b2 σ) := by
  refine Con.of_X (by decide +kernel) (Nat.le_of_ble_eq_true rfl) ?_
  unfold f_X0_fewestBoys
  show X (wsOf SHC) RX0 cX0_fewestBoys 6 (some .int) 7 0 0 [(0, .ref 196), (1, .ref b1), (2, .ref b2)] [] σ _
  refine X_ck (fun b1_h => ?_)
  obtain ⟨b1_s0, b1_s1, b1_s2, b1_s3, b1_s4, b1_s5, b1_s6, b1_s7, b1_s8, b1_s9, b1_s10, b1_s11, b1_s12, b1_s13, b1_s14⟩ := knTown b1_h
  refine X_ck (fun b2_h => ?_)
  obtain ⟨b2_s0, b2_s1, b2_s2, b2_s3, b2_s4, b2_s5, b2_s6⟩ := knNight b2_h
  refine X_iconst (v := (-1 : Int32)) (pc := 0) (td kX0_fewestBoys 0 rfl) (by decide) ?_
  refine X_istore_n (L' := [(3, .int (-1 : Int32)), (0, .ref 196), (1, .ref b1), (2, .ref b2)]) (pc := 1) (td kX0_fewestBoys 1 rfl) rfl (by decide) rfl ?_
  refine X_iconst (v := (0 : Int32)) (pc := 2) (td kX0_fewestBoys 2 rfl) (by decide) ?_
  refine X_istore (L' := [(4, .int (0 : Int32)), (3, .int (-1 : Int32)), (0, .ref 196), (1, .ref b1), (2, .ref b2)]) (pc := 3) (td kX0_fewestBoys 3 rfl) (by decide) rfl ?_
  refine X_jn (P := fun k => ∀ (x3_65 : Int32) (σ_65 : Mm), X (wsOf SHC) RX0 cX0_fewestBoys 6 (some .int) 7 0 65 [(3, .int x3_65)] [] σ_65 (k x3_65 σ_65)) (fun x3_65 σ_65 => ?_) (fun k65 h65 => ?_)
  · refine X_iload_n (pc := 65) (td kX0_fewestBoys 34 rfl) rfl 0 rfl ?_
    exact X_ret (pc := 66) (td kX0_fewestBoys 35 rfl) rfl
  · refine X_sub [2, 3, 4, 1, 0] rfl ?_
    refine lq3_ind (P := fun x3_5 x4_5 σ_5 E => X (wsOf SHC) RX0 cX0_fewestBoys 6 (some .int) 7 0 5 [(0, .ref 196), (1, .ref b1), (2, .ref b2), (3, .int x3_5), (4, .int x4_5)] [] σ_5 E) (fun _ _ _ => X_none) (fun rec5 hrec5 x3_5 x4_5 σ_5 => ?_) _ _ _ _
    unfold F_X0_fewestBoys_5
    refine X_iload (pc := 5) (td kX0_fewestBoys 4 rfl) 4 rfl ?_
    refine X_iconst (v := (1 : Int32)) (pc := 7) (td kX0_fewestBoys 5 rfl) (by decide) ?_
    refine X_aload_n (pc := 8) (td kX0_fewestBoys 6 rfl) rfl 1 rfl ?_
    refine X_getI (pc := 9) b1_s0 rfl fk_X0_124 (td kX0_fewestBoys 7 rfl) ?_
    refine X_ishl (pc := 12) (td kX0_fewestBoys 8 rfl) ?_
    refine X_icmp_ge (pc := 13) (tgt := 65) (td kX0_fewestBoys 9 rfl) (by decide) (fun c_13 => ?_) (fun c_13 => ?_)
    · refine X_sub [3] rfl ?_
      exact h65 x3_5 σ_5
    · refine X_iload_n (pc := 16) (td kX0_fewestBoys 10 rfl) rfl 3 rfl ?_
      refine X_iconst (v := (-1 : Int32)) (pc := 17) (td kX0_fewestBoys 11 rfl) (by decide) ?_
      refine X_jn (P := fun k => ∀ (y0_38 : Int32), X (wsOf SHC) RX0 cX0_fewestBoys 6 (some .int) 7 0 38 [(0, .ref 196), (1, .ref b1), (2, .ref b2), (3, .int x3_5), (4, .int x4_5)] [.int y0_38] σ_5 (k y0_38)) (fun y0_38 => ?_) (fun k38 h38 => ?_)
      · refine X_istore (L' := [(5, .int y0_38), (0, .ref 196), (1, .ref b1), (2, .ref b2), (3, .int x3_5), (4, .int x4_5)]) (pc := 38) (td kX0_fewestBoys 21 rfl) (by decide) rfl ?_
        refine X_iload (pc := 40) (td kX0_fewestBoys 22 rfl) 0 rfl ?_
        refine X_jn (P := fun k => ∀ (x3_59 : Int32) (σ_59 : Mm), X (wsOf SHC) RX0 cX0_fewestBoys 6 (some .int) 7 0 59 [(0, .ref 196), (1, .ref b1), (2, .ref b2), (3, .int x3_59), (4, .int x4_5)] [] σ_59 (k x3_59 σ_59)) (fun x3_59 σ_59 => ?_) (fun k59 h59 => ?_)
        · refine X_iinc (v := (x4_5 + (1 : Int32))) (L' := [(4, .int (x4_5 + (1 : Int32))), (0, .ref 196), (1, .ref b1), (2, .ref b2), (3, .int x3_59)]) (pc := 59) (td kX0_fewestBoys 32 rfl) 4 rfl rfl (by decide) rfl ?_
          refine X_goto (pc := 62) (tgt := 5) (td kX0_fewestBoys 33 rfl) (by decide) ?_
          refine X_sub [1, 2, 3, 4, 0] rfl ?_
          exact hrec5 x3_59 (x4_5 + (1 : Int32)) σ_59
        · refine X_if_eq (pc := 42) (tgt := 59) (td kX0_fewestBoys 23 rfl) (by decide) (fun c_42 => ?_) (fun c_42 => ?_)
          · refine X_sub [1, 2, 3, 4, 5] rfl ?_
            exact h59 x3_5 σ_5
          · refine X_aload_n (pc := 45) (td kX0_fewestBoys 24 rfl) rfl 1 rfl ?_
            refine X_aload_n (pc := 46) (td kX0_fewestBoys 25 rfl) rfl 2 rfl ?_
            refine X_aload_n (pc := 47) (td kX0_fewestBoys 26 rfl) rfl 3 rfl ?_
            refine X_iload (pc := 48) (td kX0_fewestBoys 27 rfl) 5 rfl ?_
            refine X_calli (pc := 50) (As := [.ref b1, .ref b2, .int x4_5]) (st := []) sC_196 (x_X0_isLightEnough b1 b2 x4_5 σ_5) mkX0_isLightEnough lk_X0_127 (by omega) rfl rfl (Nat.le_of_ble_eq_true rfl) (td kX0_fewestBoys 28 rfl) (fun r50 σ50 _ hr50 => ?_)
            refine X_if_eq (pc := 53) (tgt := 59) (td kX0_fewestBoys 29 rfl) (by decide) (fun c_53 => ?_) (fun c_53 => ?_)
            · refine X_sub [1, 2, 3, 4, 5] rfl ?_
              exact h59 x3_5 σ50
            · refine X_iload (pc := 56) (td kX0_fewestBoys 30 rfl) 5 rfl ?_
              refine X_istore_n (L' := [(3, .int x4_5), (5, .int y0_38), (0, .ref 196), (1, .ref b1), (2, .ref b2), (4, .int x4_5)]) (pc := 58) (td kX0_fewestBoys 31 rfl) rfl (by decide) rfl ?_
              refine X_sub [2, 3, 4, 0, 5] rfl ?_
              exact h59 x4_5 σ50
      · refine X_jn (P := fun k => X (wsOf SHC) RX0 cX0_fewestBoys 6 (some .int) 7 0 33 [(0, .ref 196), (1, .ref b1), (2, .ref b2), (3, .int x3_5), (4, .int x4_5)] [] σ_5 k) ?_ (fun k33 h33 => ?_)
        · refine X_iconst (v := (1 : Int32)) (pc := 33) (td kX0_fewestBoys 18 rfl) (by decide) ?_
          refine X_goto (pc := 34) (tgt := 38) (td kX0_fewestBoys 19 rfl) (by decide) ?_
          exact h38 (1 : Int32)
        · refine X_icmp_eq (pc := 18) (tgt := 33) (td kX0_fewestBoys 12 rfl) (by decide) (fun c_18 => ?_) (fun c_18 => ?_)
          · exact h33
          · refine X_iload (pc := 21) (td kX0_fewestBoys 13 rfl) 4 rfl ?_
            refine X_callsip (pc := 23) (As := [.int x4_5]) (st := []) (p_J6_bitCount_0f7a4 x4_5 σ_5) (x_J6_bitCount_0f7a4 x4_5 σ_5) mkJ6_bitCount_0f7a4 lk_X0_85 (by omega) rfl rfl (Nat.le_of_ble_eq_true rfl) (td kX0_fewestBoys 14 rfl) (fun r23 hr23 => ?_)
            refine X_iload_n (pc := 26) (td kX0_fewestBoys 15 rfl) rfl 3 rfl ?_
            refine X_callsip (pc := 27) (As := [.int x3_5]) (st := [.int r23]) (p_J6_bitCount_0f7a4 x3_5 σ_5) (x_J6_bitCount_0f7a4 x3_5 σ_5) mkJ6_bitCount_0f7a4 lk_X0_85 (by omega) rfl rfl (Nat.le_of_ble_eq_true rfl) (td kX0_fewestBoys 16 rfl) (fun r27 hr27 => ?_)
            refine X_icmp_ge (pc := 30) (tgt := 37) (td kX0_fewestBoys 17 rfl) (by decide) (fun c_30 => ?_) (fun c_30 => ?_)
            · refine X_iconst (v := (0 : Int32)) (pc := 37) (td kX0_fewestBoys 20 rfl) (by decide) ?_
              exact h38 (0 : Int32)
            · exact h33
def F_X0_layRow_14 (p2 : Int32) (k71 : Int32 → Mm → Option (Int32 × Mm)) (rec14 : Int32 → Int32 → Int32 → Mm → Option (Int32 × Mm)) (x4_14 : Int32) (x5_14 : Int32) (x6_14 : Int32) (σ_14 : Mm) : Option (Int32 × Mm) := (if x6_14 < 0 then k71 x5_14 σ_14 else ck (inb x6_14 6) (bn (pI σ_14 204 x6_14.toNatClampNeg (0 : Int32)) (fun σ26 => jn (fun (x4_53 : Int32) (σ_53 : Mm) => ck (inb x6_14 6) (bn (x5_14 + (gI σ_53 204 x6_14.toNatClampNeg)) (fun v5_63 => rec14 x4_53 v5_63 (x6_14 + (-1 : Int32)) σ_53))) (fun k53 => (if ((p2 >>> (x6_14 &&& 31)) &&& (1 : Int32)) = 0 then ck (inb x6_14 6) (bn (pI σ26 204 x6_14.toNatClampNeg (irm x4_14 (3 : Int32))) (fun σ46 => bn (x4_14 / (3 : Int32)) (fun v4_51 => k53 v4_51 σ46))) else k53 x4_14 σ26)))))
def f_X0_layRow (b1 : Nat) (p2 : Int32) (p3 : Int32) (σ : Mm) : Option (Int32 × Mm) := ck (isTown b1) (bn ((gI σ b1 2) - (1 : Int32)) (fun v6_12 => jn (fun (x5_71 : Int32) (σ_71 : Mm) => some (x5_71, σ_71)) (fun k71 => lq4 (F_X0_layRow_14 p2 k71) 1000000 p3 (0 : Int32) v6_12 σ)))
set_option maxHeartbeats 4000000 in
set_option maxRecDepth 100000 in
theorem x_X0_layRow (b1 : Nat) (p2 : Int32) (p3 : Int32) (σ : Mm) : Con (wsOf SHC) yX0_layRow cX0_layRow 7 (some .int) 1 [.ref 196, .ref b1, .int p2, .int p3] σ (f_X0_layRow b1 p2 p3 σ) := by
  refine Con.of_X (by decide +kernel) (Nat.le_of_ble_eq_true rfl) ?_
  unfold f_X0_layRow
  show X (wsOf SHC) RX0 cX0_layRow 7 (some .int) 1 0 0 [(0, .ref 196), (1, .ref b1), (2, .int p2), (3, .int p3)] [] σ _
  refine X_ck (fun b1_h => ?_)
  obtain ⟨b1_s0, b1_s1, b1_s2, b1_s3, b1_s4, b1_s5, b1_s6, b1_s7, b1_s8, b1_s9, b1_s10, b1_s11, b1_s12, b1_s13, b1_s14⟩ := knTown b1_h
  refine X_iload_n (pc := 0) (td kX0_layRow 0 rfl) rfl 3 rfl ?_
  refine X_istore (L' := [(4, .int p3), (0, .ref 196), (1, .ref b1), (2, .int p2), (3, .int p3)]) (pc := 1) (td kX0_layRow 1 rfl) (by decide) rfl ?_
  refine X_iconst (v := (0 : Int32)) (pc := 3) (td kX0_layRow 2 rfl) (by decide) ?_
  refine X_istore (L' := [(5, .int (0 : Int32)), (4, .int p3), (0, .ref 196), (1, .ref b1), (2, .int p2), (3, .int p3)]) (pc := 4) (td kX0_layRow 3 rfl) (by decide) rfl ?_
  refine X_aload_n (pc := 6) (td kX0_layRow 4 rfl) rfl 3 rfl ?_
  refine X_getI (pc := 7) b1_s0 rfl fk_X0_97 (td kX0_layRow 5 rfl) ?_
  refine X_iconst (v := (1 : Int32)) (pc := 10) (td kX0_layRow 6 rfl) (by decide) ?_
  refine X_isub (pc := 11) (td kX0_layRow 7 rfl) ?_
  refine X_bi (fun v6_12 => ?_)
  refine X_istore (L' := [(6, .int v6_12), (5, .int (0 : Int32)), (4, .int p3), (0, .ref 196), (1, .ref b1), (2, .int p2), (3, .int p3)]) (pc := 12) (td kX0_layRow 8 rfl) (by decide) rfl ?_
  refine X_jn (P := fun k => ∀ (x5_71 : Int32) (σ_71 : Mm), X (wsOf SHC) RX0 cX0_layRow 7 (some .int) 1 0 71 [(5, .int x5_71)] [] σ_71 (k x5_71 σ_71)) (fun x5_71 σ_71 => ?_) (fun k71 h71 => ?_)
  · refine X_iload (pc := 71) (td kX0_layRow 42 rfl) 0 rfl ?_
    exact X_ret (pc := 73) (td kX0_layRow 43 rfl) rfl
  · refine X_sub [3, 5, 2, 1, 0] rfl ?_
    refine lq4_ind (P := fun x4_14 x5_14 x6_14 σ_14 E => X (wsOf SHC) RX0 cX0_layRow 7 (some .int) 1 0 14 [(0, .ref 196), (2, .int p2), (4, .int x4_14), (5, .int x5_14), (6, .int x6_14)] [] σ_14 E) (fun _ _ _ _ => X_none) (fun rec14 hrec14 x4_14 x5_14 x6_14 σ_14 => ?_) _ _ _ _ _
    unfold F_X0_layRow_14
    refine X_iload (pc := 14) (td kX0_layRow 9 rfl) 4 rfl ?_
    refine X_if_lt (pc := 16) (tgt := 71) (td kX0_layRow 10 rfl) (by decide) (fun c_16 => ?_) (fun c_16 => ?_)
    · refine X_sub [3] rfl ?_
      exact h71 x5_14 σ_14
    · refine X_aload_n (pc := 19) (td kX0_layRow 11 rfl) rfl 0 rfl ?_
      refine X_getF (b := 204) (pc := 20) sC_196 rfl fk_X0_18 (td kX0_layRow 12 rfl) ?_
      refine X_iload (pc := 23) (td kX0_layRow 13 rfl) 4 rfl ?_
      refine X_iconst (v := (0 : Int32)) (pc := 25) (td kX0_layRow 14 rfl) (by decide) ?_
      refine X_iast (pc := 26) sC_204 (td kX0_layRow 15 rfl) (fun σ26 => ?_)
      refine X_iload_n (pc := 27) (td kX0_layRow 16 rfl) rfl 1 rfl ?_
      refine X_iload (pc := 28) (td kX0_layRow 17 rfl) 4 rfl ?_
      refine X_ishr (pc := 30) (td kX0_layRow 18 rfl) ?_
      refine X_iconst (v := (1 : Int32)) (pc := 31) (td kX0_layRow 19 rfl) (by decide) ?_
      refine X_iand (pc := 32) (td kX0_layRow 20 rfl) ?_
      refine X_jn (P := fun k => ∀ (x4_53 : Int32) (σ_53 : Mm), X (wsOf SHC) RX0 cX0_layRow 7 (some .int) 1 0 53 [(0, .ref 196), (2, .int p2), (4, .int x4_53), (5, .int x5_14), (6, .int x6_14)] [] σ_53 (k x4_53 σ_53)) (fun x4_53 σ_53 => ?_) (fun k53 h53 => ?_)
      · refine X_iload (pc := 53) (td kX0_layRow 33 rfl) 3 rfl ?_
        refine X_aload_n (pc := 55) (td kX0_layRow 34 rfl) rfl 0 rfl ?_
        refine X_getF (b := 204) (pc := 56) sC_196 rfl fk_X0_18 (td kX0_layRow 35 rfl) ?_
        refine X_iload (pc := 59) (td kX0_layRow 36 rfl) 4 rfl ?_
        refine X_iald (pc := 61) sC_204 (td kX0_layRow 37 rfl) ?_
        refine X_iadd (pc := 62) (td kX0_layRow 38 rfl) ?_
        refine X_bi (fun v5_63 => ?_)
        refine X_istore (L' := [(5, .int v5_63), (0, .ref 196), (2, .int p2), (4, .int x4_53), (6, .int x6_14)]) (pc := 63) (td kX0_layRow 39 rfl) (by decide) rfl ?_
        refine X_iinc (v := (x6_14 + (-1 : Int32))) (L' := [(6, .int (x6_14 + (-1 : Int32))), (5, .int v5_63), (0, .ref 196), (2, .int p2), (4, .int x4_53)]) (pc := 65) (td kX0_layRow 40 rfl) 4 rfl rfl (by decide) rfl ?_
        refine X_goto (pc := 68) (tgt := 14) (td kX0_layRow 41 rfl) (by decide) ?_
        refine X_sub [2, 3, 4, 1, 0] rfl ?_
        exact hrec14 x4_53 v5_63 (x6_14 + (-1 : Int32)) σ_53
      · refine X_if_ne (pc := 33) (tgt := 53) (td kX0_layRow 21 rfl) (by decide) (fun c_33 => ?_) (fun c_33 => ?_)
        · exact h53 x4_14 σ26
        · refine X_aload_n (pc := 36) (td kX0_layRow 22 rfl) rfl 0 rfl ?_
          refine X_getF (b := 204) (pc := 37) sC_196 rfl fk_X0_18 (td kX0_layRow 23 rfl) ?_
          refine X_iload (pc := 40) (td kX0_layRow 24 rfl) 4 rfl ?_
          refine X_iload (pc := 42) (td kX0_layRow 25 rfl) 2 rfl ?_
          refine X_iconst (v := (3 : Int32)) (pc := 44) (td kX0_layRow 26 rfl) (by decide) ?_
          refine X_irem2 (pc := 45) (td kX0_layRow 27 rfl) (by decide) ?_
          refine X_iast (pc := 46) sC_204 (td kX0_layRow 28 rfl) (fun σ46 => ?_)
          refine X_iload (pc := 47) (td kX0_layRow 29 rfl) 2 rfl ?_
          refine X_iconst (v := (3 : Int32)) (pc := 49) (td kX0_layRow 30 rfl) (by decide) ?_
          refine X_idiv (pc := 50) (td kX0_layRow 31 rfl) (by decide) ?_
          refine X_bi (fun v4_51 => ?_)
          refine X_istore (L' := [(4, .int v4_51), (0, .ref 196), (2, .int p2), (5, .int x5_14), (6, .int x6_14)]) (pc := 51) (td kX0_layRow 32 rfl) (by decide) rfl ?_
          refine X_sub [1, 2, 0, 3, 4] rfl ?_
          exact h53 v4_51 σ46
def F_X0_tryRow_137 (b1 : Nat) (k166 : Mm → Option (Int32 × Mm)) (rec137 : Int32 → Mm → Option (Int32 × Mm)) (x7_137 : Int32) (σ_137 : Mm) : Option (Int32 × Mm) := (if x7_137 < (gI σ_137 b1 2) then ck (inb x7_137 6) (ck (inb x7_137 6) (bn (pI σ_137 206 x7_137.toNatClampNeg (gI σ_137 204 x7_137.toNatClampNeg)) (fun σ159 => rec137 (x7_137 + (1 : Int32)) σ159))) else k166 σ_137)
def J_X0_tryRow_83 (b1 : Nat) (r5 : Int32) (σ_83 : Mm) : Option (Int32 × Mm) := cl (f_X0_darkTimesOfAll b1 (0 : Int32) (gI σ_83 196 4) σ_83) (fun r90 σ90 => jn (bn (pI σ90 196 4 r90) (fun σ125 => bn (pI σ125 196 5 r5) (fun σ131 => jn (fun (σ_166 : Mm) => some (0, σ_166)) (fun k166 => lq2 (F_X0_tryRow_137 b1 k166) 1000000 (0 : Int32) σ131)))) (fun k122 => (if r90 < (gI σ90 196 4) then k122 else (if r90 = (gI σ90 196 4) then (if r5 < (gI σ90 196 5) then k122 else some (0, σ90)) else some (0, σ90)))))
def F_X0_tryRow_50 (x6_38 : Int32) (k77 : Mm → Option (Int32 × Mm)) (rec50 : Int32 → Mm → Option (Int32 × Mm)) (x7_50 : Int32) (σ_50 : Mm) : Option (Int32 × Mm) := ck (inb x6_38 6) ((if x7_50 < (gI σ_50 204 x6_38.toNatClampNeg) then cl (f_X4_putOff 197 x6_38 σ_50) (fun _ σ68 => rec50 (x7_50 + (1 : Int32)) σ68) else k77 σ_50))
def F_X0_tryRow_38 (b1 : Nat) (k83 : Mm → Option (Int32 × Mm)) (rec38 : Int32 → Mm → Option (Int32 × Mm)) (x6_38 : Int32) (σ_38 : Mm) : Option (Int32 × Mm) := (if x6_38 < (gI σ_38 b1 2) then jn (fun (σ_77 : Mm) => rec38 (x6_38 + (1 : Int32)) σ_77) (fun k77 => lq2 (F_X0_tryRow_50 x6_38 k77) 1000000 (0 : Int32) σ_38) else k83 σ_38)
def f_X0_tryRow (b1 : Nat) (b2 : Nat) (p3 : Int32) (p4 : Int32) (σ : Mm) : Option (Int32 × Mm) := ck (isTown b1) (ck (isNight b2) (cl (f_X0_layRow b1 p3 p4 σ) (fun r5 σ5 => jn (cl (f_X4_copyFrom 197 b2 σ5) (fun _ σ32 => jn (J_X0_tryRow_83 b1 r5) (fun k83 => lq2 (F_X0_tryRow_38 b1 k83) 1000000 (0 : Int32) σ32))) (fun k27 => (if (gI σ5 196 4) = 0 then (if r5 < (gI σ5 196 5) then k27 else some (0, σ5)) else k27)))))
set_option maxHeartbeats 4000000 in
set_option maxRecDepth 100000 in
theorem x_X0_tryRow (b1 : Nat) (b2 : Nat) (p3 : Int32) (p4 : Int32) (σ : Mm) : Con (wsOf SHC) yX0_tryRow cX0_tryRow 8 none 6 [.ref 196, .ref b1, .ref b2, .int p3, .int p4] σ (f_X0_tryRow b1 b2 p3 p4 σ) := by
  refine Con.of_X (by decide +kernel) (Nat.le_of_ble_eq_true rfl) ?_
  unfold f_X0_tryRow
  show X (wsOf SHC) RX0 cX0_tryRow 8 none 6 0 0 [(0, .ref 196), (1, .ref b1), (2, .ref b2), (3, .int p3), (4, .int p4)] [] σ _
  refine X_ck (fun b1_h => ?_)
  obtain ⟨b1_s0, b1_s1, b1_s2, b1_s3, b1_s4, b1_s5, b1_s6, b1_s7, b1_s8, b1_s9, b1_s10, b1_s11, b1_s12, b1_s13, b1_s14⟩ := knTown b1_h
  refine X_ck (fun b2_h => ?_)
  obtain ⟨b2_s0, b2_s1, b2_s2, b2_s3, b2_s4, b2_s5, b2_s6⟩ := knNight b2_h
  refine X_aload_n (pc := 0) (td kX0_tryRow 0 rfl) rfl 0 rfl ?_
  refine X_aload_n (pc := 1) (td kX0_tryRow 1 rfl) rfl 1 rfl ?_
  refine X_iload_n (pc := 2) (td kX0_tryRow 2 rfl) rfl 3 rfl ?_
  refine X_iload (pc := 3) (td kX0_tryRow 3 rfl) 4 rfl ?_
  refine X_calli (pc := 5) (As := [.ref b1, .int p3, .int p4]) (st := []) sC_196 (x_X0_layRow b1 p3 p4 σ) mkX0_layRow lk_X0_113 (by omega) rfl rfl (Nat.le_of_ble_eq_true rfl) (td kX0_tryRow 4 rfl) (fun r5 σ5 _ hr5 => ?_)
  refine X_istore (L' := [(5, .int r5), (0, .ref 196), (1, .ref b1), (2, .ref b2), (3, .int p3), (4, .int p4)]) (pc := 8) (td kX0_tryRow 5 rfl) (by decide) rfl ?_
  refine X_aload_n (pc := 10) (td kX0_tryRow 6 rfl) rfl 1 rfl ?_
  refine X_getI (pc := 11) sC_196 rfl fk_X0_103 (td kX0_tryRow 7 rfl) ?_
  refine X_jn (P := fun k => X (wsOf SHC) RX0 cX0_tryRow 8 none 6 0 27 [(0, .ref 196), (1, .ref b1), (2, .ref b2), (5, .int r5)] [] σ5 k) ?_ (fun k27 h27 => ?_)
  · refine X_aload_n (pc := 27) (td kX0_tryRow 14 rfl) rfl 0 rfl ?_
    refine X_getF (b := 197) (pc := 28) sC_196 rfl fk_X0_12 (td kX0_tryRow 15 rfl) ?_
    refine X_aload_n (pc := 31) (td kX0_tryRow 16 rfl) rfl 2 rfl ?_
    refine X_callv (pc := 32) (As := [.ref b2]) (st := []) sC_197 (x_X4_copyFrom 197 b2 σ5) mkX4_copyFrom lk_X0_59 (by omega) rfl rfl (Nat.le_of_ble_eq_true rfl) (td kX0_tryRow 17 rfl) (fun _ σ32 _ => ?_)
    refine X_iconst (v := (0 : Int32)) (pc := 35) (td kX0_tryRow 18 rfl) (by decide) ?_
    refine X_istore (L' := [(6, .int (0 : Int32)), (0, .ref 196), (1, .ref b1), (2, .ref b2), (5, .int r5)]) (pc := 36) (td kX0_tryRow 19 rfl) (by decide) rfl ?_
    refine X_jn (P := fun k => ∀ (σ_83 : Mm), X (wsOf SHC) RX0 cX0_tryRow 8 none 6 0 83 [(0, .ref 196), (1, .ref b1), (5, .int r5)] [] σ_83 (k σ_83)) (fun σ_83 => ?_) (fun k83 h83 => ?_)
    · unfold J_X0_tryRow_83
      refine X_aload_n (pc := 83) (td kX0_tryRow 40 rfl) rfl 0 rfl ?_
      refine X_aload_n (pc := 84) (td kX0_tryRow 41 rfl) rfl 1 rfl ?_
      refine X_iconst (v := (0 : Int32)) (pc := 85) (td kX0_tryRow 42 rfl) (by decide) ?_
      refine X_aload_n (pc := 86) (td kX0_tryRow 43 rfl) rfl 0 rfl ?_
      refine X_getI (pc := 87) sC_196 rfl fk_X0_103 (td kX0_tryRow 44 rfl) ?_
      refine X_calli (pc := 90) (As := [.ref b1, .int (0 : Int32), .int (gI σ_83 196 4)]) (st := []) sC_196 (x_X0_darkTimesOfAll b1 (0 : Int32) (gI σ_83 196 4) σ_83) mkX0_darkTimesOfAll lk_X0_121 (by omega) rfl rfl (Nat.le_of_ble_eq_true rfl) (td kX0_tryRow 45 rfl) (fun r90 σ90 _ hr90 => ?_)
      refine X_istore (L' := [(6, .int r90), (0, .ref 196), (1, .ref b1), (5, .int r5)]) (pc := 93) (td kX0_tryRow 46 rfl) (by decide) rfl ?_
      refine X_iload (pc := 95) (td kX0_tryRow 47 rfl) 0 rfl ?_
      refine X_aload_n (pc := 97) (td kX0_tryRow 48 rfl) rfl 1 rfl ?_
      refine X_getI (pc := 98) sC_196 rfl fk_X0_103 (td kX0_tryRow 49 rfl) ?_
      refine X_jn (P := fun k => X (wsOf SHC) RX0 cX0_tryRow 8 none 6 0 122 [(0, .ref 196), (1, .ref b1), (5, .int r5), (6, .int r90)] [] σ90 k) ?_ (fun k122 h122 => ?_)
      · refine X_aload_n (pc := 122) (td kX0_tryRow 59 rfl) rfl 0 rfl ?_
        refine X_iload (pc := 123) (td kX0_tryRow 60 rfl) 3 rfl ?_
        refine X_putI (pc := 125) sC_196 rfl fk_X0_103 rfl rfl (td kX0_tryRow 61 rfl) (fun σ125 => ?_)
        refine X_aload_n (pc := 128) (td kX0_tryRow 62 rfl) rfl 0 rfl ?_
        refine X_iload (pc := 129) (td kX0_tryRow 63 rfl) 2 rfl ?_
        refine X_putI (pc := 131) sC_196 rfl fk_X0_106 rfl rfl (td kX0_tryRow 64 rfl) (fun σ131 => ?_)
        refine X_iconst (v := (0 : Int32)) (pc := 134) (td kX0_tryRow 65 rfl) (by decide) ?_
        refine X_istore (L' := [(7, .int (0 : Int32)), (0, .ref 196), (1, .ref b1), (5, .int r5), (6, .int r90)]) (pc := 135) (td kX0_tryRow 66 rfl) (by decide) rfl ?_
        refine X_jn (P := fun k => ∀ (σ_166 : Mm), X (wsOf SHC) RX0 cX0_tryRow 8 none 6 0 166 [] [] σ_166 (k σ_166)) (fun σ_166 => ?_) (fun k166 h166 => ?_)
        · exact X_retv (pc := 166) (td kX0_tryRow 81 rfl)
        · refine X_sub [1, 2, 0] rfl ?_
          refine lq2_ind (P := fun x7_137 σ_137 E => X (wsOf SHC) RX0 cX0_tryRow 8 none 6 0 137 [(0, .ref 196), (1, .ref b1), (7, .int x7_137)] [] σ_137 E) (fun _ _ => X_none) (fun rec137 hrec137 x7_137 σ_137 => ?_) _ _ _
          unfold F_X0_tryRow_137
          refine X_iload (pc := 137) (td kX0_tryRow 67 rfl) 2 rfl ?_
          refine X_aload_n (pc := 139) (td kX0_tryRow 68 rfl) rfl 1 rfl ?_
          refine X_getI (pc := 140) b1_s0 rfl fk_X0_97 (td kX0_tryRow 69 rfl) ?_
          refine X_icmp_ge (pc := 143) (tgt := 166) (td kX0_tryRow 70 rfl) (by decide) (fun c_143 => ?_) (fun c_143 => ?_)
          · refine X_sub [] rfl ?_
            exact h166 σ_137
          · refine X_aload_n (pc := 146) (td kX0_tryRow 71 rfl) rfl 0 rfl ?_
            refine X_getF (b := 206) (pc := 147) sC_196 rfl fk_X0_25 (td kX0_tryRow 72 rfl) ?_
            refine X_iload (pc := 150) (td kX0_tryRow 73 rfl) 2 rfl ?_
            refine X_aload_n (pc := 152) (td kX0_tryRow 74 rfl) rfl 0 rfl ?_
            refine X_getF (b := 204) (pc := 153) sC_196 rfl fk_X0_18 (td kX0_tryRow 75 rfl) ?_
            refine X_iload (pc := 156) (td kX0_tryRow 76 rfl) 2 rfl ?_
            refine X_iald (pc := 158) sC_204 (td kX0_tryRow 77 rfl) ?_
            refine X_iast (pc := 159) sC_206 (td kX0_tryRow 78 rfl) (fun σ159 => ?_)
            refine X_iinc (v := (x7_137 + (1 : Int32))) (L' := [(7, .int (x7_137 + (1 : Int32))), (0, .ref 196), (1, .ref b1)]) (pc := 160) (td kX0_tryRow 79 rfl) 2 rfl rfl (by decide) rfl ?_
            refine X_goto (pc := 163) (tgt := 137) (td kX0_tryRow 80 rfl) (by decide) ?_
            refine X_sub [1, 2, 0] rfl ?_
            exact hrec137 (x7_137 + (1 : Int32)) σ159
      · refine X_icmp_lt (pc := 101) (tgt := 122) (td kX0_tryRow 50 rfl) (by decide) (fun c_101 => ?_) (fun c_101 => ?_)
        · refine X_sub [1, 2, 3, 0] rfl ?_
          exact h122
        · refine X_iload (pc := 104) (td kX0_tryRow 51 rfl) 0 rfl ?_
          refine X_aload_n (pc := 106) (td kX0_tryRow 52 rfl) rfl 1 rfl ?_
          refine X_getI (pc := 107) sC_196 rfl fk_X0_103 (td kX0_tryRow 53 rfl) ?_
          refine X_icmp_ne (pc := 110) (tgt := 166) (td kX0_tryRow 54 rfl) (by decide) (fun c_110 => ?_) (fun c_110 => ?_)
          · exact X_retv (pc := 166) (td kX0_tryRow 81 rfl)
          · refine X_iload (pc := 113) (td kX0_tryRow 55 rfl) 3 rfl ?_
            refine X_aload_n (pc := 115) (td kX0_tryRow 56 rfl) rfl 1 rfl ?_
            refine X_getI (pc := 116) sC_196 rfl fk_X0_106 (td kX0_tryRow 57 rfl) ?_
            refine X_icmp_ge (pc := 119) (tgt := 166) (td kX0_tryRow 58 rfl) (by decide) (fun c_119 => ?_) (fun c_119 => ?_)
            · exact X_retv (pc := 166) (td kX0_tryRow 81 rfl)
            · refine X_sub [1, 2, 3, 0] rfl ?_
              exact h122
    · refine X_sub [1, 2, 4, 0] rfl ?_
      refine lq2_ind (P := fun x6_38 σ_38 E => X (wsOf SHC) RX0 cX0_tryRow 8 none 6 0 38 [(0, .ref 196), (1, .ref b1), (5, .int r5), (6, .int x6_38)] [] σ_38 E) (fun _ _ => X_none) (fun rec38 hrec38 x6_38 σ_38 => ?_) _ _ _
      unfold F_X0_tryRow_38
      refine X_iload (pc := 38) (td kX0_tryRow 20 rfl) 3 rfl ?_
      refine X_aload_n (pc := 40) (td kX0_tryRow 21 rfl) rfl 1 rfl ?_
      refine X_getI (pc := 41) b1_s0 rfl fk_X0_97 (td kX0_tryRow 22 rfl) ?_
      refine X_icmp_ge (pc := 44) (tgt := 83) (td kX0_tryRow 23 rfl) (by decide) (fun c_44 => ?_) (fun c_44 => ?_)
      · refine X_sub [0, 1, 2] rfl ?_
        exact h83 σ_38
      · refine X_iconst (v := (0 : Int32)) (pc := 47) (td kX0_tryRow 24 rfl) (by decide) ?_
        refine X_istore (L' := [(7, .int (0 : Int32)), (0, .ref 196), (1, .ref b1), (5, .int r5), (6, .int x6_38)]) (pc := 48) (td kX0_tryRow 25 rfl) (by decide) rfl ?_
        refine X_jn (P := fun k => ∀ (σ_77 : Mm), X (wsOf SHC) RX0 cX0_tryRow 8 none 6 0 77 [(0, .ref 196), (1, .ref b1), (5, .int r5), (6, .int x6_38)] [] σ_77 (k σ_77)) (fun σ_77 => ?_) (fun k77 h77 => ?_)
        · refine X_iinc (v := (x6_38 + (1 : Int32))) (L' := [(6, .int (x6_38 + (1 : Int32))), (0, .ref 196), (1, .ref b1), (5, .int r5)]) (pc := 77) (td kX0_tryRow 38 rfl) 3 rfl rfl (by decide) rfl ?_
          refine X_goto (pc := 80) (tgt := 38) (td kX0_tryRow 39 rfl) (by decide) ?_
          refine X_sub [1, 2, 3, 0] rfl ?_
          exact hrec38 (x6_38 + (1 : Int32)) σ_77
        · refine X_sub [1, 2, 3, 4, 0] rfl ?_
          refine lq2_ind (P := fun x7_50 σ_50 E => X (wsOf SHC) RX0 cX0_tryRow 8 none 6 0 50 [(0, .ref 196), (1, .ref b1), (5, .int r5), (6, .int x6_38), (7, .int x7_50)] [] σ_50 E) (fun _ _ => X_none) (fun rec50 hrec50 x7_50 σ_50 => ?_) _ _ _
          unfold F_X0_tryRow_50
          refine X_iload (pc := 50) (td kX0_tryRow 26 rfl) 4 rfl ?_
          refine X_aload_n (pc := 52) (td kX0_tryRow 27 rfl) rfl 0 rfl ?_
          refine X_getF (b := 204) (pc := 53) sC_196 rfl fk_X0_18 (td kX0_tryRow 28 rfl) ?_
          refine X_iload (pc := 56) (td kX0_tryRow 29 rfl) 3 rfl ?_
          refine X_iald (pc := 58) sC_204 (td kX0_tryRow 30 rfl) ?_
          refine X_icmp_ge (pc := 59) (tgt := 77) (td kX0_tryRow 31 rfl) (by decide) (fun c_59 => ?_) (fun c_59 => ?_)
          · refine X_sub [0, 1, 2, 3] rfl ?_
            exact h77 σ_50
          · refine X_aload_n (pc := 62) (td kX0_tryRow 32 rfl) rfl 0 rfl ?_
            refine X_getF (b := 197) (pc := 63) sC_196 rfl fk_X0_12 (td kX0_tryRow 33 rfl) ?_
            refine X_iload (pc := 66) (td kX0_tryRow 34 rfl) 3 rfl ?_
            refine X_callv (pc := 68) (As := [.int x6_38]) (st := []) sC_197 (x_X4_putOff 197 x6_38 σ_50) mkX4_putOff lk_X0_117 (by omega) rfl rfl (Nat.le_of_ble_eq_true rfl) (td kX0_tryRow 35 rfl) (fun _ σ68 _ => ?_)
            refine X_iinc (v := (x7_50 + (1 : Int32))) (L' := [(7, .int (x7_50 + (1 : Int32))), (0, .ref 196), (1, .ref b1), (5, .int r5), (6, .int x6_38)]) (pc := 71) (td kX0_tryRow 36 rfl) 4 rfl rfl (by decide) rfl ?_
            refine X_goto (pc := 74) (tgt := 50) (td kX0_tryRow 37 rfl) (by decide) ?_
            refine X_sub [1, 2, 3, 4, 0] rfl ?_
            exact hrec50 (x7_50 + (1 : Int32)) σ68
  · refine X_if_ne (pc := 14) (tgt := 27) (td kX0_tryRow 8 rfl) (by decide) (fun c_14 => ?_) (fun c_14 => ?_)
    · refine X_sub [1, 2, 3, 0] rfl ?_
      exact h27
    · refine X_iload (pc := 17) (td kX0_tryRow 9 rfl) 0 rfl ?_
      refine X_aload_n (pc := 19) (td kX0_tryRow 10 rfl) rfl 1 rfl ?_
      refine X_getI (pc := 20) sC_196 rfl fk_X0_106 (td kX0_tryRow 11 rfl) ?_
      refine X_icmp_lt (pc := 23) (tgt := 27) (td kX0_tryRow 12 rfl) (by decide) (fun c_23 => ?_) (fun c_23 => ?_)
      · refine X_sub [1, 2, 3, 0] rfl ?_
        exact h27
      · exact X_retv (pc := 26) (td kX0_tryRow 13 rfl)
def F_X0_findDelays_69 (b1 : Nat) (b2 : Nat) (r10 : Int32) (x4_55 : Int32) (k99 : Mm → Option (Int32 × Mm)) (rec69 : Int32 → Mm → Option (Int32 × Mm)) (x5_69 : Int32) (σ_69 : Mm) : Option (Int32 × Mm) := (if x5_69 < x4_55 then (if x5_69 < (729 : Int32) then cl (f_X0_tryRow b1 b2 r10 x5_69 σ_69) (fun _ σ90 => rec69 (x5_69 + (1 : Int32)) σ90) else k99 σ_69) else k99 σ_69)
def F_X0_findDelays_20 (b1 : Nat) (σ : Mm) (r10 : Int32) (k55 : Int32 → Option (Int32 × Mm)) (rec20 : Int32 → Int32 → Option (Int32 × Mm)) (x4_20 : Int32) (x5_20 : Int32) : Option (Int32 × Mm) := (if x5_20 < (gI σ b1 2) then jn (fun (y1_46 : Int32) => bn (x4_20 * y1_46) (fun v4_47 => rec20 v4_47 (x5_20 + (1 : Int32)))) (fun k46 => (if ((r10 >>> (x5_20 &&& 31)) &&& (1 : Int32)) = (1 : Int32) then k46 (1 : Int32) else k46 (3 : Int32))) else k55 x4_20)
def f_X0_findDelays (b1 : Nat) (b2 : Nat) (σ : Mm) : Option (Int32 × Mm) := ck (isTown b1) (ck (isNight b2) ((if (gI σ 196 3) = 0 then cl (f_X4_homeBits b2 b1 σ) (fun r10 _ => jn (fun (x4_55 : Int32) => bn (pI σ 196 4 (1000000 : Int32)) (fun σ58 => bn (pI σ58 196 5 (0 : Int32)) (fun σ63 => jn (fun (σ_99 : Mm) => bn (pI σ_99 196 3 (1 : Int32)) (fun σ101 => some (0, σ101))) (fun k99 => lq2 (F_X0_findDelays_69 b1 b2 r10 x4_55 k99) 1000000 (0 : Int32) σ63)))) (fun k55 => lq2 (F_X0_findDelays_20 b1 σ r10 k55) 1000000 (1 : Int32) (0 : Int32))) else some (0, σ))))
set_option maxHeartbeats 4000000 in
set_option maxRecDepth 100000 in
theorem x_X0_findDelays (b1 : Nat) (b2 : Nat) (σ : Mm) : Con (wsOf SHC) yX0_findDelays cX0_findDelays 6 none 7 [.ref 196, .ref b1, .ref b2] σ (f_X0_findDelays b1 b2 σ) := by
  refine Con.of_X (by decide +kernel) (Nat.le_of_ble_eq_true rfl) ?_
  unfold f_X0_findDelays
  show X (wsOf SHC) RX0 cX0_findDelays 6 none 7 0 0 [(0, .ref 196), (1, .ref b1), (2, .ref b2)] [] σ _
  refine X_ck (fun b1_h => ?_)
  obtain ⟨b1_s0, b1_s1, b1_s2, b1_s3, b1_s4, b1_s5, b1_s6, b1_s7, b1_s8, b1_s9, b1_s10, b1_s11, b1_s12, b1_s13, b1_s14⟩ := knTown b1_h
  refine X_ck (fun b2_h => ?_)
  obtain ⟨b2_s0, b2_s1, b2_s2, b2_s3, b2_s4, b2_s5, b2_s6⟩ := knNight b2_h
  refine X_aload_n (pc := 0) (td kX0_findDelays 0 rfl) rfl 0 rfl ?_
  refine X_getI (pc := 1) sC_196 rfl fk_X0_28 (td kX0_findDelays 1 rfl) ?_
  refine X_if_eq (pc := 4) (tgt := 8) (td kX0_findDelays 2 rfl) (by decide) (fun c_4 => ?_) (fun c_4 => ?_)
  · refine X_aload_n (pc := 8) (td kX0_findDelays 4 rfl) rfl 2 rfl ?_
    refine X_aload_n (pc := 9) (td kX0_findDelays 5 rfl) rfl 1 rfl ?_
    refine X_callip (pc := 10) (As := [.ref b1]) (st := []) (p_X4_homeBits b2 b1 σ) b2_s0 (x_X4_homeBits b2 b1 σ) mkX4_homeBits lk_X0_94 (by omega) rfl rfl (Nat.le_of_ble_eq_true rfl) (td kX0_findDelays 6 rfl) (fun r10 hr10 => ?_)
    refine X_istore_n (L' := [(3, .int r10), (0, .ref 196), (1, .ref b1), (2, .ref b2)]) (pc := 13) (td kX0_findDelays 7 rfl) rfl (by decide) rfl ?_
    refine X_iconst (v := (1 : Int32)) (pc := 14) (td kX0_findDelays 8 rfl) (by decide) ?_
    refine X_istore (L' := [(4, .int (1 : Int32)), (3, .int r10), (0, .ref 196), (1, .ref b1), (2, .ref b2)]) (pc := 15) (td kX0_findDelays 9 rfl) (by decide) rfl ?_
    refine X_iconst (v := (0 : Int32)) (pc := 17) (td kX0_findDelays 10 rfl) (by decide) ?_
    refine X_istore (L' := [(5, .int (0 : Int32)), (4, .int (1 : Int32)), (3, .int r10), (0, .ref 196), (1, .ref b1), (2, .ref b2)]) (pc := 18) (td kX0_findDelays 11 rfl) (by decide) rfl ?_
    refine X_jn (P := fun k => ∀ (x4_55 : Int32), X (wsOf SHC) RX0 cX0_findDelays 6 none 7 0 55 [(0, .ref 196), (1, .ref b1), (2, .ref b2), (3, .int r10), (4, .int x4_55)] [] σ (k x4_55)) (fun x4_55 => ?_) (fun k55 h55 => ?_)
    · refine X_aload_n (pc := 55) (td kX0_findDelays 31 rfl) rfl 0 rfl ?_
      refine X_ldc (v := (1000000 : Int32)) (pc := 56) (td kX0_findDelays 32 rfl) cn_X0_102 ?_
      refine X_putI (pc := 58) sC_196 rfl fk_X0_103 rfl rfl (td kX0_findDelays 33 rfl) (fun σ58 => ?_)
      refine X_aload_n (pc := 61) (td kX0_findDelays 34 rfl) rfl 0 rfl ?_
      refine X_iconst (v := (0 : Int32)) (pc := 62) (td kX0_findDelays 35 rfl) (by decide) ?_
      refine X_putI (pc := 63) sC_196 rfl fk_X0_106 rfl rfl (td kX0_findDelays 36 rfl) (fun σ63 => ?_)
      refine X_iconst (v := (0 : Int32)) (pc := 66) (td kX0_findDelays 37 rfl) (by decide) ?_
      refine X_istore (L' := [(5, .int (0 : Int32)), (0, .ref 196), (1, .ref b1), (2, .ref b2), (3, .int r10), (4, .int x4_55)]) (pc := 67) (td kX0_findDelays 38 rfl) (by decide) rfl ?_
      refine X_jn (P := fun k => ∀ (σ_99 : Mm), X (wsOf SHC) RX0 cX0_findDelays 6 none 7 0 99 [(0, .ref 196)] [] σ_99 (k σ_99)) (fun σ_99 => ?_) (fun k99 h99 => ?_)
      · refine X_aload_n (pc := 99) (td kX0_findDelays 53 rfl) rfl 0 rfl ?_
        refine X_iconst (v := (1 : Int32)) (pc := 100) (td kX0_findDelays 54 rfl) (by decide) ?_
        refine X_putI (pc := 101) sC_196 rfl fk_X0_28 rfl rfl (td kX0_findDelays 55 rfl) (fun σ101 => ?_)
        exact X_retv (pc := 104) (td kX0_findDelays 56 rfl)
      · refine X_sub [1, 2, 3, 4, 5, 0] rfl ?_
        refine lq2_ind (P := fun x5_69 σ_69 E => X (wsOf SHC) RX0 cX0_findDelays 6 none 7 0 69 [(0, .ref 196), (1, .ref b1), (2, .ref b2), (3, .int r10), (4, .int x4_55), (5, .int x5_69)] [] σ_69 E) (fun _ _ => X_none) (fun rec69 hrec69 x5_69 σ_69 => ?_) _ _ _
        unfold F_X0_findDelays_69
        refine X_iload (pc := 69) (td kX0_findDelays 39 rfl) 5 rfl ?_
        refine X_iload (pc := 71) (td kX0_findDelays 40 rfl) 4 rfl ?_
        refine X_icmp_ge (pc := 73) (tgt := 99) (td kX0_findDelays 41 rfl) (by decide) (fun c_73 => ?_) (fun c_73 => ?_)
        · refine X_sub [0] rfl ?_
          exact h99 σ_69
        · refine X_iload (pc := 76) (td kX0_findDelays 42 rfl) 5 rfl ?_
          refine X_sipush (v := (729 : Int32)) (pc := 78) (td kX0_findDelays 43 rfl) (by decide) ?_
          refine X_icmp_ge (pc := 81) (tgt := 99) (td kX0_findDelays 44 rfl) (by decide) (fun c_81 => ?_) (fun c_81 => ?_)
          · refine X_sub [0] rfl ?_
            exact h99 σ_69
          · refine X_aload_n (pc := 84) (td kX0_findDelays 45 rfl) rfl 0 rfl ?_
            refine X_aload_n (pc := 85) (td kX0_findDelays 46 rfl) rfl 1 rfl ?_
            refine X_aload_n (pc := 86) (td kX0_findDelays 47 rfl) rfl 2 rfl ?_
            refine X_iload_n (pc := 87) (td kX0_findDelays 48 rfl) rfl 3 rfl ?_
            refine X_iload (pc := 88) (td kX0_findDelays 49 rfl) 5 rfl ?_
            refine X_callv (pc := 90) (As := [.ref b1, .ref b2, .int r10, .int x5_69]) (st := []) sC_196 (x_X0_tryRow b1 b2 r10 x5_69 σ_69) mkX0_tryRow lk_X0_109 (by omega) rfl rfl (Nat.le_of_ble_eq_true rfl) (td kX0_findDelays 50 rfl) (fun _ σ90 _ => ?_)
            refine X_iinc (v := (x5_69 + (1 : Int32))) (L' := [(5, .int (x5_69 + (1 : Int32))), (0, .ref 196), (1, .ref b1), (2, .ref b2), (3, .int r10), (4, .int x4_55)]) (pc := 93) (td kX0_findDelays 51 rfl) 5 rfl rfl (by decide) rfl ?_
            refine X_goto (pc := 96) (tgt := 69) (td kX0_findDelays 52 rfl) (by decide) ?_
            refine X_sub [1, 2, 3, 4, 5, 0] rfl ?_
            exact hrec69 (x5_69 + (1 : Int32)) σ90
    · refine X_sub [3, 4, 5, 2, 1, 0] rfl ?_
      refine lq2_ind (P := fun x4_20 x5_20 E => X (wsOf SHC) RX0 cX0_findDelays 6 none 7 0 20 [(0, .ref 196), (1, .ref b1), (2, .ref b2), (3, .int r10), (4, .int x4_20), (5, .int x5_20)] [] σ E) (fun _ _ => X_none) (fun rec20 hrec20 x4_20 x5_20 => ?_) _ _ _
      unfold F_X0_findDelays_20
      refine X_iload (pc := 20) (td kX0_findDelays 12 rfl) 5 rfl ?_
      refine X_aload_n (pc := 22) (td kX0_findDelays 13 rfl) rfl 1 rfl ?_
      refine X_getI (pc := 23) b1_s0 rfl fk_X0_97 (td kX0_findDelays 14 rfl) ?_
      refine X_icmp_ge (pc := 26) (tgt := 55) (td kX0_findDelays 15 rfl) (by decide) (fun c_26 => ?_) (fun c_26 => ?_)
      · refine X_sub [0, 1, 2, 3, 4] rfl ?_
        exact h55 x4_20
      · refine X_iload (pc := 29) (td kX0_findDelays 16 rfl) 4 rfl ?_
        refine X_iload_n (pc := 31) (td kX0_findDelays 17 rfl) rfl 3 rfl ?_
        refine X_iload (pc := 32) (td kX0_findDelays 18 rfl) 5 rfl ?_
        refine X_ishr (pc := 34) (td kX0_findDelays 19 rfl) ?_
        refine X_iconst (v := (1 : Int32)) (pc := 35) (td kX0_findDelays 20 rfl) (by decide) ?_
        refine X_iand (pc := 36) (td kX0_findDelays 21 rfl) ?_
        refine X_iconst (v := (1 : Int32)) (pc := 37) (td kX0_findDelays 22 rfl) (by decide) ?_
        refine X_jn (P := fun k => ∀ (y1_46 : Int32), X (wsOf SHC) RX0 cX0_findDelays 6 none 7 0 46 [(0, .ref 196), (1, .ref b1), (2, .ref b2), (3, .int r10), (5, .int x5_20)] [.int y1_46, .int x4_20] σ (k y1_46)) (fun y1_46 => ?_) (fun k46 h46 => ?_)
        · refine X_imul (pc := 46) (td kX0_findDelays 27 rfl) ?_
          refine X_bi (fun v4_47 => ?_)
          refine X_istore (L' := [(4, .int v4_47), (0, .ref 196), (1, .ref b1), (2, .ref b2), (3, .int r10), (5, .int x5_20)]) (pc := 47) (td kX0_findDelays 28 rfl) (by decide) rfl ?_
          refine X_iinc (v := (x5_20 + (1 : Int32))) (L' := [(5, .int (x5_20 + (1 : Int32))), (4, .int v4_47), (0, .ref 196), (1, .ref b1), (2, .ref b2), (3, .int r10)]) (pc := 49) (td kX0_findDelays 29 rfl) 5 rfl rfl (by decide) rfl ?_
          refine X_goto (pc := 52) (tgt := 20) (td kX0_findDelays 30 rfl) (by decide) ?_
          refine X_sub [2, 3, 4, 5, 1, 0] rfl ?_
          exact hrec20 v4_47 (x5_20 + (1 : Int32))
        · refine X_icmp_ne (pc := 38) (tgt := 45) (td kX0_findDelays 23 rfl) (by decide) (fun c_38 => ?_) (fun c_38 => ?_)
          · refine X_iconst (v := (3 : Int32)) (pc := 45) (td kX0_findDelays 26 rfl) (by decide) ?_
            refine X_sub [0, 1, 2, 3, 5] rfl ?_
            exact h46 (3 : Int32)
          · refine X_iconst (v := (1 : Int32)) (pc := 41) (td kX0_findDelays 24 rfl) (by decide) ?_
            refine X_goto (pc := 42) (tgt := 46) (td kX0_findDelays 25 rfl) (by decide) ?_
            refine X_sub [0, 1, 2, 3, 5] rfl ?_
            exact h46 (1 : Int32)
  · exact X_retv (pc := 7) (td kX0_findDelays 3 rfl)
def F_X0_litBySet_62 (b1 : Nat) (b3 : Nat) (p5 : Int32) (v6_54 : Int32) (k123 : Int32 → Mm → Option (Int32 × Mm)) (rec62 : Int32 → Int32 → Mm → Option (Int32 × Mm)) (x7_62 : Int32) (x8_62 : Int32) (σ_62 : Mm) : Option (Int32 × Mm) := (if v6_54 < x8_62 then k123 x7_62 σ_62 else cl (f_X4_litBits 197 b1 σ_62) (fun r74 _ => cl (f_X10_isSo b3 x8_62 r74 σ_62) (fun r84 _ => (if r84 = 0 then some ((-1 : Int32), σ_62) else jn (fun (y0_106 : Int32) => cl (f_X4_pass 197 b1 (0 : Int32) σ_62) (fun _ σ114 => rec62 y0_106 (x8_62 + (1 : Int32)) σ114)) (fun k106 => (if x8_62 = p5 then k106 r74 else k106 x7_62))))))
def F_X0_litBySet_11 (b1 : Nat) (p4 : Int32) (k45 : Mm → Option (Int32 × Mm)) (rec11 : Int32 → Mm → Option (Int32 × Mm)) (x6_11 : Int32) (σ_11 : Mm) : Option (Int32 × Mm) := (if x6_11 < (gI σ_11 b1 2) then jn (fun (σ_39 : Mm) => rec11 (x6_11 + (1 : Int32)) σ_39) (fun k39 => (if ((p4 >>> (x6_11 &&& 31)) &&& (1 : Int32)) = 0 then cl (f_X4_bringHome 197 x6_11 σ_11) (fun _ σ36 => k39 σ36) else k39 σ_11)) else k45 σ_11)
def f_X0_litBySet (b1 : Nat) (b2 : Nat) (b3 : Nat) (p4 : Int32) (p5 : Int32) (σ : Mm) : Option (Int32 × Mm) := ck (isTown b1) (ck (isNight b2) (ck (isWatched b3) (cl (f_X4_copyFrom 197 b2 σ) (fun _ σ5 => jn (fun (σ_45 : Mm) => cl (f_X10_lastMinute b3 σ_45) (fun r48 _ => bn (imx p5 r48) (fun v6_54 => jn (fun (x7_123 : Int32) (σ_123 : Mm) => some (x7_123, σ_123)) (fun k123 => lq3 (F_X0_litBySet_62 b1 b3 p5 v6_54 k123) 1000000 (0 : Int32) (0 : Int32) σ_45)))) (fun k45 => lq2 (F_X0_litBySet_11 b1 p4 k45) 1000000 (0 : Int32) σ5)))))
set_option maxHeartbeats 4000000 in
set_option maxRecDepth 100000 in
theorem x_X0_litBySet (b1 : Nat) (b2 : Nat) (b3 : Nat) (p4 : Int32) (p5 : Int32) (σ : Mm) : Con (wsOf SHC) yX0_litBySet cX0_litBySet 10 (some .int) 5 [.ref 196, .ref b1, .ref b2, .ref b3, .int p4, .int p5] σ (f_X0_litBySet b1 b2 b3 p4 p5 σ) := by
  refine Con.of_X (by decide +kernel) (Nat.le_of_ble_eq_true rfl) ?_
  unfold f_X0_litBySet
  show X (wsOf SHC) RX0 cX0_litBySet 10 (some .int) 5 0 0 [(0, .ref 196), (1, .ref b1), (2, .ref b2), (3, .ref b3), (4, .int p4), (5, .int p5)] [] σ _
  refine X_ck (fun b1_h => ?_)
  obtain ⟨b1_s0, b1_s1, b1_s2, b1_s3, b1_s4, b1_s5, b1_s6, b1_s7, b1_s8, b1_s9, b1_s10, b1_s11, b1_s12, b1_s13, b1_s14⟩ := knTown b1_h
  refine X_ck (fun b2_h => ?_)
  obtain ⟨b2_s0, b2_s1, b2_s2, b2_s3, b2_s4, b2_s5, b2_s6⟩ := knNight b2_h
  refine X_ck (fun b3_h => ?_)
  obtain ⟨b3_s0, b3_s1, b3_s2, b3_s3⟩ := knWatched b3_h
  refine X_aload_n (pc := 0) (td kX0_litBySet 0 rfl) rfl 0 rfl ?_
  refine X_getF (b := 197) (pc := 1) sC_196 rfl fk_X0_12 (td kX0_litBySet 1 rfl) ?_
  refine X_aload_n (pc := 4) (td kX0_litBySet 2 rfl) rfl 2 rfl ?_
  refine X_callv (pc := 5) (As := [.ref b2]) (st := []) sC_197 (x_X4_copyFrom 197 b2 σ) mkX4_copyFrom lk_X0_59 (by omega) rfl rfl (Nat.le_of_ble_eq_true rfl) (td kX0_litBySet 3 rfl) (fun _ σ5 _ => ?_)
  refine X_iconst (v := (0 : Int32)) (pc := 8) (td kX0_litBySet 4 rfl) (by decide) ?_
  refine X_istore (L' := [(6, .int (0 : Int32)), (0, .ref 196), (1, .ref b1), (2, .ref b2), (3, .ref b3), (4, .int p4), (5, .int p5)]) (pc := 9) (td kX0_litBySet 5 rfl) (by decide) rfl ?_
  refine X_jn (P := fun k => ∀ (σ_45 : Mm), X (wsOf SHC) RX0 cX0_litBySet 10 (some .int) 5 0 45 [(0, .ref 196), (1, .ref b1), (3, .ref b3), (5, .int p5)] [] σ_45 (k σ_45)) (fun σ_45 => ?_) (fun k45 h45 => ?_)
  · refine X_iload (pc := 45) (td kX0_litBySet 22 rfl) 3 rfl ?_
    refine X_aload_n (pc := 47) (td kX0_litBySet 23 rfl) rfl 2 rfl ?_
    refine X_callip (pc := 48) (As := []) (st := [.int p5]) (p_X10_lastMinute b3 σ_45) b3_s0 (x_X10_lastMinute b3 σ_45) mkX10_lastMinute lk_X0_161 (by omega) rfl rfl (Nat.le_of_ble_eq_true rfl) (td kX0_litBySet 24 rfl) (fun r48 hr48 => ?_)
    refine X_mmax2 (pc := 51) (td kX0_litBySet 25 rfl) lm_X0_152 (by omega) (Nat.le_of_ble_eq_true rfl) ?_
    refine X_bi (fun v6_54 => ?_)
    refine X_istore (L' := [(6, .int v6_54), (0, .ref 196), (1, .ref b1), (3, .ref b3), (5, .int p5)]) (pc := 54) (td kX0_litBySet 26 rfl) (by decide) rfl ?_
    refine X_iconst (v := (0 : Int32)) (pc := 56) (td kX0_litBySet 27 rfl) (by decide) ?_
    refine X_istore (L' := [(7, .int (0 : Int32)), (6, .int v6_54), (0, .ref 196), (1, .ref b1), (3, .ref b3), (5, .int p5)]) (pc := 57) (td kX0_litBySet 28 rfl) (by decide) rfl ?_
    refine X_iconst (v := (0 : Int32)) (pc := 59) (td kX0_litBySet 29 rfl) (by decide) ?_
    refine X_istore (L' := [(8, .int (0 : Int32)), (7, .int (0 : Int32)), (6, .int v6_54), (0, .ref 196), (1, .ref b1), (3, .ref b3), (5, .int p5)]) (pc := 60) (td kX0_litBySet 30 rfl) (by decide) rfl ?_
    refine X_jn (P := fun k => ∀ (x7_123 : Int32) (σ_123 : Mm), X (wsOf SHC) RX0 cX0_litBySet 10 (some .int) 5 0 123 [(7, .int x7_123)] [] σ_123 (k x7_123 σ_123)) (fun x7_123 σ_123 => ?_) (fun k123 h123 => ?_)
    · refine X_iload (pc := 123) (td kX0_litBySet 60 rfl) 0 rfl ?_
      exact X_ret (pc := 125) (td kX0_litBySet 61 rfl) rfl
    · refine X_sub [3, 4, 5, 6, 2, 1, 0] rfl ?_
      refine lq3_ind (P := fun x7_62 x8_62 σ_62 E => X (wsOf SHC) RX0 cX0_litBySet 10 (some .int) 5 0 62 [(0, .ref 196), (1, .ref b1), (3, .ref b3), (5, .int p5), (6, .int v6_54), (7, .int x7_62), (8, .int x8_62)] [] σ_62 E) (fun _ _ _ => X_none) (fun rec62 hrec62 x7_62 x8_62 σ_62 => ?_) _ _ _ _
      unfold F_X0_litBySet_62
      refine X_iload (pc := 62) (td kX0_litBySet 31 rfl) 6 rfl ?_
      refine X_iload (pc := 64) (td kX0_litBySet 32 rfl) 4 rfl ?_
      refine X_icmp_gt (pc := 66) (tgt := 123) (td kX0_litBySet 33 rfl) (by decide) (fun c_66 => ?_) (fun c_66 => ?_)
      · refine X_sub [5] rfl ?_
        exact h123 x7_62 σ_62
      · refine X_aload_n (pc := 69) (td kX0_litBySet 34 rfl) rfl 0 rfl ?_
        refine X_getF (b := 197) (pc := 70) sC_196 rfl fk_X0_12 (td kX0_litBySet 35 rfl) ?_
        refine X_aload_n (pc := 73) (td kX0_litBySet 36 rfl) rfl 1 rfl ?_
        refine X_callip (pc := 74) (As := [.ref b1]) (st := []) (p_X4_litBits 197 b1 σ_62) sC_197 (x_X4_litBits 197 b1 σ_62) mkX4_litBits lk_X0_81 (by omega) rfl rfl (Nat.le_of_ble_eq_true rfl) (td kX0_litBySet 37 rfl) (fun r74 hr74 => ?_)
        refine X_istore (L' := [(9, .int r74), (0, .ref 196), (1, .ref b1), (3, .ref b3), (5, .int p5), (6, .int v6_54), (7, .int x7_62), (8, .int x8_62)]) (pc := 77) (td kX0_litBySet 38 rfl) (by decide) rfl ?_
        refine X_aload_n (pc := 79) (td kX0_litBySet 39 rfl) rfl 3 rfl ?_
        refine X_iload (pc := 80) (td kX0_litBySet 40 rfl) 7 rfl ?_
        refine X_iload (pc := 82) (td kX0_litBySet 41 rfl) 0 rfl ?_
        refine X_callip (pc := 84) (As := [.int x8_62, .int r74]) (st := []) (p_X10_isSo b3 x8_62 r74 σ_62) b3_s0 (x_X10_isSo b3 x8_62 r74 σ_62) mkX10_isSo lk_X0_167 (by omega) rfl rfl (Nat.le_of_ble_eq_true rfl) (td kX0_litBySet 42 rfl) (fun r84 hr84 => ?_)
        refine X_if_ne (pc := 87) (tgt := 92) (td kX0_litBySet 43 rfl) (by decide) (fun c_87 => ?_) (fun c_87 => ?_)
        · refine X_iload (pc := 92) (td kX0_litBySet 46 rfl) 7 rfl ?_
          refine X_iload (pc := 94) (td kX0_litBySet 47 rfl) 4 rfl ?_
          refine X_jn (P := fun k => ∀ (y0_106 : Int32), X (wsOf SHC) RX0 cX0_litBySet 10 (some .int) 5 0 106 [(0, .ref 196), (1, .ref b1), (3, .ref b3), (5, .int p5), (6, .int v6_54), (8, .int x8_62)] [.int y0_106] σ_62 (k y0_106)) (fun y0_106 => ?_) (fun k106 h106 => ?_)
          · refine X_istore (L' := [(7, .int y0_106), (0, .ref 196), (1, .ref b1), (3, .ref b3), (5, .int p5), (6, .int v6_54), (8, .int x8_62)]) (pc := 106) (td kX0_litBySet 52 rfl) (by decide) rfl ?_
            refine X_aload_n (pc := 108) (td kX0_litBySet 53 rfl) rfl 1 rfl ?_
            refine X_getF (b := 197) (pc := 109) sC_196 rfl fk_X0_12 (td kX0_litBySet 54 rfl) ?_
            refine X_aload_n (pc := 112) (td kX0_litBySet 55 rfl) rfl 2 rfl ?_
            refine X_iconst (v := (0 : Int32)) (pc := 113) (td kX0_litBySet 56 rfl) (by decide) ?_
            refine X_callv (pc := 114) (As := [.ref b1, .int (0 : Int32)]) (st := []) sC_197 (x_X4_pass 197 b1 (0 : Int32) σ_62) mkX4_pass lk_X0_67 (by omega) rfl rfl (Nat.le_of_ble_eq_true rfl) (td kX0_litBySet 57 rfl) (fun _ σ114 _ => ?_)
            refine X_iinc (v := (x8_62 + (1 : Int32))) (L' := [(8, .int (x8_62 + (1 : Int32))), (7, .int y0_106), (0, .ref 196), (1, .ref b1), (3, .ref b3), (5, .int p5), (6, .int v6_54)]) (pc := 117) (td kX0_litBySet 58 rfl) 6 rfl rfl (by decide) rfl ?_
            refine X_goto (pc := 120) (tgt := 62) (td kX0_litBySet 59 rfl) (by decide) ?_
            refine X_sub [2, 3, 4, 5, 6, 1, 0] rfl ?_
            exact hrec62 y0_106 (x8_62 + (1 : Int32)) σ114
          · refine X_icmp_ne (pc := 96) (tgt := 104) (td kX0_litBySet 48 rfl) (by decide) (fun c_96 => ?_) (fun c_96 => ?_)
            · refine X_iload (pc := 104) (td kX0_litBySet 51 rfl) 6 rfl ?_
              refine X_sub [1, 2, 3, 4, 5, 7] rfl ?_
              exact h106 x7_62
            · refine X_iload (pc := 99) (td kX0_litBySet 49 rfl) 0 rfl ?_
              refine X_goto (pc := 101) (tgt := 106) (td kX0_litBySet 50 rfl) (by decide) ?_
              refine X_sub [1, 2, 3, 4, 5, 7] rfl ?_
              exact h106 r74
        · refine X_iconst (v := (-1 : Int32)) (pc := 90) (td kX0_litBySet 44 rfl) (by decide) ?_
          exact X_ret (pc := 91) (td kX0_litBySet 45 rfl) rfl
  · refine X_sub [1, 2, 4, 5, 6, 0] rfl ?_
    refine lq2_ind (P := fun x6_11 σ_11 E => X (wsOf SHC) RX0 cX0_litBySet 10 (some .int) 5 0 11 [(0, .ref 196), (1, .ref b1), (3, .ref b3), (4, .int p4), (5, .int p5), (6, .int x6_11)] [] σ_11 E) (fun _ _ => X_none) (fun rec11 hrec11 x6_11 σ_11 => ?_) _ _ _
    unfold F_X0_litBySet_11
    refine X_iload (pc := 11) (td kX0_litBySet 6 rfl) 5 rfl ?_
    refine X_aload_n (pc := 13) (td kX0_litBySet 7 rfl) rfl 1 rfl ?_
    refine X_getI (pc := 14) b1_s0 rfl fk_X0_97 (td kX0_litBySet 8 rfl) ?_
    refine X_icmp_ge (pc := 17) (tgt := 45) (td kX0_litBySet 9 rfl) (by decide) (fun c_17 => ?_) (fun c_17 => ?_)
    · refine X_sub [0, 1, 2, 4] rfl ?_
      exact h45 σ_11
    · refine X_iload (pc := 20) (td kX0_litBySet 10 rfl) 3 rfl ?_
      refine X_iload (pc := 22) (td kX0_litBySet 11 rfl) 5 rfl ?_
      refine X_ishr (pc := 24) (td kX0_litBySet 12 rfl) ?_
      refine X_iconst (v := (1 : Int32)) (pc := 25) (td kX0_litBySet 13 rfl) (by decide) ?_
      refine X_iand (pc := 26) (td kX0_litBySet 14 rfl) ?_
      refine X_jn (P := fun k => ∀ (σ_39 : Mm), X (wsOf SHC) RX0 cX0_litBySet 10 (some .int) 5 0 39 [(0, .ref 196), (1, .ref b1), (3, .ref b3), (4, .int p4), (5, .int p5), (6, .int x6_11)] [] σ_39 (k σ_39)) (fun σ_39 => ?_) (fun k39 h39 => ?_)
      · refine X_iinc (v := (x6_11 + (1 : Int32))) (L' := [(6, .int (x6_11 + (1 : Int32))), (0, .ref 196), (1, .ref b1), (3, .ref b3), (4, .int p4), (5, .int p5)]) (pc := 39) (td kX0_litBySet 20 rfl) 5 rfl rfl (by decide) rfl ?_
        refine X_goto (pc := 42) (tgt := 11) (td kX0_litBySet 21 rfl) (by decide) ?_
        refine X_sub [1, 2, 3, 4, 5, 0] rfl ?_
        exact hrec11 (x6_11 + (1 : Int32)) σ_39
      · refine X_if_ne (pc := 27) (tgt := 39) (td kX0_litBySet 15 rfl) (by decide) (fun c_27 => ?_) (fun c_27 => ?_)
        · exact h39 σ_11
        · refine X_aload_n (pc := 30) (td kX0_litBySet 16 rfl) rfl 0 rfl ?_
          refine X_getF (b := 197) (pc := 31) sC_196 rfl fk_X0_12 (td kX0_litBySet 17 rfl) ?_
          refine X_iload (pc := 34) (td kX0_litBySet 18 rfl) 5 rfl ?_
          refine X_callv (pc := 36) (As := [.int x6_11]) (st := []) sC_197 (x_X4_bringHome 197 x6_11 σ_11) mkX4_bringHome lk_X0_158 (by omega) rfl rfl (Nat.le_of_ble_eq_true rfl) (td kX0_litBySet 19 rfl) (fun _ σ36 _ => ?_)
          exact h39 σ36
def F_X0_fittingSets_31 (b1 : Nat) (b2 : Nat) (b3 : Nat) (v5_16 : Int32) (k85 : Int32 → Int32 → Int32 → Mm → Option (Int32 × Mm)) (rec31 : Int32 → Int32 → Int32 → Int32 → Mm → Option (Int32 × Mm)) (x6_31 : Int32) (x7_31 : Int32) (x8_31 : Int32) (x9_31 : Int32) (σ_31 : Mm) : Option (Int32 × Mm) := (if v5_16 < x9_31 then k85 x6_31 x7_31 x8_31 σ_31 else jn (fun (x6_79 : Int32) (x7_79 : Int32) (x8_79 : Int32) (σ_79 : Mm) => rec31 x6_79 x7_79 x8_79 (x9_31 + (1 : Int32)) σ_79) (fun k79 => (if (x9_31 &&& (v5_16 ^^^ (-1 : Int32))) = 0 then cl (f_X0_litBySet b1 b2 b3 x9_31 (0 : Int32) σ_31) (fun r55 σ55 => (if r55 = (-1 : Int32) then k79 x6_31 x7_31 x8_31 σ55 else bn (x7_31 &&& x9_31) (fun v7_70 => bn (x8_31 ||| x9_31) (fun v8_77 => k79 (x6_31 + (1 : Int32)) v7_70 v8_77 σ55)))) else k79 x6_31 x7_31 x8_31 σ_31)))
def f_X0_fittingSets (b1 : Nat) (b2 : Nat) (b3 : Nat) (p4 : Int32) (σ : Mm) : Option (Int32 × Mm) := ck (isTown b1) (ck (isNight b2) (ck (isWatched b3) (cl (f_X4_homeBits b2 b1 σ) (fun r2 _ => bn ((r2 ^^^ (-1 : Int32)) &&& (((1 : Int32) <<< ((gI σ b1 2) &&& 31)) - (1 : Int32))) (fun v5_16 => jn (fun (x6_85 : Int32) (x7_85 : Int32) (x8_85 : Int32) (σ_85 : Mm) => (if p4 = 0 then some (x6_85, σ_85) else (if x6_85 = 0 then some ((-1 : Int32), σ_85) else (if p4 = (1 : Int32) then some (x7_85, σ_85) else some (x8_85, σ_85))))) (fun k85 => lq5 (F_X0_fittingSets_31 b1 b2 b3 v5_16 k85) 1000000 (0 : Int32) v5_16 (0 : Int32) (0 : Int32) σ))))))
set_option maxHeartbeats 4000000 in
set_option maxRecDepth 100000 in
theorem x_X0_fittingSets (b1 : Nat) (b2 : Nat) (b3 : Nat) (p4 : Int32) (σ : Mm) : Con (wsOf SHC) yX0_fittingSets cX0_fittingSets 10 (some .int) 6 [.ref 196, .ref b1, .ref b2, .ref b3, .int p4] σ (f_X0_fittingSets b1 b2 b3 p4 σ) := by
  refine Con.of_X (by decide +kernel) (Nat.le_of_ble_eq_true rfl) ?_
  unfold f_X0_fittingSets
  show X (wsOf SHC) RX0 cX0_fittingSets 10 (some .int) 6 0 0 [(0, .ref 196), (1, .ref b1), (2, .ref b2), (3, .ref b3), (4, .int p4)] [] σ _
  refine X_ck (fun b1_h => ?_)
  obtain ⟨b1_s0, b1_s1, b1_s2, b1_s3, b1_s4, b1_s5, b1_s6, b1_s7, b1_s8, b1_s9, b1_s10, b1_s11, b1_s12, b1_s13, b1_s14⟩ := knTown b1_h
  refine X_ck (fun b2_h => ?_)
  obtain ⟨b2_s0, b2_s1, b2_s2, b2_s3, b2_s4, b2_s5, b2_s6⟩ := knNight b2_h
  refine X_ck (fun b3_h => ?_)
  obtain ⟨b3_s0, b3_s1, b3_s2, b3_s3⟩ := knWatched b3_h
  refine X_aload_n (pc := 0) (td kX0_fittingSets 0 rfl) rfl 2 rfl ?_
  refine X_aload_n (pc := 1) (td kX0_fittingSets 1 rfl) rfl 1 rfl ?_
  refine X_callip (pc := 2) (As := [.ref b1]) (st := []) (p_X4_homeBits b2 b1 σ) b2_s0 (x_X4_homeBits b2 b1 σ) mkX4_homeBits lk_X0_94 (by omega) rfl rfl (Nat.le_of_ble_eq_true rfl) (td kX0_fittingSets 2 rfl) (fun r2 hr2 => ?_)
  refine X_iconst (v := (-1 : Int32)) (pc := 5) (td kX0_fittingSets 3 rfl) (by decide) ?_
  refine X_ixor (pc := 6) (td kX0_fittingSets 4 rfl) ?_
  refine X_iconst (v := (1 : Int32)) (pc := 7) (td kX0_fittingSets 5 rfl) (by decide) ?_
  refine X_aload_n (pc := 8) (td kX0_fittingSets 6 rfl) rfl 1 rfl ?_
  refine X_getI (pc := 9) b1_s0 rfl fk_X0_97 (td kX0_fittingSets 7 rfl) ?_
  refine X_ishl (pc := 12) (td kX0_fittingSets 8 rfl) ?_
  refine X_iconst (v := (1 : Int32)) (pc := 13) (td kX0_fittingSets 9 rfl) (by decide) ?_
  refine X_isub (pc := 14) (td kX0_fittingSets 10 rfl) ?_
  refine X_iand (pc := 15) (td kX0_fittingSets 11 rfl) ?_
  refine X_bi (fun v5_16 => ?_)
  refine X_istore (L' := [(5, .int v5_16), (0, .ref 196), (1, .ref b1), (2, .ref b2), (3, .ref b3), (4, .int p4)]) (pc := 16) (td kX0_fittingSets 12 rfl) (by decide) rfl ?_
  refine X_iconst (v := (0 : Int32)) (pc := 18) (td kX0_fittingSets 13 rfl) (by decide) ?_
  refine X_istore (L' := [(6, .int (0 : Int32)), (5, .int v5_16), (0, .ref 196), (1, .ref b1), (2, .ref b2), (3, .ref b3), (4, .int p4)]) (pc := 19) (td kX0_fittingSets 14 rfl) (by decide) rfl ?_
  refine X_iload (pc := 21) (td kX0_fittingSets 15 rfl) 1 rfl ?_
  refine X_istore (L' := [(7, .int v5_16), (6, .int (0 : Int32)), (5, .int v5_16), (0, .ref 196), (1, .ref b1), (2, .ref b2), (3, .ref b3), (4, .int p4)]) (pc := 23) (td kX0_fittingSets 16 rfl) (by decide) rfl ?_
  refine X_iconst (v := (0 : Int32)) (pc := 25) (td kX0_fittingSets 17 rfl) (by decide) ?_
  refine X_istore (L' := [(8, .int (0 : Int32)), (7, .int v5_16), (6, .int (0 : Int32)), (5, .int v5_16), (0, .ref 196), (1, .ref b1), (2, .ref b2), (3, .ref b3), (4, .int p4)]) (pc := 26) (td kX0_fittingSets 18 rfl) (by decide) rfl ?_
  refine X_iconst (v := (0 : Int32)) (pc := 28) (td kX0_fittingSets 19 rfl) (by decide) ?_
  refine X_istore (L' := [(9, .int (0 : Int32)), (8, .int (0 : Int32)), (7, .int v5_16), (6, .int (0 : Int32)), (5, .int v5_16), (0, .ref 196), (1, .ref b1), (2, .ref b2), (3, .ref b3), (4, .int p4)]) (pc := 29) (td kX0_fittingSets 20 rfl) (by decide) rfl ?_
  refine X_jn (P := fun k => ∀ (x6_85 : Int32) (x7_85 : Int32) (x8_85 : Int32) (σ_85 : Mm), X (wsOf SHC) RX0 cX0_fittingSets 10 (some .int) 6 0 85 [(4, .int p4), (6, .int x6_85), (7, .int x7_85), (8, .int x8_85)] [] σ_85 (k x6_85 x7_85 x8_85 σ_85)) (fun x6_85 x7_85 x8_85 σ_85 => ?_) (fun k85 h85 => ?_)
  · refine X_iload (pc := 85) (td kX0_fittingSets 50 rfl) 0 rfl ?_
    refine X_if_ne (pc := 87) (tgt := 93) (td kX0_fittingSets 51 rfl) (by decide) (fun c_87 => ?_) (fun c_87 => ?_)
    · refine X_iload (pc := 93) (td kX0_fittingSets 54 rfl) 1 rfl ?_
      refine X_if_ne (pc := 95) (tgt := 102) (td kX0_fittingSets 55 rfl) (by decide) (fun c_95 => ?_) (fun c_95 => ?_)
      · refine X_iload (pc := 102) (td kX0_fittingSets 58 rfl) 0 rfl ?_
        refine X_iconst (v := (1 : Int32)) (pc := 104) (td kX0_fittingSets 59 rfl) (by decide) ?_
        refine X_icmp_ne (pc := 105) (tgt := 113) (td kX0_fittingSets 60 rfl) (by decide) (fun c_105 => ?_) (fun c_105 => ?_)
        · refine X_iload (pc := 113) (td kX0_fittingSets 63 rfl) 3 rfl ?_
          exact X_ret (pc := 115) (td kX0_fittingSets 64 rfl) rfl
        · refine X_iload (pc := 108) (td kX0_fittingSets 61 rfl) 2 rfl ?_
          refine X_goto (pc := 110) (tgt := 115) (td kX0_fittingSets 62 rfl) (by decide) ?_
          exact X_ret (pc := 115) (td kX0_fittingSets 64 rfl) rfl
      · refine X_iconst (v := (-1 : Int32)) (pc := 98) (td kX0_fittingSets 56 rfl) (by decide) ?_
        refine X_goto (pc := 99) (tgt := 115) (td kX0_fittingSets 57 rfl) (by decide) ?_
        exact X_ret (pc := 115) (td kX0_fittingSets 64 rfl) rfl
    · refine X_iload (pc := 90) (td kX0_fittingSets 52 rfl) 1 rfl ?_
      exact X_ret (pc := 92) (td kX0_fittingSets 53 rfl) rfl
  · refine X_sub [5, 6, 7, 8, 9, 4, 3, 2, 1, 0] rfl ?_
    refine lq5_ind (P := fun x6_31 x7_31 x8_31 x9_31 σ_31 E => X (wsOf SHC) RX0 cX0_fittingSets 10 (some .int) 6 0 31 [(0, .ref 196), (1, .ref b1), (2, .ref b2), (3, .ref b3), (4, .int p4), (5, .int v5_16), (6, .int x6_31), (7, .int x7_31), (8, .int x8_31), (9, .int x9_31)] [] σ_31 E) (fun _ _ _ _ _ => X_none) (fun rec31 hrec31 x6_31 x7_31 x8_31 x9_31 σ_31 => ?_) _ _ _ _ _ _
    unfold F_X0_fittingSets_31
    refine X_iload (pc := 31) (td kX0_fittingSets 21 rfl) 9 rfl ?_
    refine X_iload (pc := 33) (td kX0_fittingSets 22 rfl) 5 rfl ?_
    refine X_icmp_gt (pc := 35) (tgt := 85) (td kX0_fittingSets 23 rfl) (by decide) (fun c_35 => ?_) (fun c_35 => ?_)
    · refine X_sub [4, 6, 7, 8] rfl ?_
      exact h85 x6_31 x7_31 x8_31 σ_31
    · refine X_iload (pc := 38) (td kX0_fittingSets 24 rfl) 9 rfl ?_
      refine X_iload (pc := 40) (td kX0_fittingSets 25 rfl) 5 rfl ?_
      refine X_iconst (v := (-1 : Int32)) (pc := 42) (td kX0_fittingSets 26 rfl) (by decide) ?_
      refine X_ixor (pc := 43) (td kX0_fittingSets 27 rfl) ?_
      refine X_iand (pc := 44) (td kX0_fittingSets 28 rfl) ?_
      refine X_jn (P := fun k => ∀ (x6_79 : Int32) (x7_79 : Int32) (x8_79 : Int32) (σ_79 : Mm), X (wsOf SHC) RX0 cX0_fittingSets 10 (some .int) 6 0 79 [(0, .ref 196), (1, .ref b1), (2, .ref b2), (3, .ref b3), (4, .int p4), (5, .int v5_16), (6, .int x6_79), (7, .int x7_79), (8, .int x8_79), (9, .int x9_31)] [] σ_79 (k x6_79 x7_79 x8_79 σ_79)) (fun x6_79 x7_79 x8_79 σ_79 => ?_) (fun k79 h79 => ?_)
      · refine X_iinc (v := (x9_31 + (1 : Int32))) (L' := [(9, .int (x9_31 + (1 : Int32))), (0, .ref 196), (1, .ref b1), (2, .ref b2), (3, .ref b3), (4, .int p4), (5, .int v5_16), (6, .int x6_79), (7, .int x7_79), (8, .int x8_79)]) (pc := 79) (td kX0_fittingSets 48 rfl) 9 rfl rfl (by decide) rfl ?_
        refine X_goto (pc := 82) (tgt := 31) (td kX0_fittingSets 49 rfl) (by decide) ?_
        refine X_sub [1, 2, 3, 4, 5, 6, 7, 8, 9, 0] rfl ?_
        exact hrec31 x6_79 x7_79 x8_79 (x9_31 + (1 : Int32)) σ_79
      · refine X_if_ne (pc := 45) (tgt := 79) (td kX0_fittingSets 29 rfl) (by decide) (fun c_45 => ?_) (fun c_45 => ?_)
        · exact h79 x6_31 x7_31 x8_31 σ_31
        · refine X_aload_n (pc := 48) (td kX0_fittingSets 30 rfl) rfl 0 rfl ?_
          refine X_aload_n (pc := 49) (td kX0_fittingSets 31 rfl) rfl 1 rfl ?_
          refine X_aload_n (pc := 50) (td kX0_fittingSets 32 rfl) rfl 2 rfl ?_
          refine X_aload_n (pc := 51) (td kX0_fittingSets 33 rfl) rfl 3 rfl ?_
          refine X_iload (pc := 52) (td kX0_fittingSets 34 rfl) 9 rfl ?_
          refine X_iconst (v := (0 : Int32)) (pc := 54) (td kX0_fittingSets 35 rfl) (by decide) ?_
          refine X_calli (pc := 55) (As := [.ref b1, .ref b2, .ref b3, .int x9_31, .int (0 : Int32)]) (st := []) sC_196 (x_X0_litBySet b1 b2 b3 x9_31 (0 : Int32) σ_31) mkX0_litBySet lk_X0_148 (by omega) rfl rfl (Nat.le_of_ble_eq_true rfl) (td kX0_fittingSets 36 rfl) (fun r55 σ55 _ hr55 => ?_)
          refine X_iconst (v := (-1 : Int32)) (pc := 58) (td kX0_fittingSets 37 rfl) (by decide) ?_
          refine X_icmp_eq (pc := 59) (tgt := 79) (td kX0_fittingSets 38 rfl) (by decide) (fun c_59 => ?_) (fun c_59 => ?_)
          · exact h79 x6_31 x7_31 x8_31 σ55
          · refine X_iinc (v := (x6_31 + (1 : Int32))) (L' := [(6, .int (x6_31 + (1 : Int32))), (0, .ref 196), (1, .ref b1), (2, .ref b2), (3, .ref b3), (4, .int p4), (5, .int v5_16), (7, .int x7_31), (8, .int x8_31), (9, .int x9_31)]) (pc := 62) (td kX0_fittingSets 39 rfl) 6 rfl rfl (by decide) rfl ?_
            refine X_iload (pc := 65) (td kX0_fittingSets 40 rfl) 7 rfl ?_
            refine X_iload (pc := 67) (td kX0_fittingSets 41 rfl) 9 rfl ?_
            refine X_iand (pc := 69) (td kX0_fittingSets 42 rfl) ?_
            refine X_bi (fun v7_70 => ?_)
            refine X_istore (L' := [(7, .int v7_70), (6, .int (x6_31 + (1 : Int32))), (0, .ref 196), (1, .ref b1), (2, .ref b2), (3, .ref b3), (4, .int p4), (5, .int v5_16), (8, .int x8_31), (9, .int x9_31)]) (pc := 70) (td kX0_fittingSets 43 rfl) (by decide) rfl ?_
            refine X_iload (pc := 72) (td kX0_fittingSets 44 rfl) 8 rfl ?_
            refine X_iload (pc := 74) (td kX0_fittingSets 45 rfl) 9 rfl ?_
            refine X_ior (pc := 76) (td kX0_fittingSets 46 rfl) ?_
            refine X_bi (fun v8_77 => ?_)
            refine X_istore (L' := [(8, .int v8_77), (7, .int v7_70), (6, .int (x6_31 + (1 : Int32))), (0, .ref 196), (1, .ref b1), (2, .ref b2), (3, .ref b3), (4, .int p4), (5, .int v5_16), (9, .int x9_31)]) (pc := 77) (td kX0_fittingSets 47 rfl) (by decide) rfl ?_
            refine X_sub [3, 4, 5, 6, 7, 8, 2, 1, 0, 9] rfl ?_
            exact h79 (x6_31 + (1 : Int32)) v7_70 v8_77 σ55
def f_X0_forget (σ : Mm) : Option (Int32 × Mm) := bn (pI σ 196 3 (0 : Int32)) (fun σ2 => some (0, σ2))
set_option maxHeartbeats 4000000 in
set_option maxRecDepth 100000 in
theorem x_X0_forget (σ : Mm) : Con (wsOf SHC) yX0_forget cX0_forget 1 none 1 [.ref 196] σ (f_X0_forget σ) := by
  refine Con.of_X (by decide +kernel) (Nat.le_of_ble_eq_true rfl) ?_
  unfold f_X0_forget
  show X (wsOf SHC) RX0 cX0_forget 1 none 1 0 0 [(0, .ref 196)] [] σ _
  refine X_aload_n (pc := 0) (td kX0_forget 0 rfl) rfl 0 rfl ?_
  refine X_iconst (v := (0 : Int32)) (pc := 1) (td kX0_forget 1 rfl) (by decide) ?_
  refine X_putI (pc := 2) sC_196 rfl fk_X0_28 rfl rfl (td kX0_forget 2 rfl) (fun σ2 => ?_)
  exact X_retv (pc := 5) (td kX0_forget 3 rfl)
def F_X0_judge_17 (b1 : Nat) (b2 : Nat) (k109 : Int32 → Int32 → Mm → Option (Int32 × Mm)) (rec17 : Int32 → Int32 → Int32 → Mm → Option (Int32 × Mm)) (x4_17 : Int32) (x5_17 : Int32) (x6_17 : Int32) (σ_17 : Mm) : Option (Int32 × Mm) := (if x6_17 < (gI σ_17 b2 0) then bn (gI σ_17 197 2) (fun v7_33 => ck (inb x6_17 40) (ck (inb x6_17 40) (ck (inb x6_17 40) (cl (f_X4_obey 197 b1 (gI σ_17 (b2 + 1) x6_17.toNatClampNeg) (gI σ_17 (b2 + 2) x6_17.toNatClampNeg) (gI σ_17 (b2 + 3) x6_17.toNatClampNeg) σ_17) (fun r61 σ61 => jn (fun (x4_81 : Int32) => jn (fun (x5_103 : Int32) => rec17 x4_81 x5_103 (x6_17 + (1 : Int32)) σ61) (fun k103 => (if v7_33 < (gI σ61 197 2) then (if x5_17 = (-1 : Int32) then k103 x6_17 else k103 x5_17) else k103 x5_17))) (fun k81 => (if r61 = 0 then (if x4_17 = (-1 : Int32) then k81 x6_17 else k81 x4_17) else k81 x4_17))))))) else k109 x4_17 x5_17 σ_17)
def f_X0_judge (b1 : Nat) (b2 : Nat) (p3 : Int32) (σ : Mm) : Option (Int32 × Mm) := ck (isTown b1) (ck (isLines b2) (cl (f_X4_begin 197 b1 σ) (fun _ σ11 => jn (fun (x4_109 : Int32) (x5_109 : Int32) (σ_109 : Mm) => (if p3 = 0 then some (x4_109, σ_109) else (if p3 = (1 : Int32) then some (x5_109, σ_109) else some ((gI σ_109 197 2), σ_109)))) (fun k109 => lq4 (F_X0_judge_17 b1 b2 k109) 1000000 (-1 : Int32) (-1 : Int32) (0 : Int32) σ11))))
set_option maxHeartbeats 4000000 in
set_option maxRecDepth 100000 in
theorem x_X0_judge (b1 : Nat) (b2 : Nat) (p3 : Int32) (σ : Mm) : Con (wsOf SHC) yX0_judge cX0_judge 9 (some .int) 6 [.ref 196, .ref b1, .ref b2, .int p3] σ (f_X0_judge b1 b2 p3 σ) := by
  refine Con.of_X (by decide +kernel) (Nat.le_of_ble_eq_true rfl) ?_
  unfold f_X0_judge
  show X (wsOf SHC) RX0 cX0_judge 9 (some .int) 6 0 0 [(0, .ref 196), (1, .ref b1), (2, .ref b2), (3, .int p3)] [] σ _
  refine X_ck (fun b1_h => ?_)
  obtain ⟨b1_s0, b1_s1, b1_s2, b1_s3, b1_s4, b1_s5, b1_s6, b1_s7, b1_s8, b1_s9, b1_s10, b1_s11, b1_s12, b1_s13, b1_s14⟩ := knTown b1_h
  refine X_ck (fun b2_h => ?_)
  obtain ⟨b2_s0, b2_s1, b2_s2, b2_s3⟩ := knLines b2_h
  refine X_iconst (v := (-1 : Int32)) (pc := 0) (td kX0_judge 0 rfl) (by decide) ?_
  refine X_istore (L' := [(4, .int (-1 : Int32)), (0, .ref 196), (1, .ref b1), (2, .ref b2), (3, .int p3)]) (pc := 1) (td kX0_judge 1 rfl) (by decide) rfl ?_
  refine X_iconst (v := (-1 : Int32)) (pc := 3) (td kX0_judge 2 rfl) (by decide) ?_
  refine X_istore (L' := [(5, .int (-1 : Int32)), (4, .int (-1 : Int32)), (0, .ref 196), (1, .ref b1), (2, .ref b2), (3, .int p3)]) (pc := 4) (td kX0_judge 3 rfl) (by decide) rfl ?_
  refine X_aload_n (pc := 6) (td kX0_judge 4 rfl) rfl 2 rfl ?_
  refine X_getF (b := 197) (pc := 7) sC_196 rfl fk_X0_12 (td kX0_judge 5 rfl) ?_
  refine X_aload_n (pc := 10) (td kX0_judge 6 rfl) rfl 3 rfl ?_
  refine X_callv (pc := 11) (As := [.ref b1]) (st := []) sC_197 (x_X4_begin 197 b1 σ) mkX4_begin lk_X0_32 (by omega) rfl rfl (Nat.le_of_ble_eq_true rfl) (td kX0_judge 7 rfl) (fun _ σ11 _ => ?_)
  refine X_iconst (v := (0 : Int32)) (pc := 14) (td kX0_judge 8 rfl) (by decide) ?_
  refine X_istore (L' := [(6, .int (0 : Int32)), (5, .int (-1 : Int32)), (4, .int (-1 : Int32)), (0, .ref 196), (1, .ref b1), (2, .ref b2), (3, .int p3)]) (pc := 15) (td kX0_judge 9 rfl) (by decide) rfl ?_
  refine X_jn (P := fun k => ∀ (x4_109 : Int32) (x5_109 : Int32) (σ_109 : Mm), X (wsOf SHC) RX0 cX0_judge 9 (some .int) 6 0 109 [(0, .ref 196), (3, .int p3), (4, .int x4_109), (5, .int x5_109)] [] σ_109 (k x4_109 x5_109 σ_109)) (fun x4_109 x5_109 σ_109 => ?_) (fun k109 h109 => ?_)
  · refine X_iload_n (pc := 109) (td kX0_judge 54 rfl) rfl 1 rfl ?_
    refine X_if_ne (pc := 110) (tgt := 118) (td kX0_judge 55 rfl) (by decide) (fun c_110 => ?_) (fun c_110 => ?_)
    · refine X_iload_n (pc := 118) (td kX0_judge 58 rfl) rfl 1 rfl ?_
      refine X_iconst (v := (1 : Int32)) (pc := 119) (td kX0_judge 59 rfl) (by decide) ?_
      refine X_icmp_ne (pc := 120) (tgt := 128) (td kX0_judge 60 rfl) (by decide) (fun c_120 => ?_) (fun c_120 => ?_)
      · refine X_aload_n (pc := 128) (td kX0_judge 63 rfl) rfl 0 rfl ?_
        refine X_getF (b := 197) (pc := 129) sC_196 rfl fk_X0_12 (td kX0_judge 64 rfl) ?_
        refine X_getI (pc := 132) sC_197 rfl fk_X0_42 (td kX0_judge 65 rfl) ?_
        exact X_ret (pc := 135) (td kX0_judge 66 rfl) rfl
      · refine X_iload (pc := 123) (td kX0_judge 61 rfl) 3 rfl ?_
        refine X_goto (pc := 125) (tgt := 135) (td kX0_judge 62 rfl) (by decide) ?_
        exact X_ret (pc := 135) (td kX0_judge 66 rfl) rfl
    · refine X_iload (pc := 113) (td kX0_judge 56 rfl) 2 rfl ?_
      refine X_goto (pc := 115) (tgt := 135) (td kX0_judge 57 rfl) (by decide) ?_
      exact X_ret (pc := 135) (td kX0_judge 66 rfl) rfl
  · refine X_sub [3, 4, 5, 6, 2, 1, 0] rfl ?_
    refine lq4_ind (P := fun x4_17 x5_17 x6_17 σ_17 E => X (wsOf SHC) RX0 cX0_judge 9 (some .int) 6 0 17 [(0, .ref 196), (1, .ref b1), (2, .ref b2), (3, .int p3), (4, .int x4_17), (5, .int x5_17), (6, .int x6_17)] [] σ_17 E) (fun _ _ _ _ => X_none) (fun rec17 hrec17 x4_17 x5_17 x6_17 σ_17 => ?_) _ _ _ _ _
    unfold F_X0_judge_17
    refine X_iload (pc := 17) (td kX0_judge 10 rfl) 6 rfl ?_
    refine X_aload_n (pc := 19) (td kX0_judge 11 rfl) rfl 2 rfl ?_
    refine X_getI (pc := 20) b2_s0 rfl fk_X0_36 (td kX0_judge 12 rfl) ?_
    refine X_icmp_ge (pc := 23) (tgt := 109) (td kX0_judge 13 rfl) (by decide) (fun c_23 => ?_) (fun c_23 => ?_)
    · refine X_sub [0, 3, 4, 5] rfl ?_
      exact h109 x4_17 x5_17 σ_17
    · refine X_aload_n (pc := 26) (td kX0_judge 14 rfl) rfl 0 rfl ?_
      refine X_getF (b := 197) (pc := 27) sC_196 rfl fk_X0_12 (td kX0_judge 15 rfl) ?_
      refine X_getI (pc := 30) sC_197 rfl fk_X0_42 (td kX0_judge 16 rfl) ?_
      refine X_bi (fun v7_33 => ?_)
      refine X_istore (L' := [(7, .int v7_33), (0, .ref 196), (1, .ref b1), (2, .ref b2), (3, .int p3), (4, .int x4_17), (5, .int x5_17), (6, .int x6_17)]) (pc := 33) (td kX0_judge 17 rfl) (by decide) rfl ?_
      refine X_aload_n (pc := 35) (td kX0_judge 18 rfl) rfl 1 rfl ?_
      refine X_getF (b := 197) (pc := 36) sC_196 rfl fk_X0_12 (td kX0_judge 19 rfl) ?_
      refine X_aload_n (pc := 39) (td kX0_judge 20 rfl) rfl 2 rfl ?_
      refine X_aload_n (pc := 40) (td kX0_judge 21 rfl) rfl 3 rfl ?_
      refine X_getF (b := (b2 + 1)) (pc := 41) b2_s0 rfl fk_X0_45 (td kX0_judge 22 rfl) ?_
      refine X_iload (pc := 44) (td kX0_judge 23 rfl) 7 rfl ?_
      refine X_bald (pc := 46) b2_s1 (td kX0_judge 24 rfl) ?_
      refine X_aload_n (pc := 47) (td kX0_judge 25 rfl) rfl 3 rfl ?_
      refine X_getF (b := (b2 + 2)) (pc := 48) b2_s0 rfl fk_X0_49 (td kX0_judge 26 rfl) ?_
      refine X_iload (pc := 51) (td kX0_judge 27 rfl) 7 rfl ?_
      refine X_bald (pc := 53) b2_s2 (td kX0_judge 28 rfl) ?_
      refine X_aload_n (pc := 54) (td kX0_judge 29 rfl) rfl 3 rfl ?_
      refine X_getF (b := (b2 + 3)) (pc := 55) b2_s0 rfl fk_X0_52 (td kX0_judge 30 rfl) ?_
      refine X_iload (pc := 58) (td kX0_judge 31 rfl) 7 rfl ?_
      refine X_bald (pc := 60) b2_s3 (td kX0_judge 32 rfl) ?_
      refine X_calli (pc := 61) (As := [.ref b1, .int (gI σ_17 (b2 + 1) x6_17.toNatClampNeg), .int (gI σ_17 (b2 + 2) x6_17.toNatClampNeg), .int (gI σ_17 (b2 + 3) x6_17.toNatClampNeg)]) (st := []) sC_197 (x_X4_obey 197 b1 (gI σ_17 (b2 + 1) x6_17.toNatClampNeg) (gI σ_17 (b2 + 2) x6_17.toNatClampNeg) (gI σ_17 (b2 + 3) x6_17.toNatClampNeg) σ_17) mkX4_obey lk_X0_55 (by omega) rfl rfl (Nat.le_of_ble_eq_true rfl) (td kX0_judge 33 rfl) (fun r61 σ61 _ hr61 => ?_)
      refine X_istore (L' := [(8, .int r61), (7, .int v7_33), (0, .ref 196), (1, .ref b1), (2, .ref b2), (3, .int p3), (4, .int x4_17), (5, .int x5_17), (6, .int x6_17)]) (pc := 64) (td kX0_judge 34 rfl) (by decide) rfl ?_
      refine X_iload (pc := 66) (td kX0_judge 35 rfl) 0 rfl ?_
      refine X_jn (P := fun k => ∀ (x4_81 : Int32), X (wsOf SHC) RX0 cX0_judge 9 (some .int) 6 0 81 [(0, .ref 196), (1, .ref b1), (2, .ref b2), (3, .int p3), (4, .int x4_81), (5, .int x5_17), (6, .int x6_17), (7, .int v7_33)] [] σ61 (k x4_81)) (fun x4_81 => ?_) (fun k81 h81 => ?_)
      · refine X_aload_n (pc := 81) (td kX0_judge 42 rfl) rfl 0 rfl ?_
        refine X_getF (b := 197) (pc := 82) sC_196 rfl fk_X0_12 (td kX0_judge 43 rfl) ?_
        refine X_getI (pc := 85) sC_197 rfl fk_X0_42 (td kX0_judge 44 rfl) ?_
        refine X_iload (pc := 88) (td kX0_judge 45 rfl) 7 rfl ?_
        refine X_jn (P := fun k => ∀ (x5_103 : Int32), X (wsOf SHC) RX0 cX0_judge 9 (some .int) 6 0 103 [(0, .ref 196), (1, .ref b1), (2, .ref b2), (3, .int p3), (4, .int x4_81), (5, .int x5_103), (6, .int x6_17)] [] σ61 (k x5_103)) (fun x5_103 => ?_) (fun k103 h103 => ?_)
        · refine X_iinc (v := (x6_17 + (1 : Int32))) (L' := [(6, .int (x6_17 + (1 : Int32))), (0, .ref 196), (1, .ref b1), (2, .ref b2), (3, .int p3), (4, .int x4_81), (5, .int x5_103)]) (pc := 103) (td kX0_judge 52 rfl) 6 rfl rfl (by decide) rfl ?_
          refine X_goto (pc := 106) (tgt := 17) (td kX0_judge 53 rfl) (by decide) ?_
          refine X_sub [1, 2, 3, 4, 5, 6, 0] rfl ?_
          exact hrec17 x4_81 x5_103 (x6_17 + (1 : Int32)) σ61
        · refine X_icmp_le (pc := 90) (tgt := 103) (td kX0_judge 46 rfl) (by decide) (fun c_90 => ?_) (fun c_90 => ?_)
          · refine X_sub [0, 1, 2, 3, 4, 5, 6] rfl ?_
            exact h103 x5_17
          · refine X_iload (pc := 93) (td kX0_judge 47 rfl) 5 rfl ?_
            refine X_iconst (v := (-1 : Int32)) (pc := 95) (td kX0_judge 48 rfl) (by decide) ?_
            refine X_icmp_ne (pc := 96) (tgt := 103) (td kX0_judge 49 rfl) (by decide) (fun c_96 => ?_) (fun c_96 => ?_)
            · refine X_sub [0, 1, 2, 3, 4, 5, 6] rfl ?_
              exact h103 x5_17
            · refine X_iload (pc := 99) (td kX0_judge 50 rfl) 6 rfl ?_
              refine X_istore (L' := [(5, .int x6_17), (0, .ref 196), (1, .ref b1), (2, .ref b2), (3, .int p3), (4, .int x4_81), (6, .int x6_17), (7, .int v7_33)]) (pc := 101) (td kX0_judge 51 rfl) (by decide) rfl ?_
              refine X_sub [1, 2, 3, 4, 5, 0, 6] rfl ?_
              exact h103 x6_17
      · refine X_if_ne (pc := 68) (tgt := 81) (td kX0_judge 36 rfl) (by decide) (fun c_68 => ?_) (fun c_68 => ?_)
        · refine X_sub [2, 3, 4, 5, 6, 7, 8, 1] rfl ?_
          exact h81 x4_17
        · refine X_iload (pc := 71) (td kX0_judge 37 rfl) 6 rfl ?_
          refine X_iconst (v := (-1 : Int32)) (pc := 73) (td kX0_judge 38 rfl) (by decide) ?_
          refine X_icmp_ne (pc := 74) (tgt := 81) (td kX0_judge 39 rfl) (by decide) (fun c_74 => ?_) (fun c_74 => ?_)
          · refine X_sub [2, 3, 4, 5, 6, 7, 8, 1] rfl ?_
            exact h81 x4_17
          · refine X_iload (pc := 77) (td kX0_judge 40 rfl) 8 rfl ?_
            refine X_istore (L' := [(4, .int x6_17), (8, .int r61), (7, .int v7_33), (0, .ref 196), (1, .ref b1), (2, .ref b2), (3, .int p3), (5, .int x5_17), (6, .int x6_17)]) (pc := 79) (td kX0_judge 41 rfl) (by decide) rfl ?_
            refine X_sub [3, 4, 5, 6, 0, 7, 8, 2] rfl ?_
            exact h81 x6_17
def F_X0_laneToWatch_144 (b1 : Nat) (x6_134 : Int32) (σ_134 : Mm) (k196 : Int32 → Option (Int32 × Mm)) (rec144 : Int32 → Int32 → Int32 → Option (Int32 × Mm)) (x7_144 : Int32) (x8_144 : Int32) (x9_144 : Int32) : Option (Int32 × Mm) := (if x9_144 < (gI σ_134 b1 1) then ck (inb x9_144 8) (ck (inb x9_144 8) (bn (imx (gI σ_134 205 x9_144.toNatClampNeg) (x6_134 - (gI σ_134 205 x9_144.toNatClampNeg))) (fun v10_173 => jn (fun (x7_190 : Int32) (x8_190 : Int32) => rec144 x7_190 x8_190 (x9_144 + (1 : Int32))) (fun k190 => (if v10_173 < x8_144 then k190 x9_144 v10_173 else k190 x7_144 x8_144))))) else k196 x7_144)
def F_X0_laneToWatch_96 (b1 : Nat) (x6_50 : Int32) (y0_82 : Int32) (k128 : Int32 → Mm → Option (Int32 × Mm)) (rec96 : Int32 → Mm → Option (Int32 × Mm)) (x9_96 : Int32) (σ_96 : Mm) : Option (Int32 × Mm) := (if x9_96 < (gI σ_96 b1 1) then ck (inb x9_96 8) (ck (inb x9_96 8) (bn (pI σ_96 205 x9_96.toNatClampNeg ((gI σ_96 205 x9_96.toNatClampNeg) + ((y0_82 >>> (x9_96 &&& 31)) &&& (1 : Int32)))) (fun σ121 => rec96 (x9_96 + (1 : Int32)) σ121))) else k128 (x6_50 + (1 : Int32)) σ_96)
def F_X0_laneToWatch_50 (b1 : Nat) (b2 : Nat) (b3 : Nat) (p4 : Int32) (v5_16 : Int32) (k134 : Int32 → Mm → Option (Int32 × Mm)) (rec50 : Int32 → Int32 → Mm → Option (Int32 × Mm)) (x6_50 : Int32) (x7_50 : Int32) (σ_50 : Mm) : Option (Int32 × Mm) := (if v5_16 < x7_50 then k134 x6_50 σ_50 else jn (fun (y0_82 : Int32) (σ_82 : Mm) => jn (fun (x6_128 : Int32) (σ_128 : Mm) => rec50 x6_128 (x7_50 + (1 : Int32)) σ_128) (fun k128 => (if y0_82 = (-1 : Int32) then k128 x6_50 σ_82 else lq2 (F_X0_laneToWatch_96 b1 x6_50 y0_82 k128) 1000000 (0 : Int32) σ_82))) (fun k82 => (if (x7_50 &&& (v5_16 ^^^ (-1 : Int32))) = 0 then cl (f_X0_litBySet b1 b2 b3 x7_50 p4 σ_50) (fun r75 σ75 => k82 r75 σ75) else k82 (-1 : Int32) σ_50)))
def F_X0_laneToWatch_24 (b1 : Nat) (k47 : Mm → Option (Int32 × Mm)) (rec24 : Int32 → Mm → Option (Int32 × Mm)) (x7_24 : Int32) (σ_24 : Mm) : Option (Int32 × Mm) := (if x7_24 < (gI σ_24 b1 1) then ck (inb x7_24 8) (bn (pI σ_24 205 x7_24.toNatClampNeg (0 : Int32)) (fun σ40 => rec24 (x7_24 + (1 : Int32)) σ40)) else k47 σ_24)
def f_X0_laneToWatch (b1 : Nat) (b2 : Nat) (b3 : Nat) (p4 : Int32) (σ : Mm) : Option (Int32 × Mm) := ck (isTown b1) (ck (isNight b2) (ck (isWatched b3) (cl (f_X4_homeBits b2 b1 σ) (fun r2 _ => bn ((r2 ^^^ (-1 : Int32)) &&& (((1 : Int32) <<< ((gI σ b1 2) &&& 31)) - (1 : Int32))) (fun v5_16 => jn (fun (σ_47 : Mm) => jn (fun (x6_134 : Int32) (σ_134 : Mm) => jn (fun (x7_196 : Int32) => some (x7_196, σ_134)) (fun k196 => lq3 (F_X0_laneToWatch_144 b1 x6_134 σ_134 k196) 1000000 (-1 : Int32) x6_134 (0 : Int32))) (fun k134 => lq3 (F_X0_laneToWatch_50 b1 b2 b3 p4 v5_16 k134) 1000000 (0 : Int32) (0 : Int32) σ_47)) (fun k47 => lq2 (F_X0_laneToWatch_24 b1 k47) 1000000 (0 : Int32) σ))))))
set_option maxHeartbeats 4000000 in
set_option maxRecDepth 100000 in
theorem x_X0_laneToWatch (b1 : Nat) (b2 : Nat) (b3 : Nat) (p4 : Int32) (σ : Mm) : Con (wsOf SHC) yX0_laneToWatch cX0_laneToWatch 11 (some .int) 6 [.ref 196, .ref b1, .ref b2, .ref b3, .int p4] σ (f_X0_laneToWatch b1 b2 b3 p4 σ) := by
  refine Con.of_X (by decide +kernel) (Nat.le_of_ble_eq_true rfl) ?_
  unfold f_X0_laneToWatch
  show X (wsOf SHC) RX0 cX0_laneToWatch 11 (some .int) 6 0 0 [(0, .ref 196), (1, .ref b1), (2, .ref b2), (3, .ref b3), (4, .int p4)] [] σ _
  refine X_ck (fun b1_h => ?_)
  obtain ⟨b1_s0, b1_s1, b1_s2, b1_s3, b1_s4, b1_s5, b1_s6, b1_s7, b1_s8, b1_s9, b1_s10, b1_s11, b1_s12, b1_s13, b1_s14⟩ := knTown b1_h
  refine X_ck (fun b2_h => ?_)
  obtain ⟨b2_s0, b2_s1, b2_s2, b2_s3, b2_s4, b2_s5, b2_s6⟩ := knNight b2_h
  refine X_ck (fun b3_h => ?_)
  obtain ⟨b3_s0, b3_s1, b3_s2, b3_s3⟩ := knWatched b3_h
  refine X_aload_n (pc := 0) (td kX0_laneToWatch 0 rfl) rfl 2 rfl ?_
  refine X_aload_n (pc := 1) (td kX0_laneToWatch 1 rfl) rfl 1 rfl ?_
  refine X_callip (pc := 2) (As := [.ref b1]) (st := []) (p_X4_homeBits b2 b1 σ) b2_s0 (x_X4_homeBits b2 b1 σ) mkX4_homeBits lk_X0_94 (by omega) rfl rfl (Nat.le_of_ble_eq_true rfl) (td kX0_laneToWatch 2 rfl) (fun r2 hr2 => ?_)
  refine X_iconst (v := (-1 : Int32)) (pc := 5) (td kX0_laneToWatch 3 rfl) (by decide) ?_
  refine X_ixor (pc := 6) (td kX0_laneToWatch 4 rfl) ?_
  refine X_iconst (v := (1 : Int32)) (pc := 7) (td kX0_laneToWatch 5 rfl) (by decide) ?_
  refine X_aload_n (pc := 8) (td kX0_laneToWatch 6 rfl) rfl 1 rfl ?_
  refine X_getI (pc := 9) b1_s0 rfl fk_X0_97 (td kX0_laneToWatch 7 rfl) ?_
  refine X_ishl (pc := 12) (td kX0_laneToWatch 8 rfl) ?_
  refine X_iconst (v := (1 : Int32)) (pc := 13) (td kX0_laneToWatch 9 rfl) (by decide) ?_
  refine X_isub (pc := 14) (td kX0_laneToWatch 10 rfl) ?_
  refine X_iand (pc := 15) (td kX0_laneToWatch 11 rfl) ?_
  refine X_bi (fun v5_16 => ?_)
  refine X_istore (L' := [(5, .int v5_16), (0, .ref 196), (1, .ref b1), (2, .ref b2), (3, .ref b3), (4, .int p4)]) (pc := 16) (td kX0_laneToWatch 12 rfl) (by decide) rfl ?_
  refine X_iconst (v := (0 : Int32)) (pc := 18) (td kX0_laneToWatch 13 rfl) (by decide) ?_
  refine X_istore (L' := [(6, .int (0 : Int32)), (5, .int v5_16), (0, .ref 196), (1, .ref b1), (2, .ref b2), (3, .ref b3), (4, .int p4)]) (pc := 19) (td kX0_laneToWatch 14 rfl) (by decide) rfl ?_
  refine X_iconst (v := (0 : Int32)) (pc := 21) (td kX0_laneToWatch 15 rfl) (by decide) ?_
  refine X_istore (L' := [(7, .int (0 : Int32)), (6, .int (0 : Int32)), (5, .int v5_16), (0, .ref 196), (1, .ref b1), (2, .ref b2), (3, .ref b3), (4, .int p4)]) (pc := 22) (td kX0_laneToWatch 16 rfl) (by decide) rfl ?_
  refine X_jn (P := fun k => ∀ (σ_47 : Mm), X (wsOf SHC) RX0 cX0_laneToWatch 11 (some .int) 6 0 47 [(0, .ref 196), (1, .ref b1), (2, .ref b2), (3, .ref b3), (4, .int p4), (5, .int v5_16), (6, .int (0 : Int32))] [] σ_47 (k σ_47)) (fun σ_47 => ?_) (fun k47 h47 => ?_)
  · refine X_iconst (v := (0 : Int32)) (pc := 47) (td kX0_laneToWatch 28 rfl) (by decide) ?_
    refine X_istore (L' := [(7, .int (0 : Int32)), (0, .ref 196), (1, .ref b1), (2, .ref b2), (3, .ref b3), (4, .int p4), (5, .int v5_16), (6, .int (0 : Int32))]) (pc := 48) (td kX0_laneToWatch 29 rfl) (by decide) rfl ?_
    refine X_jn (P := fun k => ∀ (x6_134 : Int32) (σ_134 : Mm), X (wsOf SHC) RX0 cX0_laneToWatch 11 (some .int) 6 0 134 [(0, .ref 196), (1, .ref b1), (6, .int x6_134)] [] σ_134 (k x6_134 σ_134)) (fun x6_134 σ_134 => ?_) (fun k134 h134 => ?_)
    · refine X_iconst (v := (-1 : Int32)) (pc := 134) (td kX0_laneToWatch 75 rfl) (by decide) ?_
      refine X_istore (L' := [(7, .int (-1 : Int32)), (0, .ref 196), (1, .ref b1), (6, .int x6_134)]) (pc := 135) (td kX0_laneToWatch 76 rfl) (by decide) rfl ?_
      refine X_iload (pc := 137) (td kX0_laneToWatch 77 rfl) 3 rfl ?_
      refine X_istore (L' := [(8, .int x6_134), (7, .int (-1 : Int32)), (0, .ref 196), (1, .ref b1), (6, .int x6_134)]) (pc := 139) (td kX0_laneToWatch 78 rfl) (by decide) rfl ?_
      refine X_iconst (v := (0 : Int32)) (pc := 141) (td kX0_laneToWatch 79 rfl) (by decide) ?_
      refine X_istore (L' := [(9, .int (0 : Int32)), (8, .int x6_134), (7, .int (-1 : Int32)), (0, .ref 196), (1, .ref b1), (6, .int x6_134)]) (pc := 142) (td kX0_laneToWatch 80 rfl) (by decide) rfl ?_
      refine X_jn (P := fun k => ∀ (x7_196 : Int32), X (wsOf SHC) RX0 cX0_laneToWatch 11 (some .int) 6 0 196 [(7, .int x7_196)] [] σ_134 (k x7_196)) (fun x7_196 => ?_) (fun k196 h196 => ?_)
      · refine X_iload (pc := 196) (td kX0_laneToWatch 106 rfl) 0 rfl ?_
        exact X_ret (pc := 198) (td kX0_laneToWatch 107 rfl) rfl
      · refine X_sub [3, 4, 5, 2, 1, 0] rfl ?_
        refine lq3_ind (P := fun x7_144 x8_144 x9_144 E => X (wsOf SHC) RX0 cX0_laneToWatch 11 (some .int) 6 0 144 [(0, .ref 196), (1, .ref b1), (6, .int x6_134), (7, .int x7_144), (8, .int x8_144), (9, .int x9_144)] [] σ_134 E) (fun _ _ _ => X_none) (fun rec144 hrec144 x7_144 x8_144 x9_144 => ?_) _ _ _ _
        unfold F_X0_laneToWatch_144
        refine X_iload (pc := 144) (td kX0_laneToWatch 81 rfl) 5 rfl ?_
        refine X_aload_n (pc := 146) (td kX0_laneToWatch 82 rfl) rfl 1 rfl ?_
        refine X_getI (pc := 147) b1_s0 rfl fk_X0_124 (td kX0_laneToWatch 83 rfl) ?_
        refine X_icmp_ge (pc := 150) (tgt := 196) (td kX0_laneToWatch 84 rfl) (by decide) (fun c_150 => ?_) (fun c_150 => ?_)
        · refine X_sub [3] rfl ?_
          exact h196 x7_144
        · refine X_aload_n (pc := 153) (td kX0_laneToWatch 85 rfl) rfl 0 rfl ?_
          refine X_getF (b := 205) (pc := 154) sC_196 rfl fk_X0_22 (td kX0_laneToWatch 86 rfl) ?_
          refine X_iload (pc := 157) (td kX0_laneToWatch 87 rfl) 5 rfl ?_
          refine X_iald (pc := 159) sC_205 (td kX0_laneToWatch 88 rfl) ?_
          refine X_iload (pc := 160) (td kX0_laneToWatch 89 rfl) 2 rfl ?_
          refine X_aload_n (pc := 162) (td kX0_laneToWatch 90 rfl) rfl 0 rfl ?_
          refine X_getF (b := 205) (pc := 163) sC_196 rfl fk_X0_22 (td kX0_laneToWatch 91 rfl) ?_
          refine X_iload (pc := 166) (td kX0_laneToWatch 92 rfl) 5 rfl ?_
          refine X_iald (pc := 168) sC_205 (td kX0_laneToWatch 93 rfl) ?_
          refine X_isub (pc := 169) (td kX0_laneToWatch 94 rfl) ?_
          refine X_mmax2 (pc := 170) (td kX0_laneToWatch 95 rfl) lm_X0_152 (by omega) (Nat.le_of_ble_eq_true rfl) ?_
          refine X_bi (fun v10_173 => ?_)
          refine X_istore (L' := [(10, .int v10_173), (0, .ref 196), (1, .ref b1), (6, .int x6_134), (7, .int x7_144), (8, .int x8_144), (9, .int x9_144)]) (pc := 173) (td kX0_laneToWatch 96 rfl) (by decide) rfl ?_
          refine X_iload (pc := 175) (td kX0_laneToWatch 97 rfl) 0 rfl ?_
          refine X_iload (pc := 177) (td kX0_laneToWatch 98 rfl) 5 rfl ?_
          refine X_jn (P := fun k => ∀ (x7_190 : Int32) (x8_190 : Int32), X (wsOf SHC) RX0 cX0_laneToWatch 11 (some .int) 6 0 190 [(0, .ref 196), (1, .ref b1), (6, .int x6_134), (7, .int x7_190), (8, .int x8_190), (9, .int x9_144)] [] σ_134 (k x7_190 x8_190)) (fun x7_190 x8_190 => ?_) (fun k190 h190 => ?_)
          · refine X_iinc (v := (x9_144 + (1 : Int32))) (L' := [(9, .int (x9_144 + (1 : Int32))), (0, .ref 196), (1, .ref b1), (6, .int x6_134), (7, .int x7_190), (8, .int x8_190)]) (pc := 190) (td kX0_laneToWatch 104 rfl) 5 rfl rfl (by decide) rfl ?_
            refine X_goto (pc := 193) (tgt := 144) (td kX0_laneToWatch 105 rfl) (by decide) ?_
            refine X_sub [1, 2, 3, 4, 5, 0] rfl ?_
            exact hrec144 x7_190 x8_190 (x9_144 + (1 : Int32))
          · refine X_icmp_ge (pc := 179) (tgt := 190) (td kX0_laneToWatch 99 rfl) (by decide) (fun c_179 => ?_) (fun c_179 => ?_)
            · refine X_sub [1, 2, 3, 4, 5, 6] rfl ?_
              exact h190 x7_144 x8_144
            · refine X_iload (pc := 182) (td kX0_laneToWatch 100 rfl) 0 rfl ?_
              refine X_istore (L' := [(8, .int v10_173), (10, .int v10_173), (0, .ref 196), (1, .ref b1), (6, .int x6_134), (7, .int x7_144), (9, .int x9_144)]) (pc := 184) (td kX0_laneToWatch 101 rfl) (by decide) rfl ?_
              refine X_iload (pc := 186) (td kX0_laneToWatch 102 rfl) 6 rfl ?_
              refine X_istore (L' := [(7, .int x9_144), (8, .int v10_173), (10, .int v10_173), (0, .ref 196), (1, .ref b1), (6, .int x6_134), (9, .int x9_144)]) (pc := 188) (td kX0_laneToWatch 103 rfl) (by decide) rfl ?_
              refine X_sub [3, 4, 5, 0, 1, 6] rfl ?_
              exact h190 x9_144 v10_173
    · refine X_sub [1, 2, 3, 4, 5, 6, 7, 0] rfl ?_
      refine lq3_ind (P := fun x6_50 x7_50 σ_50 E => X (wsOf SHC) RX0 cX0_laneToWatch 11 (some .int) 6 0 50 [(0, .ref 196), (1, .ref b1), (2, .ref b2), (3, .ref b3), (4, .int p4), (5, .int v5_16), (6, .int x6_50), (7, .int x7_50)] [] σ_50 E) (fun _ _ _ => X_none) (fun rec50 hrec50 x6_50 x7_50 σ_50 => ?_) _ _ _ _
      unfold F_X0_laneToWatch_50
      refine X_iload (pc := 50) (td kX0_laneToWatch 30 rfl) 7 rfl ?_
      refine X_iload (pc := 52) (td kX0_laneToWatch 31 rfl) 5 rfl ?_
      refine X_icmp_gt (pc := 54) (tgt := 134) (td kX0_laneToWatch 32 rfl) (by decide) (fun c_54 => ?_) (fun c_54 => ?_)
      · refine X_sub [0, 1, 6] rfl ?_
        exact h134 x6_50 σ_50
      · refine X_iload (pc := 57) (td kX0_laneToWatch 33 rfl) 7 rfl ?_
        refine X_iload (pc := 59) (td kX0_laneToWatch 34 rfl) 5 rfl ?_
        refine X_iconst (v := (-1 : Int32)) (pc := 61) (td kX0_laneToWatch 35 rfl) (by decide) ?_
        refine X_ixor (pc := 62) (td kX0_laneToWatch 36 rfl) ?_
        refine X_iand (pc := 63) (td kX0_laneToWatch 37 rfl) ?_
        refine X_jn (P := fun k => ∀ (y0_82 : Int32) (σ_82 : Mm), X (wsOf SHC) RX0 cX0_laneToWatch 11 (some .int) 6 0 82 [(0, .ref 196), (1, .ref b1), (2, .ref b2), (3, .ref b3), (4, .int p4), (5, .int v5_16), (6, .int x6_50), (7, .int x7_50)] [.int y0_82] σ_82 (k y0_82 σ_82)) (fun y0_82 σ_82 => ?_) (fun k82 h82 => ?_)
        · refine X_istore (L' := [(8, .int y0_82), (0, .ref 196), (1, .ref b1), (2, .ref b2), (3, .ref b3), (4, .int p4), (5, .int v5_16), (6, .int x6_50), (7, .int x7_50)]) (pc := 82) (td kX0_laneToWatch 48 rfl) (by decide) rfl ?_
          refine X_iload (pc := 84) (td kX0_laneToWatch 49 rfl) 0 rfl ?_
          refine X_iconst (v := (-1 : Int32)) (pc := 86) (td kX0_laneToWatch 50 rfl) (by decide) ?_
          refine X_jn (P := fun k => ∀ (x6_128 : Int32) (σ_128 : Mm), X (wsOf SHC) RX0 cX0_laneToWatch 11 (some .int) 6 0 128 [(0, .ref 196), (1, .ref b1), (2, .ref b2), (3, .ref b3), (4, .int p4), (5, .int v5_16), (6, .int x6_128), (7, .int x7_50)] [] σ_128 (k x6_128 σ_128)) (fun x6_128 σ_128 => ?_) (fun k128 h128 => ?_)
          · refine X_iinc (v := (x7_50 + (1 : Int32))) (L' := [(7, .int (x7_50 + (1 : Int32))), (0, .ref 196), (1, .ref b1), (2, .ref b2), (3, .ref b3), (4, .int p4), (5, .int v5_16), (6, .int x6_128)]) (pc := 128) (td kX0_laneToWatch 73 rfl) 7 rfl rfl (by decide) rfl ?_
            refine X_goto (pc := 131) (tgt := 50) (td kX0_laneToWatch 74 rfl) (by decide) ?_
            refine X_sub [1, 2, 3, 4, 5, 6, 7, 0] rfl ?_
            exact hrec50 x6_128 (x7_50 + (1 : Int32)) σ_128
          · refine X_icmp_eq (pc := 87) (tgt := 128) (td kX0_laneToWatch 51 rfl) (by decide) (fun c_87 => ?_) (fun c_87 => ?_)
            · refine X_sub [1, 2, 3, 4, 5, 6, 7, 8] rfl ?_
              exact h128 x6_50 σ_82
            · refine X_iinc (v := (x6_50 + (1 : Int32))) (L' := [(6, .int (x6_50 + (1 : Int32))), (8, .int y0_82), (0, .ref 196), (1, .ref b1), (2, .ref b2), (3, .ref b3), (4, .int p4), (5, .int v5_16), (7, .int x7_50)]) (pc := 90) (td kX0_laneToWatch 52 rfl) 7 rfl rfl (by decide) rfl ?_
              refine X_iconst (v := (0 : Int32)) (pc := 93) (td kX0_laneToWatch 53 rfl) (by decide) ?_
              refine X_istore (L' := [(9, .int (0 : Int32)), (6, .int (x6_50 + (1 : Int32))), (8, .int y0_82), (0, .ref 196), (1, .ref b1), (2, .ref b2), (3, .ref b3), (4, .int p4), (5, .int v5_16), (7, .int x7_50)]) (pc := 94) (td kX0_laneToWatch 54 rfl) (by decide) rfl ?_
              refine X_sub [3, 4, 5, 6, 7, 8, 1, 9, 2, 0] rfl ?_
              refine lq2_ind (P := fun x9_96 σ_96 E => X (wsOf SHC) RX0 cX0_laneToWatch 11 (some .int) 6 0 96 [(0, .ref 196), (1, .ref b1), (2, .ref b2), (3, .ref b3), (4, .int p4), (5, .int v5_16), (6, .int (x6_50 + (1 : Int32))), (7, .int x7_50), (8, .int y0_82), (9, .int x9_96)] [] σ_96 E) (fun _ _ => X_none) (fun rec96 hrec96 x9_96 σ_96 => ?_) _ _ _
              unfold F_X0_laneToWatch_96
              refine X_iload (pc := 96) (td kX0_laneToWatch 55 rfl) 9 rfl ?_
              refine X_aload_n (pc := 98) (td kX0_laneToWatch 56 rfl) rfl 1 rfl ?_
              refine X_getI (pc := 99) b1_s0 rfl fk_X0_124 (td kX0_laneToWatch 57 rfl) ?_
              refine X_icmp_ge (pc := 102) (tgt := 128) (td kX0_laneToWatch 58 rfl) (by decide) (fun c_102 => ?_) (fun c_102 => ?_)
              · refine X_sub [0, 1, 2, 3, 4, 5, 6, 7] rfl ?_
                exact h128 (x6_50 + (1 : Int32)) σ_96
              · refine X_aload_n (pc := 105) (td kX0_laneToWatch 59 rfl) rfl 0 rfl ?_
                refine X_getF (b := 205) (pc := 106) sC_196 rfl fk_X0_22 (td kX0_laneToWatch 60 rfl) ?_
                refine X_iload (pc := 109) (td kX0_laneToWatch 61 rfl) 9 rfl ?_
                refine X_dup2 (pc := 111) (td kX0_laneToWatch 62 rfl) rfl rfl ?_
                refine X_iald (pc := 112) sC_205 (td kX0_laneToWatch 63 rfl) ?_
                refine X_iload (pc := 113) (td kX0_laneToWatch 64 rfl) 8 rfl ?_
                refine X_iload (pc := 115) (td kX0_laneToWatch 65 rfl) 9 rfl ?_
                refine X_ishr (pc := 117) (td kX0_laneToWatch 66 rfl) ?_
                refine X_iconst (v := (1 : Int32)) (pc := 118) (td kX0_laneToWatch 67 rfl) (by decide) ?_
                refine X_iand (pc := 119) (td kX0_laneToWatch 68 rfl) ?_
                refine X_iadd (pc := 120) (td kX0_laneToWatch 69 rfl) ?_
                refine X_iast (pc := 121) sC_205 (td kX0_laneToWatch 70 rfl) (fun σ121 => ?_)
                refine X_iinc (v := (x9_96 + (1 : Int32))) (L' := [(9, .int (x9_96 + (1 : Int32))), (0, .ref 196), (1, .ref b1), (2, .ref b2), (3, .ref b3), (4, .int p4), (5, .int v5_16), (6, .int (x6_50 + (1 : Int32))), (7, .int x7_50), (8, .int y0_82)]) (pc := 122) (td kX0_laneToWatch 71 rfl) 9 rfl rfl (by decide) rfl ?_
                refine X_goto (pc := 125) (tgt := 96) (td kX0_laneToWatch 72 rfl) (by decide) ?_
                refine X_sub [1, 2, 3, 4, 5, 6, 7, 8, 9, 0] rfl ?_
                exact hrec96 (x9_96 + (1 : Int32)) σ121
        · refine X_if_ne (pc := 64) (tgt := 81) (td kX0_laneToWatch 38 rfl) (by decide) (fun c_64 => ?_) (fun c_64 => ?_)
          · refine X_iconst (v := (-1 : Int32)) (pc := 81) (td kX0_laneToWatch 47 rfl) (by decide) ?_
            exact h82 (-1 : Int32) σ_50
          · refine X_aload_n (pc := 67) (td kX0_laneToWatch 39 rfl) rfl 0 rfl ?_
            refine X_aload_n (pc := 68) (td kX0_laneToWatch 40 rfl) rfl 1 rfl ?_
            refine X_aload_n (pc := 69) (td kX0_laneToWatch 41 rfl) rfl 2 rfl ?_
            refine X_aload_n (pc := 70) (td kX0_laneToWatch 42 rfl) rfl 3 rfl ?_
            refine X_iload (pc := 71) (td kX0_laneToWatch 43 rfl) 7 rfl ?_
            refine X_iload (pc := 73) (td kX0_laneToWatch 44 rfl) 4 rfl ?_
            refine X_calli (pc := 75) (As := [.ref b1, .ref b2, .ref b3, .int x7_50, .int p4]) (st := []) sC_196 (x_X0_litBySet b1 b2 b3 x7_50 p4 σ_50) mkX0_litBySet lk_X0_148 (by omega) rfl rfl (Nat.le_of_ble_eq_true rfl) (td kX0_laneToWatch 45 rfl) (fun r75 σ75 _ hr75 => ?_)
            refine X_goto (pc := 78) (tgt := 82) (td kX0_laneToWatch 46 rfl) (by decide) ?_
            exact h82 r75 σ75
  · refine X_sub [3, 4, 5, 6, 7, 2, 1, 0] rfl ?_
    refine lq2_ind (P := fun x7_24 σ_24 E => X (wsOf SHC) RX0 cX0_laneToWatch 11 (some .int) 6 0 24 [(0, .ref 196), (1, .ref b1), (2, .ref b2), (3, .ref b3), (4, .int p4), (5, .int v5_16), (6, .int (0 : Int32)), (7, .int x7_24)] [] σ_24 E) (fun _ _ => X_none) (fun rec24 hrec24 x7_24 σ_24 => ?_) _ _ _
    unfold F_X0_laneToWatch_24
    refine X_iload (pc := 24) (td kX0_laneToWatch 17 rfl) 7 rfl ?_
    refine X_aload_n (pc := 26) (td kX0_laneToWatch 18 rfl) rfl 1 rfl ?_
    refine X_getI (pc := 27) b1_s0 rfl fk_X0_124 (td kX0_laneToWatch 19 rfl) ?_
    refine X_icmp_ge (pc := 30) (tgt := 47) (td kX0_laneToWatch 20 rfl) (by decide) (fun c_30 => ?_) (fun c_30 => ?_)
    · refine X_sub [0, 1, 2, 3, 4, 5, 6] rfl ?_
      exact h47 σ_24
    · refine X_aload_n (pc := 33) (td kX0_laneToWatch 21 rfl) rfl 0 rfl ?_
      refine X_getF (b := 205) (pc := 34) sC_196 rfl fk_X0_22 (td kX0_laneToWatch 22 rfl) ?_
      refine X_iload (pc := 37) (td kX0_laneToWatch 23 rfl) 7 rfl ?_
      refine X_iconst (v := (0 : Int32)) (pc := 39) (td kX0_laneToWatch 24 rfl) (by decide) ?_
      refine X_iast (pc := 40) sC_205 (td kX0_laneToWatch 25 rfl) (fun σ40 => ?_)
      refine X_iinc (v := (x7_24 + (1 : Int32))) (L' := [(7, .int (x7_24 + (1 : Int32))), (0, .ref 196), (1, .ref b1), (2, .ref b2), (3, .ref b3), (4, .int p4), (5, .int v5_16), (6, .int (0 : Int32))]) (pc := 41) (td kX0_laneToWatch 26 rfl) 7 rfl rfl (by decide) rfl ?_
      refine X_goto (pc := 44) (tgt := 24) (td kX0_laneToWatch 27 rfl) (by decide) ?_
      refine X_sub [1, 2, 3, 4, 5, 6, 7, 0] rfl ?_
      exact hrec24 (x7_24 + (1 : Int32)) σ40
def F_X0_litBehind_11 (b1 : Nat) (p4 : Int32) (k33 : Mm → Option (Int32 × Mm)) (rec11 : Int32 → Mm → Option (Int32 × Mm)) (x5_11 : Int32) (σ_11 : Mm) : Option (Int32 × Mm) := (if x5_11 < p4 then cl (f_X4_pass 197 b1 (0 : Int32) σ_11) (fun _ σ24 => rec11 (x5_11 + (1 : Int32)) σ24) else k33 σ_11)
def f_X0_litBehind (b1 : Nat) (b2 : Nat) (p3 : Int32) (p4 : Int32) (σ : Mm) : Option (Int32 × Mm) := ck (isTown b1) (ck (isNight b2) (cl (f_X4_copyFrom 197 b2 σ) (fun _ σ5 => jn (fun (σ_33 : Mm) => ck (inb p3 8) (some ((gI σ_33 198 p3.toNatClampNeg), σ_33))) (fun k33 => lq2 (F_X0_litBehind_11 b1 p4 k33) 1000000 (0 : Int32) σ5))))
set_option maxHeartbeats 4000000 in
set_option maxRecDepth 100000 in
theorem x_X0_litBehind (b1 : Nat) (b2 : Nat) (p3 : Int32) (p4 : Int32) (σ : Mm) : Con (wsOf SHC) yX0_litBehind cX0_litBehind 6 (some .int) 5 [.ref 196, .ref b1, .ref b2, .int p3, .int p4] σ (f_X0_litBehind b1 b2 p3 p4 σ) := by
  refine Con.of_X (by decide +kernel) (Nat.le_of_ble_eq_true rfl) ?_
  unfold f_X0_litBehind
  show X (wsOf SHC) RX0 cX0_litBehind 6 (some .int) 5 0 0 [(0, .ref 196), (1, .ref b1), (2, .ref b2), (3, .int p3), (4, .int p4)] [] σ _
  refine X_ck (fun b1_h => ?_)
  obtain ⟨b1_s0, b1_s1, b1_s2, b1_s3, b1_s4, b1_s5, b1_s6, b1_s7, b1_s8, b1_s9, b1_s10, b1_s11, b1_s12, b1_s13, b1_s14⟩ := knTown b1_h
  refine X_ck (fun b2_h => ?_)
  obtain ⟨b2_s0, b2_s1, b2_s2, b2_s3, b2_s4, b2_s5, b2_s6⟩ := knNight b2_h
  refine X_aload_n (pc := 0) (td kX0_litBehind 0 rfl) rfl 0 rfl ?_
  refine X_getF (b := 197) (pc := 1) sC_196 rfl fk_X0_12 (td kX0_litBehind 1 rfl) ?_
  refine X_aload_n (pc := 4) (td kX0_litBehind 2 rfl) rfl 2 rfl ?_
  refine X_callv (pc := 5) (As := [.ref b2]) (st := []) sC_197 (x_X4_copyFrom 197 b2 σ) mkX4_copyFrom lk_X0_59 (by omega) rfl rfl (Nat.le_of_ble_eq_true rfl) (td kX0_litBehind 3 rfl) (fun _ σ5 _ => ?_)
  refine X_iconst (v := (0 : Int32)) (pc := 8) (td kX0_litBehind 4 rfl) (by decide) ?_
  refine X_istore (L' := [(5, .int (0 : Int32)), (0, .ref 196), (1, .ref b1), (2, .ref b2), (3, .int p3), (4, .int p4)]) (pc := 9) (td kX0_litBehind 5 rfl) (by decide) rfl ?_
  refine X_jn (P := fun k => ∀ (σ_33 : Mm), X (wsOf SHC) RX0 cX0_litBehind 6 (some .int) 5 0 33 [(0, .ref 196), (3, .int p3)] [] σ_33 (k σ_33)) (fun σ_33 => ?_) (fun k33 h33 => ?_)
  · refine X_aload_n (pc := 33) (td kX0_litBehind 16 rfl) rfl 0 rfl ?_
    refine X_getF (b := 197) (pc := 34) sC_196 rfl fk_X0_12 (td kX0_litBehind 17 rfl) ?_
    refine X_getF (b := 198) (pc := 37) sC_197 rfl fk_X0_91 (td kX0_litBehind 18 rfl) ?_
    refine X_iload_n (pc := 40) (td kX0_litBehind 19 rfl) rfl 1 rfl ?_
    refine X_iald (pc := 41) sC_198 (td kX0_litBehind 20 rfl) ?_
    exact X_ret (pc := 42) (td kX0_litBehind 21 rfl) rfl
  · refine X_sub [1, 2, 4, 5, 0] rfl ?_
    refine lq2_ind (P := fun x5_11 σ_11 E => X (wsOf SHC) RX0 cX0_litBehind 6 (some .int) 5 0 11 [(0, .ref 196), (1, .ref b1), (3, .int p3), (4, .int p4), (5, .int x5_11)] [] σ_11 E) (fun _ _ => X_none) (fun rec11 hrec11 x5_11 σ_11 => ?_) _ _ _
    unfold F_X0_litBehind_11
    refine X_iload (pc := 11) (td kX0_litBehind 6 rfl) 4 rfl ?_
    refine X_iload (pc := 13) (td kX0_litBehind 7 rfl) 3 rfl ?_
    refine X_icmp_ge (pc := 15) (tgt := 33) (td kX0_litBehind 8 rfl) (by decide) (fun c_15 => ?_) (fun c_15 => ?_)
    · refine X_sub [0, 2] rfl ?_
      exact h33 σ_11
    · refine X_aload_n (pc := 18) (td kX0_litBehind 9 rfl) rfl 0 rfl ?_
      refine X_getF (b := 197) (pc := 19) sC_196 rfl fk_X0_12 (td kX0_litBehind 10 rfl) ?_
      refine X_aload_n (pc := 22) (td kX0_litBehind 11 rfl) rfl 1 rfl ?_
      refine X_iconst (v := (0 : Int32)) (pc := 23) (td kX0_litBehind 12 rfl) (by decide) ?_
      refine X_callv (pc := 24) (As := [.ref b1, .int (0 : Int32)]) (st := []) sC_197 (x_X4_pass 197 b1 (0 : Int32) σ_11) mkX4_pass lk_X0_67 (by omega) rfl rfl (Nat.le_of_ble_eq_true rfl) (td kX0_litBehind 13 rfl) (fun _ σ24 _ => ?_)
      refine X_iinc (v := (x5_11 + (1 : Int32))) (L' := [(5, .int (x5_11 + (1 : Int32))), (0, .ref 196), (1, .ref b1), (3, .int p3), (4, .int p4)]) (pc := 27) (td kX0_litBehind 14 rfl) 4 rfl rfl (by decide) rfl ?_
      refine X_goto (pc := 30) (tgt := 11) (td kX0_litBehind 15 rfl) (by decide) ?_
      refine X_sub [1, 2, 3, 4, 0] rfl ?_
      exact hrec11 (x5_11 + (1 : Int32)) σ24
def F_X0_minutesTillHome_11 (b1 : Nat) (p3 : Int32) (k45 : Mm → Option (Int32 × Mm)) (rec11 : Int32 → Mm → Option (Int32 × Mm)) (x4_11 : Int32) (σ_11 : Mm) : Option (Int32 × Mm) := (if x4_11 < (99 : Int32) then cl (f_X4_isHome 197 b1 p3 σ_11) (fun r24 _ => (if r24 = 0 then cl (f_X4_pass 197 b1 (0 : Int32) σ_11) (fun _ σ36 => rec11 (x4_11 + (1 : Int32)) σ36) else k45 σ_11)) else k45 σ_11)
def f_X0_minutesTillHome (b1 : Nat) (b2 : Nat) (p3 : Int32) (σ : Mm) : Option (Int32 × Mm) := ck (isTown b1) (ck (isNight b2) (cl (f_X4_copyFrom 197 b2 σ) (fun _ σ5 => jn (fun (σ_45 : Mm) => cl (f_X4_isHome 197 b1 p3 σ_45) (fun r51 _ => (if r51 = 0 then some ((-1 : Int32), σ_45) else some (((gI σ_45 197 0) - (gI σ_45 b2 0)), σ_45)))) (fun k45 => lq2 (F_X0_minutesTillHome_11 b1 p3 k45) 1000000 (0 : Int32) σ5))))
set_option maxHeartbeats 4000000 in
set_option maxRecDepth 100000 in
theorem x_X0_minutesTillHome (b1 : Nat) (b2 : Nat) (p3 : Int32) (σ : Mm) : Con (wsOf SHC) yX0_minutesTillHome cX0_minutesTillHome 5 (some .int) 5 [.ref 196, .ref b1, .ref b2, .int p3] σ (f_X0_minutesTillHome b1 b2 p3 σ) := by
  refine Con.of_X (by decide +kernel) (Nat.le_of_ble_eq_true rfl) ?_
  unfold f_X0_minutesTillHome
  show X (wsOf SHC) RX0 cX0_minutesTillHome 5 (some .int) 5 0 0 [(0, .ref 196), (1, .ref b1), (2, .ref b2), (3, .int p3)] [] σ _
  refine X_ck (fun b1_h => ?_)
  obtain ⟨b1_s0, b1_s1, b1_s2, b1_s3, b1_s4, b1_s5, b1_s6, b1_s7, b1_s8, b1_s9, b1_s10, b1_s11, b1_s12, b1_s13, b1_s14⟩ := knTown b1_h
  refine X_ck (fun b2_h => ?_)
  obtain ⟨b2_s0, b2_s1, b2_s2, b2_s3, b2_s4, b2_s5, b2_s6⟩ := knNight b2_h
  refine X_aload_n (pc := 0) (td kX0_minutesTillHome 0 rfl) rfl 0 rfl ?_
  refine X_getF (b := 197) (pc := 1) sC_196 rfl fk_X0_12 (td kX0_minutesTillHome 1 rfl) ?_
  refine X_aload_n (pc := 4) (td kX0_minutesTillHome 2 rfl) rfl 2 rfl ?_
  refine X_callv (pc := 5) (As := [.ref b2]) (st := []) sC_197 (x_X4_copyFrom 197 b2 σ) mkX4_copyFrom lk_X0_59 (by omega) rfl rfl (Nat.le_of_ble_eq_true rfl) (td kX0_minutesTillHome 3 rfl) (fun _ σ5 _ => ?_)
  refine X_iconst (v := (0 : Int32)) (pc := 8) (td kX0_minutesTillHome 4 rfl) (by decide) ?_
  refine X_istore (L' := [(4, .int (0 : Int32)), (0, .ref 196), (1, .ref b1), (2, .ref b2), (3, .int p3)]) (pc := 9) (td kX0_minutesTillHome 5 rfl) (by decide) rfl ?_
  refine X_jn (P := fun k => ∀ (σ_45 : Mm), X (wsOf SHC) RX0 cX0_minutesTillHome 5 (some .int) 5 0 45 [(0, .ref 196), (1, .ref b1), (2, .ref b2), (3, .int p3)] [] σ_45 (k σ_45)) (fun σ_45 => ?_) (fun k45 h45 => ?_)
  · refine X_aload_n (pc := 45) (td kX0_minutesTillHome 22 rfl) rfl 0 rfl ?_
    refine X_getF (b := 197) (pc := 46) sC_196 rfl fk_X0_12 (td kX0_minutesTillHome 23 rfl) ?_
    refine X_aload_n (pc := 49) (td kX0_minutesTillHome 24 rfl) rfl 1 rfl ?_
    refine X_iload_n (pc := 50) (td kX0_minutesTillHome 25 rfl) rfl 3 rfl ?_
    refine X_callip (pc := 51) (As := [.ref b1, .int p3]) (st := []) (p_X4_isHome 197 b1 p3 σ_45) sC_197 (x_X4_isHome 197 b1 p3 σ_45) mkX4_isHome lk_X0_74 (by omega) rfl rfl (Nat.le_of_ble_eq_true rfl) (td kX0_minutesTillHome 26 rfl) (fun r51 hr51 => ?_)
    refine X_if_eq (pc := 54) (tgt := 72) (td kX0_minutesTillHome 27 rfl) (by decide) (fun c_54 => ?_) (fun c_54 => ?_)
    · refine X_iconst (v := (-1 : Int32)) (pc := 72) (td kX0_minutesTillHome 35 rfl) (by decide) ?_
      exact X_ret (pc := 73) (td kX0_minutesTillHome 36 rfl) rfl
    · refine X_aload_n (pc := 57) (td kX0_minutesTillHome 28 rfl) rfl 0 rfl ?_
      refine X_getF (b := 197) (pc := 58) sC_196 rfl fk_X0_12 (td kX0_minutesTillHome 29 rfl) ?_
      refine X_getI (pc := 61) sC_197 rfl fk_X0_78 (td kX0_minutesTillHome 30 rfl) ?_
      refine X_aload_n (pc := 64) (td kX0_minutesTillHome 31 rfl) rfl 2 rfl ?_
      refine X_getI (pc := 65) b2_s0 rfl fk_X0_78 (td kX0_minutesTillHome 32 rfl) ?_
      refine X_isub (pc := 68) (td kX0_minutesTillHome 33 rfl) ?_
      refine X_goto (pc := 69) (tgt := 73) (td kX0_minutesTillHome 34 rfl) (by decide) ?_
      exact X_ret (pc := 73) (td kX0_minutesTillHome 36 rfl) rfl
  · refine X_sub [1, 2, 3, 4, 0] rfl ?_
    refine lq2_ind (P := fun x4_11 σ_11 E => X (wsOf SHC) RX0 cX0_minutesTillHome 5 (some .int) 5 0 11 [(0, .ref 196), (1, .ref b1), (2, .ref b2), (3, .int p3), (4, .int x4_11)] [] σ_11 E) (fun _ _ => X_none) (fun rec11 hrec11 x4_11 σ_11 => ?_) _ _ _
    unfold F_X0_minutesTillHome_11
    refine X_iload (pc := 11) (td kX0_minutesTillHome 6 rfl) 4 rfl ?_
    refine X_bipush (v := (99 : Int32)) (pc := 13) (td kX0_minutesTillHome 7 rfl) (by decide) ?_
    refine X_icmp_ge (pc := 15) (tgt := 45) (td kX0_minutesTillHome 8 rfl) (by decide) (fun c_15 => ?_) (fun c_15 => ?_)
    · refine X_sub [0, 1, 2, 3] rfl ?_
      exact h45 σ_11
    · refine X_aload_n (pc := 18) (td kX0_minutesTillHome 9 rfl) rfl 0 rfl ?_
      refine X_getF (b := 197) (pc := 19) sC_196 rfl fk_X0_12 (td kX0_minutesTillHome 10 rfl) ?_
      refine X_aload_n (pc := 22) (td kX0_minutesTillHome 11 rfl) rfl 1 rfl ?_
      refine X_iload_n (pc := 23) (td kX0_minutesTillHome 12 rfl) rfl 3 rfl ?_
      refine X_callip (pc := 24) (As := [.ref b1, .int p3]) (st := []) (p_X4_isHome 197 b1 p3 σ_11) sC_197 (x_X4_isHome 197 b1 p3 σ_11) mkX4_isHome lk_X0_74 (by omega) rfl rfl (Nat.le_of_ble_eq_true rfl) (td kX0_minutesTillHome 13 rfl) (fun r24 hr24 => ?_)
      refine X_if_ne (pc := 27) (tgt := 45) (td kX0_minutesTillHome 14 rfl) (by decide) (fun c_27 => ?_) (fun c_27 => ?_)
      · refine X_sub [0, 1, 2, 3] rfl ?_
        exact h45 σ_11
      · refine X_aload_n (pc := 30) (td kX0_minutesTillHome 15 rfl) rfl 0 rfl ?_
        refine X_getF (b := 197) (pc := 31) sC_196 rfl fk_X0_12 (td kX0_minutesTillHome 16 rfl) ?_
        refine X_aload_n (pc := 34) (td kX0_minutesTillHome 17 rfl) rfl 1 rfl ?_
        refine X_iconst (v := (0 : Int32)) (pc := 35) (td kX0_minutesTillHome 18 rfl) (by decide) ?_
        refine X_callv (pc := 36) (As := [.ref b1, .int (0 : Int32)]) (st := []) sC_197 (x_X4_pass 197 b1 (0 : Int32) σ_11) mkX4_pass lk_X0_67 (by omega) rfl rfl (Nat.le_of_ble_eq_true rfl) (td kX0_minutesTillHome 19 rfl) (fun _ σ36 _ => ?_)
        refine X_iinc (v := (x4_11 + (1 : Int32))) (L' := [(4, .int (x4_11 + (1 : Int32))), (0, .ref 196), (1, .ref b1), (2, .ref b2), (3, .int p3)]) (pc := 39) (td kX0_minutesTillHome 20 rfl) 4 rfl rfl (by decide) rfl ?_
        refine X_goto (pc := 42) (tgt := 11) (td kX0_minutesTillHome 21 rfl) (by decide) ?_
        refine X_sub [1, 2, 3, 4, 0] rfl ?_
        exact hrec11 (x4_11 + (1 : Int32)) σ36
def F_X0_minutesTillMet_11 (b1 : Nat) (p3 : Int32) (p4 : Int32) (k44 : Mm → Option (Int32 × Mm)) (rec11 : Int32 → Mm → Option (Int32 × Mm)) (x5_11 : Int32) (σ_11 : Mm) : Option (Int32 × Mm) := (if x5_11 < (99 : Int32) then cl (f_X0_areTogether b1 p3 p4 σ_11) (fun r23 _ => (if r23 = 0 then cl (f_X4_pass 197 b1 (0 : Int32) σ_11) (fun _ σ35 => rec11 (x5_11 + (1 : Int32)) σ35) else k44 σ_11)) else k44 σ_11)
def f_X0_minutesTillMet (b1 : Nat) (b2 : Nat) (p3 : Int32) (p4 : Int32) (σ : Mm) : Option (Int32 × Mm) := ck (isTown b1) (ck (isNight b2) (cl (f_X4_copyFrom 197 b2 σ) (fun _ σ5 => jn (fun (σ_44 : Mm) => cl (f_X0_areTogether b1 p3 p4 σ_44) (fun r49 _ => (if r49 = 0 then some ((-1 : Int32), σ_44) else some (((gI σ_44 197 0) - (gI σ_44 b2 0)), σ_44)))) (fun k44 => lq2 (F_X0_minutesTillMet_11 b1 p3 p4 k44) 1000000 (0 : Int32) σ5))))
set_option maxHeartbeats 4000000 in
set_option maxRecDepth 100000 in
theorem x_X0_minutesTillMet (b1 : Nat) (b2 : Nat) (p3 : Int32) (p4 : Int32) (σ : Mm) : Con (wsOf SHC) yX0_minutesTillMet cX0_minutesTillMet 6 (some .int) 5 [.ref 196, .ref b1, .ref b2, .int p3, .int p4] σ (f_X0_minutesTillMet b1 b2 p3 p4 σ) := by
  refine Con.of_X (by decide +kernel) (Nat.le_of_ble_eq_true rfl) ?_
  unfold f_X0_minutesTillMet
  show X (wsOf SHC) RX0 cX0_minutesTillMet 6 (some .int) 5 0 0 [(0, .ref 196), (1, .ref b1), (2, .ref b2), (3, .int p3), (4, .int p4)] [] σ _
  refine X_ck (fun b1_h => ?_)
  obtain ⟨b1_s0, b1_s1, b1_s2, b1_s3, b1_s4, b1_s5, b1_s6, b1_s7, b1_s8, b1_s9, b1_s10, b1_s11, b1_s12, b1_s13, b1_s14⟩ := knTown b1_h
  refine X_ck (fun b2_h => ?_)
  obtain ⟨b2_s0, b2_s1, b2_s2, b2_s3, b2_s4, b2_s5, b2_s6⟩ := knNight b2_h
  refine X_aload_n (pc := 0) (td kX0_minutesTillMet 0 rfl) rfl 0 rfl ?_
  refine X_getF (b := 197) (pc := 1) sC_196 rfl fk_X0_12 (td kX0_minutesTillMet 1 rfl) ?_
  refine X_aload_n (pc := 4) (td kX0_minutesTillMet 2 rfl) rfl 2 rfl ?_
  refine X_callv (pc := 5) (As := [.ref b2]) (st := []) sC_197 (x_X4_copyFrom 197 b2 σ) mkX4_copyFrom lk_X0_59 (by omega) rfl rfl (Nat.le_of_ble_eq_true rfl) (td kX0_minutesTillMet 3 rfl) (fun _ σ5 _ => ?_)
  refine X_iconst (v := (0 : Int32)) (pc := 8) (td kX0_minutesTillMet 4 rfl) (by decide) ?_
  refine X_istore (L' := [(5, .int (0 : Int32)), (0, .ref 196), (1, .ref b1), (2, .ref b2), (3, .int p3), (4, .int p4)]) (pc := 9) (td kX0_minutesTillMet 5 rfl) (by decide) rfl ?_
  refine X_jn (P := fun k => ∀ (σ_44 : Mm), X (wsOf SHC) RX0 cX0_minutesTillMet 6 (some .int) 5 0 44 [(0, .ref 196), (1, .ref b1), (2, .ref b2), (3, .int p3), (4, .int p4)] [] σ_44 (k σ_44)) (fun σ_44 => ?_) (fun k44 h44 => ?_)
  · refine X_aload_n (pc := 44) (td kX0_minutesTillMet 22 rfl) rfl 0 rfl ?_
    refine X_aload_n (pc := 45) (td kX0_minutesTillMet 23 rfl) rfl 1 rfl ?_
    refine X_iload_n (pc := 46) (td kX0_minutesTillMet 24 rfl) rfl 3 rfl ?_
    refine X_iload (pc := 47) (td kX0_minutesTillMet 25 rfl) 4 rfl ?_
    refine X_callip (pc := 49) (As := [.ref b1, .int p3, .int p4]) (st := []) (p_X0_areTogether b1 p3 p4 σ_44) sC_196 (x_X0_areTogether b1 p3 p4 σ_44) mkX0_areTogether lk_X0_137 (by omega) rfl rfl (Nat.le_of_ble_eq_true rfl) (td kX0_minutesTillMet 26 rfl) (fun r49 hr49 => ?_)
    refine X_if_eq (pc := 52) (tgt := 70) (td kX0_minutesTillMet 27 rfl) (by decide) (fun c_52 => ?_) (fun c_52 => ?_)
    · refine X_iconst (v := (-1 : Int32)) (pc := 70) (td kX0_minutesTillMet 35 rfl) (by decide) ?_
      exact X_ret (pc := 71) (td kX0_minutesTillMet 36 rfl) rfl
    · refine X_aload_n (pc := 55) (td kX0_minutesTillMet 28 rfl) rfl 0 rfl ?_
      refine X_getF (b := 197) (pc := 56) sC_196 rfl fk_X0_12 (td kX0_minutesTillMet 29 rfl) ?_
      refine X_getI (pc := 59) sC_197 rfl fk_X0_78 (td kX0_minutesTillMet 30 rfl) ?_
      refine X_aload_n (pc := 62) (td kX0_minutesTillMet 31 rfl) rfl 2 rfl ?_
      refine X_getI (pc := 63) b2_s0 rfl fk_X0_78 (td kX0_minutesTillMet 32 rfl) ?_
      refine X_isub (pc := 66) (td kX0_minutesTillMet 33 rfl) ?_
      refine X_goto (pc := 67) (tgt := 71) (td kX0_minutesTillMet 34 rfl) (by decide) ?_
      exact X_ret (pc := 71) (td kX0_minutesTillMet 36 rfl) rfl
  · refine X_sub [1, 2, 3, 4, 5, 0] rfl ?_
    refine lq2_ind (P := fun x5_11 σ_11 E => X (wsOf SHC) RX0 cX0_minutesTillMet 6 (some .int) 5 0 11 [(0, .ref 196), (1, .ref b1), (2, .ref b2), (3, .int p3), (4, .int p4), (5, .int x5_11)] [] σ_11 E) (fun _ _ => X_none) (fun rec11 hrec11 x5_11 σ_11 => ?_) _ _ _
    unfold F_X0_minutesTillMet_11
    refine X_iload (pc := 11) (td kX0_minutesTillMet 6 rfl) 5 rfl ?_
    refine X_bipush (v := (99 : Int32)) (pc := 13) (td kX0_minutesTillMet 7 rfl) (by decide) ?_
    refine X_icmp_ge (pc := 15) (tgt := 44) (td kX0_minutesTillMet 8 rfl) (by decide) (fun c_15 => ?_) (fun c_15 => ?_)
    · refine X_sub [0, 1, 2, 3, 4] rfl ?_
      exact h44 σ_11
    · refine X_aload_n (pc := 18) (td kX0_minutesTillMet 9 rfl) rfl 0 rfl ?_
      refine X_aload_n (pc := 19) (td kX0_minutesTillMet 10 rfl) rfl 1 rfl ?_
      refine X_iload_n (pc := 20) (td kX0_minutesTillMet 11 rfl) rfl 3 rfl ?_
      refine X_iload (pc := 21) (td kX0_minutesTillMet 12 rfl) 4 rfl ?_
      refine X_callip (pc := 23) (As := [.ref b1, .int p3, .int p4]) (st := []) (p_X0_areTogether b1 p3 p4 σ_11) sC_196 (x_X0_areTogether b1 p3 p4 σ_11) mkX0_areTogether lk_X0_137 (by omega) rfl rfl (Nat.le_of_ble_eq_true rfl) (td kX0_minutesTillMet 13 rfl) (fun r23 hr23 => ?_)
      refine X_if_ne (pc := 26) (tgt := 44) (td kX0_minutesTillMet 14 rfl) (by decide) (fun c_26 => ?_) (fun c_26 => ?_)
      · refine X_sub [0, 1, 2, 3, 4] rfl ?_
        exact h44 σ_11
      · refine X_aload_n (pc := 29) (td kX0_minutesTillMet 15 rfl) rfl 0 rfl ?_
        refine X_getF (b := 197) (pc := 30) sC_196 rfl fk_X0_12 (td kX0_minutesTillMet 16 rfl) ?_
        refine X_aload_n (pc := 33) (td kX0_minutesTillMet 17 rfl) rfl 1 rfl ?_
        refine X_iconst (v := (0 : Int32)) (pc := 34) (td kX0_minutesTillMet 18 rfl) (by decide) ?_
        refine X_callv (pc := 35) (As := [.ref b1, .int (0 : Int32)]) (st := []) sC_197 (x_X4_pass 197 b1 (0 : Int32) σ_11) mkX4_pass lk_X0_67 (by omega) rfl rfl (Nat.le_of_ble_eq_true rfl) (td kX0_minutesTillMet 19 rfl) (fun _ σ35 _ => ?_)
        refine X_iinc (v := (x5_11 + (1 : Int32))) (L' := [(5, .int (x5_11 + (1 : Int32))), (0, .ref 196), (1, .ref b1), (2, .ref b2), (3, .int p3), (4, .int p4)]) (pc := 38) (td kX0_minutesTillMet 20 rfl) 5 rfl rfl (by decide) rfl ?_
        refine X_goto (pc := 41) (tgt := 11) (td kX0_minutesTillMet 21 rfl) (by decide) ?_
        refine X_sub [1, 2, 3, 4, 5, 0] rfl ?_
        exact hrec11 (x5_11 + (1 : Int32)) σ35
def F_X0_neverWalked_13 (b1 : Nat) (k56 : Int32 → Mm → Option (Int32 × Mm)) (rec13 : Int32 → Int32 → Mm → Option (Int32 × Mm)) (x3_13 : Int32) (x4_13 : Int32) (σ_13 : Mm) : Option (Int32 × Mm) := (if x4_13 < (99 : Int32) then cl (f_X4_isAllHome 197 b1 σ_13) (fun r25 _ => (if r25 = 0 then cl (f_X4_pass 197 b1 (0 : Int32) σ_13) (fun _ σ37 => bn (x3_13 ||| (gI σ37 197 10)) (fun v3_49 => rec13 v3_49 (x4_13 + (1 : Int32)) σ37)) else k56 x3_13 σ_13)) else k56 x3_13 σ_13)
def f_X0_neverWalked (b1 : Nat) (b2 : Nat) (σ : Mm) : Option (Int32 × Mm) := ck (isTown b1) (ck (isNight b2) (cl (f_X4_copyFrom 197 b2 σ) (fun _ σ7 => jn (fun (x3_56 : Int32) (σ_56 : Mm) => some (((((1 : Int32) <<< ((gI σ_56 b1 1) &&& 31)) - (1 : Int32)) &&& (x3_56 ^^^ (-1 : Int32))), σ_56)) (fun k56 => lq3 (F_X0_neverWalked_13 b1 k56) 1000000 (0 : Int32) (0 : Int32) σ7))))
set_option maxHeartbeats 4000000 in
set_option maxRecDepth 100000 in
theorem x_X0_neverWalked (b1 : Nat) (b2 : Nat) (σ : Mm) : Con (wsOf SHC) yX0_neverWalked cX0_neverWalked 5 (some .int) 5 [.ref 196, .ref b1, .ref b2] σ (f_X0_neverWalked b1 b2 σ) := by
  refine Con.of_X (by decide +kernel) (Nat.le_of_ble_eq_true rfl) ?_
  unfold f_X0_neverWalked
  show X (wsOf SHC) RX0 cX0_neverWalked 5 (some .int) 5 0 0 [(0, .ref 196), (1, .ref b1), (2, .ref b2)] [] σ _
  refine X_ck (fun b1_h => ?_)
  obtain ⟨b1_s0, b1_s1, b1_s2, b1_s3, b1_s4, b1_s5, b1_s6, b1_s7, b1_s8, b1_s9, b1_s10, b1_s11, b1_s12, b1_s13, b1_s14⟩ := knTown b1_h
  refine X_ck (fun b2_h => ?_)
  obtain ⟨b2_s0, b2_s1, b2_s2, b2_s3, b2_s4, b2_s5, b2_s6⟩ := knNight b2_h
  refine X_iconst (v := (0 : Int32)) (pc := 0) (td kX0_neverWalked 0 rfl) (by decide) ?_
  refine X_istore_n (L' := [(3, .int (0 : Int32)), (0, .ref 196), (1, .ref b1), (2, .ref b2)]) (pc := 1) (td kX0_neverWalked 1 rfl) rfl (by decide) rfl ?_
  refine X_aload_n (pc := 2) (td kX0_neverWalked 2 rfl) rfl 1 rfl ?_
  refine X_getF (b := 197) (pc := 3) sC_196 rfl fk_X0_12 (td kX0_neverWalked 3 rfl) ?_
  refine X_aload_n (pc := 6) (td kX0_neverWalked 4 rfl) rfl 3 rfl ?_
  refine X_callv (pc := 7) (As := [.ref b2]) (st := []) sC_197 (x_X4_copyFrom 197 b2 σ) mkX4_copyFrom lk_X0_59 (by omega) rfl rfl (Nat.le_of_ble_eq_true rfl) (td kX0_neverWalked 5 rfl) (fun _ σ7 _ => ?_)
  refine X_iconst (v := (0 : Int32)) (pc := 10) (td kX0_neverWalked 6 rfl) (by decide) ?_
  refine X_istore (L' := [(4, .int (0 : Int32)), (3, .int (0 : Int32)), (0, .ref 196), (1, .ref b1), (2, .ref b2)]) (pc := 11) (td kX0_neverWalked 7 rfl) (by decide) rfl ?_
  refine X_jn (P := fun k => ∀ (x3_56 : Int32) (σ_56 : Mm), X (wsOf SHC) RX0 cX0_neverWalked 5 (some .int) 5 0 56 [(1, .ref b1), (3, .int x3_56)] [] σ_56 (k x3_56 σ_56)) (fun x3_56 σ_56 => ?_) (fun k56 h56 => ?_)
  · refine X_iconst (v := (1 : Int32)) (pc := 56) (td kX0_neverWalked 29 rfl) (by decide) ?_
    refine X_aload_n (pc := 57) (td kX0_neverWalked 30 rfl) rfl 0 rfl ?_
    refine X_getI (pc := 58) b1_s0 rfl fk_X0_124 (td kX0_neverWalked 31 rfl) ?_
    refine X_ishl (pc := 61) (td kX0_neverWalked 32 rfl) ?_
    refine X_iconst (v := (1 : Int32)) (pc := 62) (td kX0_neverWalked 33 rfl) (by decide) ?_
    refine X_isub (pc := 63) (td kX0_neverWalked 34 rfl) ?_
    refine X_iload_n (pc := 64) (td kX0_neverWalked 35 rfl) rfl 1 rfl ?_
    refine X_iconst (v := (-1 : Int32)) (pc := 65) (td kX0_neverWalked 36 rfl) (by decide) ?_
    refine X_ixor (pc := 66) (td kX0_neverWalked 37 rfl) ?_
    refine X_iand (pc := 67) (td kX0_neverWalked 38 rfl) ?_
    exact X_ret (pc := 68) (td kX0_neverWalked 39 rfl) rfl
  · refine X_sub [2, 3, 1, 0] rfl ?_
    refine lq3_ind (P := fun x3_13 x4_13 σ_13 E => X (wsOf SHC) RX0 cX0_neverWalked 5 (some .int) 5 0 13 [(0, .ref 196), (1, .ref b1), (3, .int x3_13), (4, .int x4_13)] [] σ_13 E) (fun _ _ _ => X_none) (fun rec13 hrec13 x3_13 x4_13 σ_13 => ?_) _ _ _ _
    unfold F_X0_neverWalked_13
    refine X_iload (pc := 13) (td kX0_neverWalked 8 rfl) 3 rfl ?_
    refine X_bipush (v := (99 : Int32)) (pc := 15) (td kX0_neverWalked 9 rfl) (by decide) ?_
    refine X_icmp_ge (pc := 17) (tgt := 56) (td kX0_neverWalked 10 rfl) (by decide) (fun c_17 => ?_) (fun c_17 => ?_)
    · refine X_sub [1, 2] rfl ?_
      exact h56 x3_13 σ_13
    · refine X_aload_n (pc := 20) (td kX0_neverWalked 11 rfl) rfl 0 rfl ?_
      refine X_getF (b := 197) (pc := 21) sC_196 rfl fk_X0_12 (td kX0_neverWalked 12 rfl) ?_
      refine X_aload_n (pc := 24) (td kX0_neverWalked 13 rfl) rfl 1 rfl ?_
      refine X_callip (pc := 25) (As := [.ref b1]) (st := []) (p_X4_isAllHome 197 b1 σ_13) sC_197 (x_X4_isAllHome 197 b1 σ_13) mkX4_isAllHome lk_X0_63 (by omega) rfl rfl (Nat.le_of_ble_eq_true rfl) (td kX0_neverWalked 14 rfl) (fun r25 hr25 => ?_)
      refine X_if_ne (pc := 28) (tgt := 56) (td kX0_neverWalked 15 rfl) (by decide) (fun c_28 => ?_) (fun c_28 => ?_)
      · refine X_sub [1, 2] rfl ?_
        exact h56 x3_13 σ_13
      · refine X_aload_n (pc := 31) (td kX0_neverWalked 16 rfl) rfl 0 rfl ?_
        refine X_getF (b := 197) (pc := 32) sC_196 rfl fk_X0_12 (td kX0_neverWalked 17 rfl) ?_
        refine X_aload_n (pc := 35) (td kX0_neverWalked 18 rfl) rfl 1 rfl ?_
        refine X_iconst (v := (0 : Int32)) (pc := 36) (td kX0_neverWalked 19 rfl) (by decide) ?_
        refine X_callv (pc := 37) (As := [.ref b1, .int (0 : Int32)]) (st := []) sC_197 (x_X4_pass 197 b1 (0 : Int32) σ_13) mkX4_pass lk_X0_67 (by omega) rfl rfl (Nat.le_of_ble_eq_true rfl) (td kX0_neverWalked 20 rfl) (fun _ σ37 _ => ?_)
        refine X_iload_n (pc := 40) (td kX0_neverWalked 21 rfl) rfl 2 rfl ?_
        refine X_aload_n (pc := 41) (td kX0_neverWalked 22 rfl) rfl 0 rfl ?_
        refine X_getF (b := 197) (pc := 42) sC_196 rfl fk_X0_12 (td kX0_neverWalked 23 rfl) ?_
        refine X_getI (pc := 45) sC_197 rfl fk_X0_134 (td kX0_neverWalked 24 rfl) ?_
        refine X_ior (pc := 48) (td kX0_neverWalked 25 rfl) ?_
        refine X_bi (fun v3_49 => ?_)
        refine X_istore_n (L' := [(3, .int v3_49), (0, .ref 196), (1, .ref b1), (4, .int x4_13)]) (pc := 49) (td kX0_neverWalked 26 rfl) rfl (by decide) rfl ?_
        refine X_iinc (v := (x4_13 + (1 : Int32))) (L' := [(4, .int (x4_13 + (1 : Int32))), (3, .int v3_49), (0, .ref 196), (1, .ref b1)]) (pc := 50) (td kX0_neverWalked 27 rfl) 3 rfl rfl (by decide) rfl ?_
        refine X_goto (pc := 53) (tgt := 13) (td kX0_neverWalked 28 rfl) (by decide) ?_
        refine X_sub [2, 3, 1, 0] rfl ?_
        exact hrec13 v3_49 (x4_13 + (1 : Int32)) σ37
def f_X0_oilWithout (b1 : Nat) (b2 : Nat) (p3 : Int32) (σ : Mm) : Option (Int32 × Mm) := ck (isTown b1) (ck (isNight b2) (cl (f_X4_copyFrom 197 b2 σ) (fun _ σ5 => jn (fun (σ_21 : Mm) => cl (f_X0_oilToTheEnd b1 σ_21) (fun r23 σ23 => some (r23, σ23))) (fun k21 => (if p3 = (-1 : Int32) then k21 σ5 else cl (f_X4_bringHome 197 p3 σ5) (fun _ σ18 => k21 σ18))))))
set_option maxHeartbeats 4000000 in
set_option maxRecDepth 100000 in
theorem x_X0_oilWithout (b1 : Nat) (b2 : Nat) (p3 : Int32) (σ : Mm) : Con (wsOf SHC) yX0_oilWithout cX0_oilWithout 4 (some .int) 6 [.ref 196, .ref b1, .ref b2, .int p3] σ (f_X0_oilWithout b1 b2 p3 σ) := by
  refine Con.of_X (by decide +kernel) (Nat.le_of_ble_eq_true rfl) ?_
  unfold f_X0_oilWithout
  show X (wsOf SHC) RX0 cX0_oilWithout 4 (some .int) 6 0 0 [(0, .ref 196), (1, .ref b1), (2, .ref b2), (3, .int p3)] [] σ _
  refine X_ck (fun b1_h => ?_)
  obtain ⟨b1_s0, b1_s1, b1_s2, b1_s3, b1_s4, b1_s5, b1_s6, b1_s7, b1_s8, b1_s9, b1_s10, b1_s11, b1_s12, b1_s13, b1_s14⟩ := knTown b1_h
  refine X_ck (fun b2_h => ?_)
  obtain ⟨b2_s0, b2_s1, b2_s2, b2_s3, b2_s4, b2_s5, b2_s6⟩ := knNight b2_h
  refine X_aload_n (pc := 0) (td kX0_oilWithout 0 rfl) rfl 0 rfl ?_
  refine X_getF (b := 197) (pc := 1) sC_196 rfl fk_X0_12 (td kX0_oilWithout 1 rfl) ?_
  refine X_aload_n (pc := 4) (td kX0_oilWithout 2 rfl) rfl 2 rfl ?_
  refine X_callv (pc := 5) (As := [.ref b2]) (st := []) sC_197 (x_X4_copyFrom 197 b2 σ) mkX4_copyFrom lk_X0_59 (by omega) rfl rfl (Nat.le_of_ble_eq_true rfl) (td kX0_oilWithout 3 rfl) (fun _ σ5 _ => ?_)
  refine X_iload_n (pc := 8) (td kX0_oilWithout 4 rfl) rfl 3 rfl ?_
  refine X_iconst (v := (-1 : Int32)) (pc := 9) (td kX0_oilWithout 5 rfl) (by decide) ?_
  refine X_jn (P := fun k => ∀ (σ_21 : Mm), X (wsOf SHC) RX0 cX0_oilWithout 4 (some .int) 6 0 21 [(0, .ref 196), (1, .ref b1)] [] σ_21 (k σ_21)) (fun σ_21 => ?_) (fun k21 h21 => ?_)
  · refine X_aload_n (pc := 21) (td kX0_oilWithout 11 rfl) rfl 0 rfl ?_
    refine X_aload_n (pc := 22) (td kX0_oilWithout 12 rfl) rfl 1 rfl ?_
    refine X_calli (pc := 23) (As := [.ref b1]) (st := []) sC_196 (x_X0_oilToTheEnd b1 σ_21) mkX0_oilToTheEnd lk_X0_171 (by omega) rfl rfl (Nat.le_of_ble_eq_true rfl) (td kX0_oilWithout 13 rfl) (fun r23 σ23 _ hr23 => ?_)
    exact X_ret (pc := 26) (td kX0_oilWithout 14 rfl) rfl
  · refine X_icmp_eq (pc := 10) (tgt := 21) (td kX0_oilWithout 6 rfl) (by decide) (fun c_10 => ?_) (fun c_10 => ?_)
    · refine X_sub [0, 1] rfl ?_
      exact h21 σ5
    · refine X_aload_n (pc := 13) (td kX0_oilWithout 7 rfl) rfl 0 rfl ?_
      refine X_getF (b := 197) (pc := 14) sC_196 rfl fk_X0_12 (td kX0_oilWithout 8 rfl) ?_
      refine X_iload_n (pc := 17) (td kX0_oilWithout 9 rfl) rfl 3 rfl ?_
      refine X_callv (pc := 18) (As := [.int p3]) (st := []) sC_197 (x_X4_bringHome 197 p3 σ5) mkX4_bringHome lk_X0_158 (by omega) rfl rfl (Nat.le_of_ble_eq_true rfl) (td kX0_oilWithout 10 rfl) (fun _ σ18 _ => ?_)
      refine X_sub [0, 1] rfl ?_
      exact h21 σ18
