def F_X11_alarm_4 (σ : Mm) (k45 : Int32 → Option (Int32 × Mm)) (rec4 : Int32 → Int32 → Option (Int32 × Mm)) (x1_4 : Int32) (x2_4 : Int32) : Option (Int32 × Mm) := bn (gR σ 0 7) (fun t_6 => ck (isTown t_6) ((if x2_4 < (gI σ t_6 2) then bn (gR σ 0 7) (fun t_20 => cl (f_X4_laneAhead 6 t_20 x2_4 σ) (fun r24 _ => jn (fun (x1_39 : Int32) => rec4 x1_39 (x2_4 + (1 : Int32))) (fun k39 => (if r24 = (-1 : Int32) then k39 x1_4 else bn (x1_4 ||| ((1 : Int32) <<< (r24 &&& 31))) (fun v1_38 => k39 v1_38))))) else k45 x1_4)))
def f_X11_alarm (σ : Mm) : Option (Int32 × Mm) := jn (fun (x1_45 : Int32) => bn (gR σ 0 7) (fun t_50 => cl (f_X4_litBits 6 t_50 σ) (fun r53 _ => some ((r53 &&& (x1_45 ^^^ (-1 : Int32))), σ)))) (fun k45 => lq2 (F_X11_alarm_4 σ k45) 1000000 (0 : Int32) (0 : Int32))
set_option maxHeartbeats 4000000 in
set_option maxRecDepth 100000 in
theorem x_X11_alarm (σ : Mm) : Con (wsOf SHC) yX11_alarm cX11_alarm 4 (some .int) 3 [.ref 0] σ (f_X11_alarm σ) := by
  refine Con.of_X (by decide +kernel) (Nat.le_of_ble_eq_true rfl) ?_
  unfold f_X11_alarm
  show X (wsOf SHC) RX11 cX11_alarm 4 (some .int) 3 0 0 [(0, .ref 0)] [] σ _
  refine X_iconst (v := (0 : Int32)) (pc := 0) (td kX11_alarm 0 rfl) (by decide) ?_
  refine X_istore_n (L' := [(1, .int (0 : Int32)), (0, .ref 0)]) (pc := 1) (td kX11_alarm 1 rfl) rfl (by decide) rfl ?_
  refine X_iconst (v := (0 : Int32)) (pc := 2) (td kX11_alarm 2 rfl) (by decide) ?_
  refine X_istore_n (L' := [(2, .int (0 : Int32)), (1, .int (0 : Int32)), (0, .ref 0)]) (pc := 3) (td kX11_alarm 3 rfl) rfl (by decide) rfl ?_
  refine X_jn (P := fun k => ∀ (x1_45 : Int32), X (wsOf SHC) RX11 cX11_alarm 4 (some .int) 3 0 45 [(0, .ref 0), (1, .int x1_45)] [] σ (k x1_45)) (fun x1_45 => ?_) (fun k45 h45 => ?_)
  · refine X_aload_n (pc := 45) (td kX11_alarm 27 rfl) rfl 0 rfl ?_
    refine X_getF (b := 6) (pc := 46) sC_0 rfl fk_X11_28 (td kX11_alarm 28 rfl) ?_
    refine X_aload_n (pc := 49) (td kX11_alarm 29 rfl) rfl 0 rfl ?_
    refine X_getR (pc := 50) sC_0 rfl fk_X11_63 (td kX11_alarm 30 rfl) ?_
    refine X_br (fun t_50 => ?_)
    refine X_callip (pc := 53) (As := [.ref t_50]) (st := []) (p_X4_litBits 6 t_50 σ) sC_6 (x_X4_litBits 6 t_50 σ) mkX4_litBits lk_X11_230 (by omega) rfl rfl (Nat.le_of_ble_eq_true rfl) (td kX11_alarm 31 rfl) (fun r53 hr53 => ?_)
    refine X_iload_n (pc := 56) (td kX11_alarm 32 rfl) rfl 1 rfl ?_
    refine X_iconst (v := (-1 : Int32)) (pc := 57) (td kX11_alarm 33 rfl) (by decide) ?_
    refine X_ixor (pc := 58) (td kX11_alarm 34 rfl) ?_
    refine X_iand (pc := 59) (td kX11_alarm 35 rfl) ?_
    exact X_ret (pc := 60) (td kX11_alarm 36 rfl) rfl
  · refine X_sub [2, 1, 0] rfl ?_
    refine lq2_ind (P := fun x1_4 x2_4 E => X (wsOf SHC) RX11 cX11_alarm 4 (some .int) 3 0 4 [(0, .ref 0), (1, .int x1_4), (2, .int x2_4)] [] σ E) (fun _ _ => X_none) (fun rec4 hrec4 x1_4 x2_4 => ?_) _ _ _
    unfold F_X11_alarm_4
    refine X_iload_n (pc := 4) (td kX11_alarm 4 rfl) rfl 2 rfl ?_
    refine X_aload_n (pc := 5) (td kX11_alarm 5 rfl) rfl 0 rfl ?_
    refine X_getR (pc := 6) sC_0 rfl fk_X11_63 (td kX11_alarm 6 rfl) ?_
    refine X_br (fun t_6 => ?_)
    refine X_ck (fun t_6_h => ?_)
    obtain ⟨t_6_s0, t_6_s1, t_6_s2, t_6_s3, t_6_s4, t_6_s5, t_6_s6, t_6_s7, t_6_s8, t_6_s9, t_6_s10, t_6_s11, t_6_s12, t_6_s13, t_6_s14⟩ := knTown t_6_h
    refine X_getI (pc := 9) t_6_s0 rfl fk_X11_227 (td kX11_alarm 7 rfl) ?_
    refine X_icmp_ge (pc := 12) (tgt := 45) (td kX11_alarm 8 rfl) (by decide) (fun c_12 => ?_) (fun c_12 => ?_)
    · refine X_sub [0, 1] rfl ?_
      exact h45 x1_4
    · refine X_aload_n (pc := 15) (td kX11_alarm 9 rfl) rfl 0 rfl ?_
      refine X_getF (b := 6) (pc := 16) sC_0 rfl fk_X11_28 (td kX11_alarm 10 rfl) ?_
      refine X_aload_n (pc := 19) (td kX11_alarm 11 rfl) rfl 0 rfl ?_
      refine X_getR (pc := 20) sC_0 rfl fk_X11_63 (td kX11_alarm 12 rfl) ?_
      refine X_br (fun t_20 => ?_)
      refine X_iload_n (pc := 23) (td kX11_alarm 13 rfl) rfl 2 rfl ?_
      refine X_callip (pc := 24) (As := [.ref t_20, .int x2_4]) (st := []) (p_X4_laneAhead 6 t_20 x2_4 σ) sC_6 (x_X4_laneAhead 6 t_20 x2_4 σ) mkX4_laneAhead lk_X11_156 (by omega) rfl rfl (Nat.le_of_ble_eq_true rfl) (td kX11_alarm 14 rfl) (fun r24 hr24 => ?_)
      refine X_istore_n (L' := [(3, .int r24), (0, .ref 0), (1, .int x1_4), (2, .int x2_4)]) (pc := 27) (td kX11_alarm 15 rfl) rfl (by decide) rfl ?_
      refine X_iload_n (pc := 28) (td kX11_alarm 16 rfl) rfl 0 rfl ?_
      refine X_iconst (v := (-1 : Int32)) (pc := 29) (td kX11_alarm 17 rfl) (by decide) ?_
      refine X_jn (P := fun k => ∀ (x1_39 : Int32), X (wsOf SHC) RX11 cX11_alarm 4 (some .int) 3 0 39 [(0, .ref 0), (1, .int x1_39), (2, .int x2_4)] [] σ (k x1_39)) (fun x1_39 => ?_) (fun k39 h39 => ?_)
      · refine X_iinc (v := (x2_4 + (1 : Int32))) (L' := [(2, .int (x2_4 + (1 : Int32))), (0, .ref 0), (1, .int x1_39)]) (pc := 39) (td kX11_alarm 25 rfl) 2 rfl rfl (by decide) rfl ?_
        refine X_goto (pc := 42) (tgt := 4) (td kX11_alarm 26 rfl) (by decide) ?_
        refine X_sub [1, 2, 0] rfl ?_
        exact hrec4 x1_39 (x2_4 + (1 : Int32))
      · refine X_icmp_eq (pc := 30) (tgt := 39) (td kX11_alarm 18 rfl) (by decide) (fun c_30 => ?_) (fun c_30 => ?_)
        · refine X_sub [1, 2, 3] rfl ?_
          exact h39 x1_4
        · refine X_iload_n (pc := 33) (td kX11_alarm 19 rfl) rfl 2 rfl ?_
          refine X_iconst (v := (1 : Int32)) (pc := 34) (td kX11_alarm 20 rfl) (by decide) ?_
          refine X_iload_n (pc := 35) (td kX11_alarm 21 rfl) rfl 0 rfl ?_
          refine X_ishl (pc := 36) (td kX11_alarm 22 rfl) ?_
          refine X_ior (pc := 37) (td kX11_alarm 23 rfl) ?_
          refine X_bi (fun v1_38 => ?_)
          refine X_istore_n (L' := [(1, .int v1_38), (3, .int r24), (0, .ref 0), (2, .int x2_4)]) (pc := 38) (td kX11_alarm 24 rfl) rfl (by decide) rfl ?_
          refine X_sub [2, 0, 3] rfl ?_
          exact h39 v1_38
set_option maxHeartbeats 4000000 in
theorem p_X11_alarm (σ : Mm) : Pu σ (f_X11_alarm σ) := by
  unfold f_X11_alarm
  refine Pu_jn (fun k => ∀ (x1_45 : Int32), Pu σ (k x1_45)) (fun x1_45 => ?_) (fun k45 h45 => ?_)
  · refine Pu_bn (fun _ => ?_)
    refine Pu_cl (fun _ _ => ?_)
    exact Pu_some
  · refine lq2_ind (P := fun _ _ E => Pu σ E) (fun _ _ => Pu_none) (fun rec4 hrec4 x1_4 x2_4 => ?_) _ _ _
    unfold F_X11_alarm_4
    refine Pu_bn (fun _ => ?_)
    refine Pu_ck ?_
    refine Pu_if ?_ ?_
    · refine Pu_bn (fun _ => ?_)
      refine Pu_cl (fun _ _ => ?_)
      refine Pu_jn (fun k => ∀ (x1_39 : Int32), Pu σ (k x1_39)) (fun x1_39 => ?_) (fun k39 h39 => ?_)
      · exact hrec4 _ _
      · refine Pu_if ?_ ?_
        · exact h39 _
        · refine Pu_bn (fun _ => ?_)
          exact h39 _
    · exact h45 _
def f_X11_keepPast (σ : Mm) : Option (Int32 × Mm) := cl (f_X5_keep 6 σ) (fun _ σ8 => cl (f_X0_forget σ8) (fun _ σ15 => some (0, σ15)))
set_option maxHeartbeats 4000000 in
set_option maxRecDepth 100000 in
theorem x_X11_keepPast (σ : Mm) : Con (wsOf SHC) yX11_keepPast cX11_keepPast 1 none 3 [.ref 0] σ (f_X11_keepPast σ) := by
  refine Con.of_X (by decide +kernel) (Nat.le_of_ble_eq_true rfl) ?_
  unfold f_X11_keepPast
  show X (wsOf SHC) RX11 cX11_keepPast 1 none 3 0 0 [(0, .ref 0)] [] σ _
  refine X_aload_n (pc := 0) (td kX11_keepPast 0 rfl) rfl 0 rfl ?_
  refine X_getF (b := 13) (pc := 1) sC_0 rfl fk_X11_35 (td kX11_keepPast 1 rfl) ?_
  refine X_aload_n (pc := 4) (td kX11_keepPast 2 rfl) rfl 0 rfl ?_
  refine X_getF (b := 6) (pc := 5) sC_0 rfl fk_X11_28 (td kX11_keepPast 3 rfl) ?_
  refine X_callv (pc := 8) (As := [.ref 6]) (st := []) sC_13 (x_X5_keep 6 σ) mkX5_keep lk_X11_319 (by omega) rfl rfl (Nat.le_of_ble_eq_true rfl) (td kX11_keepPast 4 rfl) (fun _ σ8 _ => ?_)
  refine X_aload_n (pc := 11) (td kX11_keepPast 5 rfl) rfl 0 rfl ?_
  refine X_getF (b := 196) (pc := 12) sC_0 rfl fk_X11_56 (td kX11_keepPast 6 rfl) ?_
  refine X_callv (pc := 15) (As := []) (st := []) sC_196 (x_X0_forget σ8) mkX0_forget lk_X11_103 (by omega) rfl rfl (Nat.le_of_ble_eq_true rfl) (td kX11_keepPast 7 rfl) (fun _ σ15 _ => ?_)
  exact X_retv (pc := 18) (td kX11_keepPast 8 rfl)
def f_X11_back (p1 : Int32) (σ : Mm) : Option (Int32 × Mm) := bn (gR σ 0 7) (fun t_1 => ck (isTown t_1) (cl (f_X9_hasWalker t_1 p1 σ) (fun r5 _ => jn (some ((0 : Int32), σ)) (fun k26 => (if r5 = 0 then k26 else bn (gR σ 0 7) (fun t_16 => cl (f_X4_canTurn 6 t_16 p1 σ) (fun r20 _ => (if r20 = 0 then k26 else cl (f_X11_keepPast σ) (fun _ σ29 => bn (gR σ29 0 7) (fun t_37 => cl (f_X4_turn 6 t_37 p1 σ29) (fun _ σ41 => some ((1 : Int32), σ41))))))))))))
set_option maxHeartbeats 4000000 in
set_option maxRecDepth 100000 in
theorem x_X11_back (p1 : Int32) (σ : Mm) : Con (wsOf SHC) yX11_back cX11_back 2 (some .boolean) 5 [.ref 0, .int p1] σ (f_X11_back p1 σ) := by
  refine Con.of_X (by decide +kernel) (Nat.le_of_ble_eq_true rfl) ?_
  unfold f_X11_back
  show X (wsOf SHC) RX11 cX11_back 2 (some .boolean) 5 0 0 [(0, .ref 0), (1, .int p1)] [] σ _
  refine X_aload_n (pc := 0) (td kX11_back 0 rfl) rfl 0 rfl ?_
  refine X_getR (pc := 1) sC_0 rfl fk_X11_63 (td kX11_back 1 rfl) ?_
  refine X_br (fun t_1 => ?_)
  refine X_iload_n (pc := 4) (td kX11_back 2 rfl) rfl 1 rfl ?_
  refine X_ck (fun t_1_h => ?_)
  obtain ⟨t_1_s0, t_1_s1, t_1_s2, t_1_s3, t_1_s4, t_1_s5, t_1_s6, t_1_s7, t_1_s8, t_1_s9, t_1_s10, t_1_s11, t_1_s12, t_1_s13, t_1_s14⟩ := knTown t_1_h
  refine X_callip (pc := 5) (As := [.int p1]) (st := []) (p_X9_hasWalker t_1 p1 σ) t_1_s0 (x_X9_hasWalker t_1 p1 σ) mkX9_hasWalker lk_X11_129 (by omega) rfl rfl (Nat.le_of_ble_eq_true rfl) (td kX11_back 3 rfl) (fun r5 hr5 => ?_)
  refine X_jn (P := fun k => X (wsOf SHC) RX11 cX11_back 2 (some .boolean) 5 0 26 [] [] σ k) ?_ (fun k26 h26 => ?_)
  · refine X_iconst (v := (0 : Int32)) (pc := 26) (td kX11_back 12 rfl) (by decide) ?_
    exact X_ret (pc := 27) (td kX11_back 13 rfl) rfl
  · refine X_if_eq (pc := 8) (tgt := 26) (td kX11_back 4 rfl) (by decide) (fun c_8 => ?_) (fun c_8 => ?_)
    · refine X_sub [] rfl ?_
      exact h26
    · refine X_aload_n (pc := 11) (td kX11_back 5 rfl) rfl 0 rfl ?_
      refine X_getF (b := 6) (pc := 12) sC_0 rfl fk_X11_28 (td kX11_back 6 rfl) ?_
      refine X_aload_n (pc := 15) (td kX11_back 7 rfl) rfl 0 rfl ?_
      refine X_getR (pc := 16) sC_0 rfl fk_X11_63 (td kX11_back 8 rfl) ?_
      refine X_br (fun t_16 => ?_)
      refine X_iload_n (pc := 19) (td kX11_back 9 rfl) rfl 1 rfl ?_
      refine X_callip (pc := 20) (As := [.ref t_16, .int p1]) (st := []) (p_X4_canTurn 6 t_16 p1 σ) sC_6 (x_X4_canTurn 6 t_16 p1 σ) mkX4_canTurn lk_X11_185 (by omega) rfl rfl (Nat.le_of_ble_eq_true rfl) (td kX11_back 10 rfl) (fun r20 hr20 => ?_)
      refine X_if_ne (pc := 23) (tgt := 28) (td kX11_back 11 rfl) (by decide) (fun c_23 => ?_) (fun c_23 => ?_)
      · refine X_aload_n (pc := 28) (td kX11_back 14 rfl) rfl 0 rfl ?_
        refine X_callv (pc := 29) (As := []) (st := []) sC_0 (x_X11_keepPast σ) mkX11_keepPast lk_X11_159 (by omega) rfl rfl (Nat.le_of_ble_eq_true rfl) (td kX11_back 15 rfl) (fun _ σ29 _ => ?_)
        refine X_aload_n (pc := 32) (td kX11_back 16 rfl) rfl 0 rfl ?_
        refine X_getF (b := 6) (pc := 33) sC_0 rfl fk_X11_28 (td kX11_back 17 rfl) ?_
        refine X_aload_n (pc := 36) (td kX11_back 18 rfl) rfl 0 rfl ?_
        refine X_getR (pc := 37) sC_0 rfl fk_X11_63 (td kX11_back 19 rfl) ?_
        refine X_br (fun t_37 => ?_)
        refine X_iload_n (pc := 40) (td kX11_back 20 rfl) rfl 1 rfl ?_
        refine X_callv (pc := 41) (As := [.ref t_37, .int p1]) (st := []) sC_6 (x_X4_turn 6 t_37 p1 σ29) mkX4_turn lk_X11_188 (by omega) rfl rfl (Nat.le_of_ble_eq_true rfl) (td kX11_back 21 rfl) (fun _ σ41 _ => ?_)
        refine X_iconst (v := (1 : Int32)) (pc := 44) (td kX11_back 22 rfl) (by decide) ?_
        exact X_ret (pc := 45) (td kX11_back 23 rfl) rfl
      · refine X_sub [] rfl ?_
        exact h26
def f_X11_blind (σ : Mm) : Option (Int32 × Mm) := bn (gR σ 0 7) (fun t_5 => cl (f_X0_neverWalked t_5 6 σ) (fun r12 σ12 => some (r12, σ12)))
set_option maxHeartbeats 4000000 in
set_option maxRecDepth 100000 in
theorem x_X11_blind (σ : Mm) : Con (wsOf SHC) yX11_blind cX11_blind 1 (some .int) 6 [.ref 0] σ (f_X11_blind σ) := by
  refine Con.of_X (by decide +kernel) (Nat.le_of_ble_eq_true rfl) ?_
  unfold f_X11_blind
  show X (wsOf SHC) RX11 cX11_blind 1 (some .int) 6 0 0 [(0, .ref 0)] [] σ _
  refine X_aload_n (pc := 0) (td kX11_blind 0 rfl) rfl 0 rfl ?_
  refine X_getF (b := 196) (pc := 1) sC_0 rfl fk_X11_56 (td kX11_blind 1 rfl) ?_
  refine X_aload_n (pc := 4) (td kX11_blind 2 rfl) rfl 0 rfl ?_
  refine X_getR (pc := 5) sC_0 rfl fk_X11_63 (td kX11_blind 3 rfl) ?_
  refine X_br (fun t_5 => ?_)
  refine X_aload_n (pc := 8) (td kX11_blind 4 rfl) rfl 0 rfl ?_
  refine X_getF (b := 6) (pc := 9) sC_0 rfl fk_X11_28 (td kX11_blind 5 rfl) ?_
  refine X_calli (pc := 12) (As := [.ref t_5, .ref 6]) (st := []) sC_196 (x_X0_neverWalked t_5 6 σ) mkX0_neverWalked lk_X11_233 (by omega) rfl rfl (Nat.le_of_ble_eq_true rfl) (td kX11_blind 6 rfl) (fun r12 σ12 _ hr12 => ?_)
  exact X_ret (pc := 15) (td kX11_blind 7 rfl) rfl
def f_X11_boys (σ : Mm) : Option (Int32 × Mm) := bn (gR σ 0 7) (fun t_5 => cl (f_X0_fewestBoys t_5 6 σ) (fun r12 σ12 => some (r12, σ12)))
set_option maxHeartbeats 4000000 in
set_option maxRecDepth 100000 in
theorem x_X11_boys (σ : Mm) : Con (wsOf SHC) yX11_boys cX11_boys 1 (some .int) 8 [.ref 0] σ (f_X11_boys σ) := by
  refine Con.of_X (by decide +kernel) (Nat.le_of_ble_eq_true rfl) ?_
  unfold f_X11_boys
  show X (wsOf SHC) RX11 cX11_boys 1 (some .int) 8 0 0 [(0, .ref 0)] [] σ _
  refine X_aload_n (pc := 0) (td kX11_boys 0 rfl) rfl 0 rfl ?_
  refine X_getF (b := 196) (pc := 1) sC_0 rfl fk_X11_56 (td kX11_boys 1 rfl) ?_
  refine X_aload_n (pc := 4) (td kX11_boys 2 rfl) rfl 0 rfl ?_
  refine X_getR (pc := 5) sC_0 rfl fk_X11_63 (td kX11_boys 3 rfl) ?_
  refine X_br (fun t_5 => ?_)
  refine X_aload_n (pc := 8) (td kX11_boys 4 rfl) rfl 0 rfl ?_
  refine X_getF (b := 6) (pc := 9) sC_0 rfl fk_X11_28 (td kX11_boys 5 rfl) ?_
  refine X_calli (pc := 12) (As := [.ref t_5, .ref 6]) (st := []) sC_196 (x_X0_fewestBoys t_5 6 σ) mkX0_fewestBoys lk_X11_224 (by omega) rfl rfl (Nat.le_of_ble_eq_true rfl) (td kX11_boys 6 rfl) (fun r12 σ12 _ hr12 => ?_)
  exact X_ret (pc := 15) (td kX11_boys 7 rfl) rfl
def f_X11_burns (p1 : Int32) (p2 : Int32) (σ : Mm) : Option (Int32 × Mm) := bn (gR σ 0 7) (fun t_1 => ck (isTown t_1) (cl (f_X9_hasLane t_1 p1 σ) (fun r5 _ => jn (some ((-1 : Int32), σ)) (fun k21 => (if r5 = 0 then k21 else (if p2 < 0 then k21 else (if (99 : Int32) < p2 then k21 else bn (gR σ 0 7) (fun t_28 => cl (f_X0_litBehind t_28 6 p1 p2 σ) (fun r37 σ37 => some (r37, σ37))))))))))
set_option maxHeartbeats 4000000 in
set_option maxRecDepth 100000 in
theorem x_X11_burns (p1 : Int32) (p2 : Int32) (σ : Mm) : Con (wsOf SHC) yX11_burns cX11_burns 3 (some .int) 6 [.ref 0, .int p1, .int p2] σ (f_X11_burns p1 p2 σ) := by
  refine Con.of_X (by decide +kernel) (Nat.le_of_ble_eq_true rfl) ?_
  unfold f_X11_burns
  show X (wsOf SHC) RX11 cX11_burns 3 (some .int) 6 0 0 [(0, .ref 0), (1, .int p1), (2, .int p2)] [] σ _
  refine X_aload_n (pc := 0) (td kX11_burns 0 rfl) rfl 0 rfl ?_
  refine X_getR (pc := 1) sC_0 rfl fk_X11_63 (td kX11_burns 1 rfl) ?_
  refine X_br (fun t_1 => ?_)
  refine X_iload_n (pc := 4) (td kX11_burns 2 rfl) rfl 1 rfl ?_
  refine X_ck (fun t_1_h => ?_)
  obtain ⟨t_1_s0, t_1_s1, t_1_s2, t_1_s3, t_1_s4, t_1_s5, t_1_s6, t_1_s7, t_1_s8, t_1_s9, t_1_s10, t_1_s11, t_1_s12, t_1_s13, t_1_s14⟩ := knTown t_1_h
  refine X_callip (pc := 5) (As := [.int p1]) (st := []) (p_X9_hasLane t_1 p1 σ) t_1_s0 (x_X9_hasLane t_1 p1 σ) mkX9_hasLane lk_X11_112 (by omega) rfl rfl (Nat.le_of_ble_eq_true rfl) (td kX11_burns 3 rfl) (fun r5 hr5 => ?_)
  refine X_jn (P := fun k => X (wsOf SHC) RX11 cX11_burns 3 (some .int) 6 0 21 [] [] σ k) ?_ (fun k21 h21 => ?_)
  · refine X_iconst (v := (-1 : Int32)) (pc := 21) (td kX11_burns 10 rfl) (by decide) ?_
    exact X_ret (pc := 22) (td kX11_burns 11 rfl) rfl
  · refine X_if_eq (pc := 8) (tgt := 21) (td kX11_burns 4 rfl) (by decide) (fun c_8 => ?_) (fun c_8 => ?_)
    · refine X_sub [] rfl ?_
      exact h21
    · refine X_iload_n (pc := 11) (td kX11_burns 5 rfl) rfl 2 rfl ?_
      refine X_if_lt (pc := 12) (tgt := 21) (td kX11_burns 6 rfl) (by decide) (fun c_12 => ?_) (fun c_12 => ?_)
      · refine X_sub [] rfl ?_
        exact h21
      · refine X_iload_n (pc := 15) (td kX11_burns 7 rfl) rfl 2 rfl ?_
        refine X_bipush (v := (99 : Int32)) (pc := 16) (td kX11_burns 8 rfl) (by decide) ?_
        refine X_icmp_le (pc := 18) (tgt := 23) (td kX11_burns 9 rfl) (by decide) (fun c_18 => ?_) (fun c_18 => ?_)
        · refine X_aload_n (pc := 23) (td kX11_burns 12 rfl) rfl 0 rfl ?_
          refine X_getF (b := 196) (pc := 24) sC_0 rfl fk_X11_56 (td kX11_burns 13 rfl) ?_
          refine X_aload_n (pc := 27) (td kX11_burns 14 rfl) rfl 0 rfl ?_
          refine X_getR (pc := 28) sC_0 rfl fk_X11_63 (td kX11_burns 15 rfl) ?_
          refine X_br (fun t_28 => ?_)
          refine X_aload_n (pc := 31) (td kX11_burns 16 rfl) rfl 0 rfl ?_
          refine X_getF (b := 6) (pc := 32) sC_0 rfl fk_X11_28 (td kX11_burns 17 rfl) ?_
          refine X_iload_n (pc := 35) (td kX11_burns 18 rfl) rfl 1 rfl ?_
          refine X_iload_n (pc := 36) (td kX11_burns 19 rfl) rfl 2 rfl ?_
          refine X_calli (pc := 37) (As := [.ref t_28, .ref 6, .int p1, .int p2]) (st := []) sC_196 (x_X0_litBehind t_28 6 p1 p2 σ) mkX0_litBehind lk_X11_210 (by omega) rfl rfl (Nat.le_of_ble_eq_true rfl) (td kX11_burns 20 rfl) (fun r37 σ37 _ hr37 => ?_)
          exact X_ret (pc := 40) (td kX11_burns 21 rfl) rfl
        · refine X_sub [] rfl ?_
          exact h21
def f_X11_count (p1 : Int32) (σ : Mm) : Option (Int32 × Mm) := (if p1 = (0 : Int32) then bn (gR σ 0 7) (fun t_65 => ck (isTown t_65) (some ((gI σ t_65 0), σ))) else (if p1 = (1 : Int32) then bn (gR σ 0 7) (fun t_73 => ck (isTown t_73) (some ((gI σ t_73 1), σ))) else (if p1 = (2 : Int32) then bn (gR σ 0 7) (fun t_81 => ck (isTown t_81) (some ((gI σ t_81 2), σ))) else (if p1 = (3 : Int32) then some ((gI σ 6 0), σ) else (if p1 = (4 : Int32) then bn (gR σ 0 7) (fun t_101 => cl (f_X4_homeBits 6 t_101 σ) (fun r104 _ => some (r104, σ))) else (if p1 = (5 : Int32) then bn (gR σ 0 7) (fun t_113 => cl (f_X4_litBits 6 t_113 σ) (fun r116 _ => some (r116, σ))) else (if p1 = (6 : Int32) then some ((gI σ 6 1), σ) else (if p1 = (7 : Int32) then some ((gI σ 6 2), σ) else (if p1 = (8 : Int32) then bn (gR σ 0 9) (fun t_137 => ck (isLines t_137) (some ((gI σ t_137 0), σ))) else (if p1 = (9 : Int32) then some ((gI σ 127 0), σ) else (if p1 = (10 : Int32) then some ((gI σ 13 1), σ) else (if p1 = (11 : Int32) then some ((gI σ 1 1), σ) else some ((-1 : Int32), σ)))))))))))))
set_option maxHeartbeats 4000000 in
set_option maxRecDepth 100000 in
theorem x_X11_count (p1 : Int32) (σ : Mm) : Con (wsOf SHC) yX11_count cX11_count 2 (some .int) 4 [.ref 0, .int p1] σ (f_X11_count p1 σ) := by
  refine Con.of_X (by decide +kernel) (Nat.le_of_ble_eq_true rfl) ?_
  unfold f_X11_count
  show X (wsOf SHC) RX11 cX11_count 2 (some .int) 4 0 0 [(0, .ref 0), (1, .int p1)] [] σ _
  refine X_iload_n (pc := 0) (td kX11_count 0 rfl) rfl 1 rfl ?_
  refine X_sp (fun c_1_0 => ?_) (fun c_1_0 => ?_)
  · refine X_swI (pc := 1) (tgt := 64) (td kX11_count 1 rfl) c_1_0 (by decide) (by decide) rfl (by decide) ?_
    refine X_aload_n (pc := 64) (td kX11_count 2 rfl) rfl 0 rfl ?_
    refine X_getR (pc := 65) sC_0 rfl fk_X11_63 (td kX11_count 3 rfl) ?_
    refine X_br (fun t_65 => ?_)
    refine X_ck (fun t_65_h => ?_)
    obtain ⟨t_65_s0, t_65_s1, t_65_s2, t_65_s3, t_65_s4, t_65_s5, t_65_s6, t_65_s7, t_65_s8, t_65_s9, t_65_s10, t_65_s11, t_65_s12, t_65_s13, t_65_s14⟩ := knTown t_65_h
    refine X_getI (pc := 68) t_65_s0 rfl fk_X11_300 (td kX11_count 4 rfl) ?_
    exact X_ret (pc := 71) (td kX11_count 5 rfl) rfl
  · refine X_sp (fun c_1_1 => ?_) (fun c_1_1 => ?_)
    · refine X_swI (pc := 1) (tgt := 72) (td kX11_count 1 rfl) c_1_1 (by decide) (by decide) rfl (by decide) ?_
      refine X_aload_n (pc := 72) (td kX11_count 6 rfl) rfl 0 rfl ?_
      refine X_getR (pc := 73) sC_0 rfl fk_X11_63 (td kX11_count 7 rfl) ?_
      refine X_br (fun t_73 => ?_)
      refine X_ck (fun t_73_h => ?_)
      obtain ⟨t_73_s0, t_73_s1, t_73_s2, t_73_s3, t_73_s4, t_73_s5, t_73_s6, t_73_s7, t_73_s8, t_73_s9, t_73_s10, t_73_s11, t_73_s12, t_73_s13, t_73_s14⟩ := knTown t_73_h
      refine X_getI (pc := 76) t_73_s0 rfl fk_X11_303 (td kX11_count 8 rfl) ?_
      exact X_ret (pc := 79) (td kX11_count 9 rfl) rfl
    · refine X_sp (fun c_1_2 => ?_) (fun c_1_2 => ?_)
      · refine X_swI (pc := 1) (tgt := 80) (td kX11_count 1 rfl) c_1_2 (by decide) (by decide) rfl (by decide) ?_
        refine X_aload_n (pc := 80) (td kX11_count 10 rfl) rfl 0 rfl ?_
        refine X_getR (pc := 81) sC_0 rfl fk_X11_63 (td kX11_count 11 rfl) ?_
        refine X_br (fun t_81 => ?_)
        refine X_ck (fun t_81_h => ?_)
        obtain ⟨t_81_s0, t_81_s1, t_81_s2, t_81_s3, t_81_s4, t_81_s5, t_81_s6, t_81_s7, t_81_s8, t_81_s9, t_81_s10, t_81_s11, t_81_s12, t_81_s13, t_81_s14⟩ := knTown t_81_h
        refine X_getI (pc := 84) t_81_s0 rfl fk_X11_227 (td kX11_count 12 rfl) ?_
        exact X_ret (pc := 87) (td kX11_count 13 rfl) rfl
      · refine X_sp (fun c_1_3 => ?_) (fun c_1_3 => ?_)
        · refine X_swI (pc := 1) (tgt := 88) (td kX11_count 1 rfl) c_1_3 (by decide) (by decide) rfl (by decide) ?_
          refine X_aload_n (pc := 88) (td kX11_count 14 rfl) rfl 0 rfl ?_
          refine X_getF (b := 6) (pc := 89) sC_0 rfl fk_X11_28 (td kX11_count 15 rfl) ?_
          refine X_getI (pc := 92) sC_6 rfl fk_X11_306 (td kX11_count 16 rfl) ?_
          exact X_ret (pc := 95) (td kX11_count 17 rfl) rfl
        · refine X_sp (fun c_1_4 => ?_) (fun c_1_4 => ?_)
          · refine X_swI (pc := 1) (tgt := 96) (td kX11_count 1 rfl) c_1_4 (by decide) (by decide) rfl (by decide) ?_
            refine X_aload_n (pc := 96) (td kX11_count 18 rfl) rfl 0 rfl ?_
            refine X_getF (b := 6) (pc := 97) sC_0 rfl fk_X11_28 (td kX11_count 19 rfl) ?_
            refine X_aload_n (pc := 100) (td kX11_count 20 rfl) rfl 0 rfl ?_
            refine X_getR (pc := 101) sC_0 rfl fk_X11_63 (td kX11_count 21 rfl) ?_
            refine X_br (fun t_101 => ?_)
            refine X_callip (pc := 104) (As := [.ref t_101]) (st := []) (p_X4_homeBits 6 t_101 σ) sC_6 (x_X4_homeBits 6 t_101 σ) mkX4_homeBits lk_X11_309 (by omega) rfl rfl (Nat.le_of_ble_eq_true rfl) (td kX11_count 22 rfl) (fun r104 hr104 => ?_)
            exact X_ret (pc := 107) (td kX11_count 23 rfl) rfl
          · refine X_sp (fun c_1_5 => ?_) (fun c_1_5 => ?_)
            · refine X_swI (pc := 1) (tgt := 108) (td kX11_count 1 rfl) c_1_5 (by decide) (by decide) rfl (by decide) ?_
              refine X_aload_n (pc := 108) (td kX11_count 24 rfl) rfl 0 rfl ?_
              refine X_getF (b := 6) (pc := 109) sC_0 rfl fk_X11_28 (td kX11_count 25 rfl) ?_
              refine X_aload_n (pc := 112) (td kX11_count 26 rfl) rfl 0 rfl ?_
              refine X_getR (pc := 113) sC_0 rfl fk_X11_63 (td kX11_count 27 rfl) ?_
              refine X_br (fun t_113 => ?_)
              refine X_callip (pc := 116) (As := [.ref t_113]) (st := []) (p_X4_litBits 6 t_113 σ) sC_6 (x_X4_litBits 6 t_113 σ) mkX4_litBits lk_X11_230 (by omega) rfl rfl (Nat.le_of_ble_eq_true rfl) (td kX11_count 28 rfl) (fun r116 hr116 => ?_)
              exact X_ret (pc := 119) (td kX11_count 29 rfl) rfl
            · refine X_sp (fun c_1_6 => ?_) (fun c_1_6 => ?_)
              · refine X_swI (pc := 1) (tgt := 120) (td kX11_count 1 rfl) c_1_6 (by decide) (by decide) rfl (by decide) ?_
                refine X_aload_n (pc := 120) (td kX11_count 30 rfl) rfl 0 rfl ?_
                refine X_getF (b := 6) (pc := 121) sC_0 rfl fk_X11_28 (td kX11_count 31 rfl) ?_
                refine X_getI (pc := 124) sC_6 rfl fk_X11_312 (td kX11_count 32 rfl) ?_
                exact X_ret (pc := 127) (td kX11_count 33 rfl) rfl
              · refine X_sp (fun c_1_7 => ?_) (fun c_1_7 => ?_)
                · refine X_swI (pc := 1) (tgt := 128) (td kX11_count 1 rfl) c_1_7 (by decide) (by decide) rfl (by decide) ?_
                  refine X_aload_n (pc := 128) (td kX11_count 34 rfl) rfl 0 rfl ?_
                  refine X_getF (b := 6) (pc := 129) sC_0 rfl fk_X11_28 (td kX11_count 35 rfl) ?_
                  refine X_getI (pc := 132) sC_6 rfl fk_X11_315 (td kX11_count 36 rfl) ?_
                  exact X_ret (pc := 135) (td kX11_count 37 rfl) rfl
                · refine X_sp (fun c_1_8 => ?_) (fun c_1_8 => ?_)
                  · refine X_swI (pc := 1) (tgt := 136) (td kX11_count 1 rfl) c_1_8 (by decide) (by decide) rfl (by decide) ?_
                    refine X_aload_n (pc := 136) (td kX11_count 38 rfl) rfl 0 rfl ?_
                    refine X_getR (pc := 137) sC_0 rfl fk_X11_73 (td kX11_count 39 rfl) ?_
                    refine X_br (fun t_137 => ?_)
                    refine X_ck (fun t_137_h => ?_)
                    obtain ⟨t_137_s0, t_137_s1, t_137_s2, t_137_s3⟩ := knLines t_137_h
                    refine X_getI (pc := 140) t_137_s0 rfl fk_X11_96 (td kX11_count 40 rfl) ?_
                    exact X_ret (pc := 143) (td kX11_count 41 rfl) rfl
                  · refine X_sp (fun c_1_9 => ?_) (fun c_1_9 => ?_)
                    · refine X_swI (pc := 1) (tgt := 144) (td kX11_count 1 rfl) c_1_9 (by decide) (by decide) rfl (by decide) ?_
                      refine X_aload_n (pc := 144) (td kX11_count 42 rfl) rfl 0 rfl ?_
                      refine X_getF (b := 127) (pc := 145) sC_0 rfl fk_X11_42 (td kX11_count 43 rfl) ?_
                      refine X_getI (pc := 148) sC_127 rfl fk_X11_99 (td kX11_count 44 rfl) ?_
                      exact X_ret (pc := 151) (td kX11_count 45 rfl) rfl
                    · refine X_sp (fun c_1_10 => ?_) (fun c_1_10 => ?_)
                      · refine X_swI (pc := 1) (tgt := 152) (td kX11_count 1 rfl) c_1_10 (by decide) (by decide) rfl (by decide) ?_
                        refine X_aload_n (pc := 152) (td kX11_count 46 rfl) rfl 0 rfl ?_
                        refine X_getF (b := 13) (pc := 153) sC_0 rfl fk_X11_35 (td kX11_count 47 rfl) ?_
                        refine X_getI (pc := 156) sC_13 rfl fk_X11_318 (td kX11_count 48 rfl) ?_
                        exact X_ret (pc := 159) (td kX11_count 49 rfl) rfl
                      · refine X_sp (fun c_1_11 => ?_) (fun c_1_11 => ?_)
                        · refine X_swI (pc := 1) (tgt := 160) (td kX11_count 1 rfl) c_1_11 (by decide) (by decide) rfl (by decide) ?_
                          refine X_aload_n (pc := 160) (td kX11_count 50 rfl) rfl 0 rfl ?_
                          refine X_getF (b := 1) (pc := 161) sC_0 rfl fk_X11_10 (td kX11_count 51 rfl) ?_
                          refine X_getI (pc := 164) sC_1 rfl fk_X11_84 (td kX11_count 52 rfl) ?_
                          exact X_ret (pc := 167) (td kX11_count 53 rfl) rfl
                        · refine X_swO (pc := 1) (tgt := 168) (td kX11_count 1 rfl) (by have z0 := tsw_ne (0) (by decide) c_1_0; have z1 := tsw_ne (1) (by decide) c_1_1; have z2 := tsw_ne (2) (by decide) c_1_2; have z3 := tsw_ne (3) (by decide) c_1_3; have z4 := tsw_ne (4) (by decide) c_1_4; have z5 := tsw_ne (5) (by decide) c_1_5; have z6 := tsw_ne (6) (by decide) c_1_6; have z7 := tsw_ne (7) (by decide) c_1_7; have z8 := tsw_ne (8) (by decide) c_1_8; have z9 := tsw_ne (9) (by decide) c_1_9; have z10 := tsw_ne (10) (by decide) c_1_10; have z11 := tsw_ne (11) (by decide) c_1_11; omega) (by decide) ?_
                          refine X_iconst (v := (-1 : Int32)) (pc := 168) (td kX11_count 54 rfl) (by decide) ?_
                          exact X_ret (pc := 169) (td kX11_count 55 rfl) rfl
set_option maxHeartbeats 4000000 in
theorem p_X11_count (p1 : Int32) (σ : Mm) : Pu σ (f_X11_count p1 σ) := by
  unfold f_X11_count
  refine Pu_if ?_ ?_
  · refine Pu_bn (fun _ => ?_)
    refine Pu_ck ?_
    exact Pu_some
  · refine Pu_if ?_ ?_
    · refine Pu_bn (fun _ => ?_)
      refine Pu_ck ?_
      exact Pu_some
    · refine Pu_if ?_ ?_
      · refine Pu_bn (fun _ => ?_)
        refine Pu_ck ?_
        exact Pu_some
      · refine Pu_if ?_ ?_
        · exact Pu_some
        · refine Pu_if ?_ ?_
          · refine Pu_bn (fun _ => ?_)
            refine Pu_cl (fun _ _ => ?_)
            exact Pu_some
          · refine Pu_if ?_ ?_
            · refine Pu_bn (fun _ => ?_)
              refine Pu_cl (fun _ _ => ?_)
              exact Pu_some
            · refine Pu_if ?_ ?_
              · exact Pu_some
              · refine Pu_if ?_ ?_
                · exact Pu_some
                · refine Pu_if ?_ ?_
                  · refine Pu_bn (fun _ => ?_)
                    refine Pu_ck ?_
                    exact Pu_some
                  · refine Pu_if ?_ ?_
                    · exact Pu_some
                    · refine Pu_if ?_ ?_
                      · exact Pu_some
                      · refine Pu_if ?_ ?_
                        · exact Pu_some
                        · exact Pu_some
def f_X11_darks (p1 : Int32) (σ : Mm) : Option (Int32 × Mm) := bn (gR σ 0 7) (fun t_1 => ck (isTown t_1) (cl (f_X9_hasWalker t_1 p1 σ) (fun r5 _ => (if r5 = 0 then some ((-1 : Int32), σ) else bn (gR σ 0 7) (fun t_16 => cl (f_X0_darkTimesOf t_16 6 p1 σ) (fun r24 σ24 => some (r24, σ24)))))))
set_option maxHeartbeats 4000000 in
set_option maxRecDepth 100000 in
theorem x_X11_darks (p1 : Int32) (σ : Mm) : Con (wsOf SHC) yX11_darks cX11_darks 2 (some .int) 6 [.ref 0, .int p1] σ (f_X11_darks p1 σ) := by
  refine Con.of_X (by decide +kernel) (Nat.le_of_ble_eq_true rfl) ?_
  unfold f_X11_darks
  show X (wsOf SHC) RX11 cX11_darks 2 (some .int) 6 0 0 [(0, .ref 0), (1, .int p1)] [] σ _
  refine X_aload_n (pc := 0) (td kX11_darks 0 rfl) rfl 0 rfl ?_
  refine X_getR (pc := 1) sC_0 rfl fk_X11_63 (td kX11_darks 1 rfl) ?_
  refine X_br (fun t_1 => ?_)
  refine X_iload_n (pc := 4) (td kX11_darks 2 rfl) rfl 1 rfl ?_
  refine X_ck (fun t_1_h => ?_)
  obtain ⟨t_1_s0, t_1_s1, t_1_s2, t_1_s3, t_1_s4, t_1_s5, t_1_s6, t_1_s7, t_1_s8, t_1_s9, t_1_s10, t_1_s11, t_1_s12, t_1_s13, t_1_s14⟩ := knTown t_1_h
  refine X_callip (pc := 5) (As := [.int p1]) (st := []) (p_X9_hasWalker t_1 p1 σ) t_1_s0 (x_X9_hasWalker t_1 p1 σ) mkX9_hasWalker lk_X11_129 (by omega) rfl rfl (Nat.le_of_ble_eq_true rfl) (td kX11_darks 3 rfl) (fun r5 hr5 => ?_)
  refine X_if_eq (pc := 8) (tgt := 30) (td kX11_darks 4 rfl) (by decide) (fun c_8 => ?_) (fun c_8 => ?_)
  · refine X_iconst (v := (-1 : Int32)) (pc := 30) (td kX11_darks 14 rfl) (by decide) ?_
    exact X_ret (pc := 31) (td kX11_darks 15 rfl) rfl
  · refine X_aload_n (pc := 11) (td kX11_darks 5 rfl) rfl 0 rfl ?_
    refine X_getF (b := 196) (pc := 12) sC_0 rfl fk_X11_56 (td kX11_darks 6 rfl) ?_
    refine X_aload_n (pc := 15) (td kX11_darks 7 rfl) rfl 0 rfl ?_
    refine X_getR (pc := 16) sC_0 rfl fk_X11_63 (td kX11_darks 8 rfl) ?_
    refine X_br (fun t_16 => ?_)
    refine X_aload_n (pc := 19) (td kX11_darks 9 rfl) rfl 0 rfl ?_
    refine X_getF (b := 6) (pc := 20) sC_0 rfl fk_X11_28 (td kX11_darks 10 rfl) ?_
    refine X_iload_n (pc := 23) (td kX11_darks 11 rfl) rfl 1 rfl ?_
    refine X_calli (pc := 24) (As := [.ref t_16, .ref 6, .int p1]) (st := []) sC_196 (x_X0_darkTimesOf t_16 6 p1 σ) mkX0_darkTimesOf lk_X11_199 (by omega) rfl rfl (Nat.le_of_ble_eq_true rfl) (td kX11_darks 12 rfl) (fun r24 σ24 _ hr24 => ?_)
    refine X_goto (pc := 27) (tgt := 31) (td kX11_darks 13 rfl) (by decide) ?_
    exact X_ret (pc := 31) (td kX11_darks 15 rfl) rfl
def f_X11_delay (p1 : Int32) (σ : Mm) : Option (Int32 × Mm) := jn (bn (gR σ 0 7) (fun t_24 => cl (f_X0_findDelays t_24 6 σ) (fun _ σ31 => (if p1 = (-1 : Int32) then some ((gI σ31 196 4), σ31) else ck (inb p1 6) (some ((gI σ31 206 p1.toNatClampNeg), σ31)))))) (fun k19 => (if p1 = (-1 : Int32) then k19 else bn (gR σ 0 7) (fun t_6 => ck (isTown t_6) (cl (f_X9_hasWalker t_6 p1 σ) (fun r10 _ => (if r10 = 0 then some ((-2 : Int32), σ) else k19))))))
set_option maxHeartbeats 4000000 in
set_option maxRecDepth 100000 in
theorem x_X11_delay (p1 : Int32) (σ : Mm) : Con (wsOf SHC) yX11_delay cX11_delay 2 (some .int) 8 [.ref 0, .int p1] σ (f_X11_delay p1 σ) := by
  refine Con.of_X (by decide +kernel) (Nat.le_of_ble_eq_true rfl) ?_
  unfold f_X11_delay
  show X (wsOf SHC) RX11 cX11_delay 2 (some .int) 8 0 0 [(0, .ref 0), (1, .int p1)] [] σ _
  refine X_iload_n (pc := 0) (td kX11_delay 0 rfl) rfl 1 rfl ?_
  refine X_iconst (v := (-1 : Int32)) (pc := 1) (td kX11_delay 1 rfl) (by decide) ?_
  refine X_jn (P := fun k => X (wsOf SHC) RX11 cX11_delay 2 (some .int) 8 0 19 [(0, .ref 0), (1, .int p1)] [] σ k) ?_ (fun k19 h19 => ?_)
  · refine X_aload_n (pc := 19) (td kX11_delay 10 rfl) rfl 0 rfl ?_
    refine X_getF (b := 196) (pc := 20) sC_0 rfl fk_X11_56 (td kX11_delay 11 rfl) ?_
    refine X_aload_n (pc := 23) (td kX11_delay 12 rfl) rfl 0 rfl ?_
    refine X_getR (pc := 24) sC_0 rfl fk_X11_63 (td kX11_delay 13 rfl) ?_
    refine X_br (fun t_24 => ?_)
    refine X_aload_n (pc := 27) (td kX11_delay 14 rfl) rfl 0 rfl ?_
    refine X_getF (b := 6) (pc := 28) sC_0 rfl fk_X11_28 (td kX11_delay 15 rfl) ?_
    refine X_callv (pc := 31) (As := [.ref t_24, .ref 6]) (st := []) sC_196 (x_X0_findDelays t_24 6 σ) mkX0_findDelays lk_X11_214 (by omega) rfl rfl (Nat.le_of_ble_eq_true rfl) (td kX11_delay 16 rfl) (fun _ σ31 _ => ?_)
    refine X_iload_n (pc := 34) (td kX11_delay 17 rfl) rfl 1 rfl ?_
    refine X_iconst (v := (-1 : Int32)) (pc := 35) (td kX11_delay 18 rfl) (by decide) ?_
    refine X_icmp_ne (pc := 36) (tgt := 49) (td kX11_delay 19 rfl) (by decide) (fun c_36 => ?_) (fun c_36 => ?_)
    · refine X_aload_n (pc := 49) (td kX11_delay 24 rfl) rfl 0 rfl ?_
      refine X_getF (b := 196) (pc := 50) sC_0 rfl fk_X11_56 (td kX11_delay 25 rfl) ?_
      refine X_getF (b := 206) (pc := 53) sC_196 rfl fk_X11_221 (td kX11_delay 26 rfl) ?_
      refine X_iload_n (pc := 56) (td kX11_delay 27 rfl) rfl 1 rfl ?_
      refine X_iald (pc := 57) sC_206 (td kX11_delay 28 rfl) ?_
      exact X_ret (pc := 58) (td kX11_delay 29 rfl) rfl
    · refine X_aload_n (pc := 39) (td kX11_delay 20 rfl) rfl 0 rfl ?_
      refine X_getF (b := 196) (pc := 40) sC_0 rfl fk_X11_56 (td kX11_delay 21 rfl) ?_
      refine X_getI (pc := 43) sC_196 rfl fk_X11_218 (td kX11_delay 22 rfl) ?_
      refine X_goto (pc := 46) (tgt := 58) (td kX11_delay 23 rfl) (by decide) ?_
      exact X_ret (pc := 58) (td kX11_delay 29 rfl) rfl
  · refine X_icmp_eq (pc := 2) (tgt := 19) (td kX11_delay 2 rfl) (by decide) (fun c_2 => ?_) (fun c_2 => ?_)
    · exact h19
    · refine X_aload_n (pc := 5) (td kX11_delay 3 rfl) rfl 0 rfl ?_
      refine X_getR (pc := 6) sC_0 rfl fk_X11_63 (td kX11_delay 4 rfl) ?_
      refine X_br (fun t_6 => ?_)
      refine X_iload_n (pc := 9) (td kX11_delay 5 rfl) rfl 1 rfl ?_
      refine X_ck (fun t_6_h => ?_)
      obtain ⟨t_6_s0, t_6_s1, t_6_s2, t_6_s3, t_6_s4, t_6_s5, t_6_s6, t_6_s7, t_6_s8, t_6_s9, t_6_s10, t_6_s11, t_6_s12, t_6_s13, t_6_s14⟩ := knTown t_6_h
      refine X_callip (pc := 10) (As := [.int p1]) (st := []) (p_X9_hasWalker t_6 p1 σ) t_6_s0 (x_X9_hasWalker t_6 p1 σ) mkX9_hasWalker lk_X11_129 (by omega) rfl rfl (Nat.le_of_ble_eq_true rfl) (td kX11_delay 6 rfl) (fun r10 hr10 => ?_)
      refine X_if_ne (pc := 13) (tgt := 19) (td kX11_delay 7 rfl) (by decide) (fun c_13 => ?_) (fun c_13 => ?_)
      · exact h19
      · refine X_bipush (v := (-2 : Int32)) (pc := 16) (td kX11_delay 8 rfl) (by decide) ?_
        exact X_ret (pc := 18) (td kX11_delay 9 rfl) rfl
def f_X11_evening (σ : Mm) : Option (Int32 × Mm) := bn (gR σ 0 10) (fun t_5 => bn (gR σ 0 7) (fun t_9 => cl (f_X6_readEvening t_5 t_9 σ) (fun r12 σ12 => bn (pI σ12 1 1 (0 : Int32)) (fun σ21 => (if r12 = 0 then bn (gR σ21 0 10) (fun t_31 => bn (gR σ21 0 9) (fun t_37 => bn (pR σ21 0 10 t_37) (fun σ40 => bn (pR σ40 0 9 t_31) (fun σ45 => some ((0 : Int32), σ45))))) else some (r12, σ21))))))
set_option maxHeartbeats 4000000 in
set_option maxRecDepth 100000 in
theorem x_X11_evening (σ : Mm) : Con (wsOf SHC) yX11_evening cX11_evening 3 (some .int) 10 [.ref 0] σ (f_X11_evening σ) := by
  refine Con.of_X (by decide +kernel) (Nat.le_of_ble_eq_true rfl) ?_
  unfold f_X11_evening
  show X (wsOf SHC) RX11 cX11_evening 3 (some .int) 10 0 0 [(0, .ref 0)] [] σ _
  refine X_aload_n (pc := 0) (td kX11_evening 0 rfl) rfl 0 rfl ?_
  refine X_getF (b := 3) (pc := 1) sC_0 rfl fk_X11_21 (td kX11_evening 1 rfl) ?_
  refine X_aload_n (pc := 4) (td kX11_evening 2 rfl) rfl 0 rfl ?_
  refine X_getR (pc := 5) sC_0 rfl fk_X11_77 (td kX11_evening 3 rfl) ?_
  refine X_br (fun t_5 => ?_)
  refine X_aload_n (pc := 8) (td kX11_evening 4 rfl) rfl 0 rfl ?_
  refine X_getR (pc := 9) sC_0 rfl fk_X11_63 (td kX11_evening 5 rfl) ?_
  refine X_br (fun t_9 => ?_)
  refine X_calli (pc := 12) (As := [.ref t_5, .ref t_9]) (st := []) sC_3 (x_X6_readEvening t_5 t_9 σ) mkX6_readEvening lk_X11_108 (by omega) rfl rfl (Nat.le_of_ble_eq_true rfl) (td kX11_evening 6 rfl) (fun r12 σ12 _ hr12 => ?_)
  refine X_istore_n (L' := [(1, .int r12), (0, .ref 0)]) (pc := 15) (td kX11_evening 7 rfl) rfl (by decide) rfl ?_
  refine X_aload_n (pc := 16) (td kX11_evening 8 rfl) rfl 1 rfl ?_
  refine X_getF (b := 1) (pc := 17) sC_0 rfl fk_X11_10 (td kX11_evening 9 rfl) ?_
  refine X_iconst (v := (0 : Int32)) (pc := 20) (td kX11_evening 10 rfl) (by decide) ?_
  refine X_putI (pc := 21) sC_1 rfl fk_X11_84 rfl rfl (td kX11_evening 11 rfl) (fun σ21 => ?_)
  refine X_iload_n (pc := 24) (td kX11_evening 12 rfl) rfl 0 rfl ?_
  refine X_if_eq (pc := 25) (tgt := 30) (td kX11_evening 13 rfl) (by decide) (fun c_25 => ?_) (fun c_25 => ?_)
  · refine X_aload_n (pc := 30) (td kX11_evening 16 rfl) rfl 1 rfl ?_
    refine X_getR (pc := 31) sC_0 rfl fk_X11_77 (td kX11_evening 17 rfl) ?_
    refine X_br (fun t_31 => ?_)
    refine X_astore_n (L' := [(2, .ref t_31), (1, .int r12), (0, .ref 0)]) (pc := 34) (td kX11_evening 18 rfl) rfl (by decide) rfl ?_
    refine X_aload_n (pc := 35) (td kX11_evening 19 rfl) rfl 2 rfl ?_
    refine X_aload_n (pc := 36) (td kX11_evening 20 rfl) rfl 2 rfl ?_
    refine X_getR (pc := 37) sC_0 rfl fk_X11_73 (td kX11_evening 21 rfl) ?_
    refine X_br (fun t_37 => ?_)
    refine X_putR (pc := 40) sC_0 rfl fk_X11_77 (td kX11_evening 22 rfl) (fun σ40 => ?_)
    refine X_aload_n (pc := 43) (td kX11_evening 23 rfl) rfl 2 rfl ?_
    refine X_aload_n (pc := 44) (td kX11_evening 24 rfl) rfl 0 rfl ?_
    refine X_putR (pc := 45) sC_0 rfl fk_X11_73 (td kX11_evening 25 rfl) (fun σ45 => ?_)
    refine X_iconst (v := (0 : Int32)) (pc := 48) (td kX11_evening 26 rfl) (by decide) ?_
    exact X_ret (pc := 49) (td kX11_evening 27 rfl) rfl
  · refine X_iload_n (pc := 28) (td kX11_evening 14 rfl) rfl 0 rfl ?_
    exact X_ret (pc := 29) (td kX11_evening 15 rfl) rfl
def f_X11_feed (p1 : Int64) (p2 : Int64) (p3 : Int64) (σ : Mm) : Option (Int32 × Mm) := cl (f_X7_addBytes p1 σ) (fun _ σ5 => cl (f_X7_addBytes p2 σ5) (fun _ σ13 => cl (f_X7_addBytes p3 σ13) (fun _ σ22 => some ((gI σ22 1 1), σ22))))
set_option maxHeartbeats 4000000 in
set_option maxRecDepth 100000 in
theorem x_X11_feed (p1 : Int64) (p2 : Int64) (p3 : Int64) (σ : Mm) : Con (wsOf SHC) yX11_feed cX11_feed 7 (some .int) 2 [.ref 0, .long p1, .long p2, .long p3] σ (f_X11_feed p1 p2 p3 σ) := by
  refine Con.of_X (by decide +kernel) (Nat.le_of_ble_eq_true rfl) ?_
  unfold f_X11_feed
  show X (wsOf SHC) RX11 cX11_feed 7 (some .int) 2 0 0 [(0, .ref 0), (1, .long p1), (3, .long p2), (5, .long p3)] [] σ _
  refine X_aload_n (pc := 0) (td kX11_feed 0 rfl) rfl 0 rfl ?_
  refine X_getF (b := 1) (pc := 1) sC_0 rfl fk_X11_10 (td kX11_feed 1 rfl) ?_
  refine X_lload_n (pc := 4) (td kX11_feed 2 rfl) rfl 1 rfl ?_
  refine X_callv (pc := 5) (As := [.long p1]) (st := []) sC_1 (x_X7_addBytes p1 σ) mkX7_addBytes lk_X11_80 (by omega) rfl rfl (Nat.le_of_ble_eq_true rfl) (td kX11_feed 3 rfl) (fun _ σ5 _ => ?_)
  refine X_aload_n (pc := 8) (td kX11_feed 4 rfl) rfl 0 rfl ?_
  refine X_getF (b := 1) (pc := 9) sC_0 rfl fk_X11_10 (td kX11_feed 5 rfl) ?_
  refine X_lload_n (pc := 12) (td kX11_feed 6 rfl) rfl 2 rfl ?_
  refine X_callv (pc := 13) (As := [.long p2]) (st := []) sC_1 (x_X7_addBytes p2 σ5) mkX7_addBytes lk_X11_80 (by omega) rfl rfl (Nat.le_of_ble_eq_true rfl) (td kX11_feed 7 rfl) (fun _ σ13 _ => ?_)
  refine X_aload_n (pc := 16) (td kX11_feed 8 rfl) rfl 0 rfl ?_
  refine X_getF (b := 1) (pc := 17) sC_0 rfl fk_X11_10 (td kX11_feed 9 rfl) ?_
  refine X_lload (pc := 20) (td kX11_feed 10 rfl) 3 rfl ?_
  refine X_callv (pc := 22) (As := [.long p3]) (st := []) sC_1 (x_X7_addBytes p3 σ13) mkX7_addBytes lk_X11_80 (by omega) rfl rfl (Nat.le_of_ble_eq_true rfl) (td kX11_feed 11 rfl) (fun _ σ22 _ => ?_)
  refine X_aload_n (pc := 25) (td kX11_feed 12 rfl) rfl 0 rfl ?_
  refine X_getF (b := 1) (pc := 26) sC_0 rfl fk_X11_10 (td kX11_feed 13 rfl) ?_
  refine X_getI (pc := 29) sC_1 rfl fk_X11_84 (td kX11_feed 14 rfl) ?_
  exact X_ret (pc := 32) (td kX11_feed 15 rfl) rfl
def f_X11_gain (p1 : Int32) (p2 : Int32) (p3 : Int32) (p4 : Int32) (p5 : Int32) (σ : Mm) : Option (Int32 × Mm) := (if p4 = (1 : Int32) then (if p5 = (1 : Int32) then some (p1, σ) else some ((-p2), σ)) else (if p5 = (1 : Int32) then some (p3, σ) else some ((0 : Int32), σ)))
set_option maxHeartbeats 4000000 in
set_option maxRecDepth 100000 in
theorem x_X11_gain (p1 : Int32) (p2 : Int32) (p3 : Int32) (p4 : Int32) (p5 : Int32) (σ : Mm) : Con (wsOf SHC) yX11_gain cX11_gain 5 (some .int) 1 [.int p1, .int p2, .int p3, .int p4, .int p5] σ (f_X11_gain p1 p2 p3 p4 p5 σ) := by
  refine Con.of_X (by decide +kernel) (Nat.le_of_ble_eq_true rfl) ?_
  unfold f_X11_gain
  show X (wsOf SHC) RX11 cX11_gain 5 (some .int) 1 0 0 [(0, .int p1), (1, .int p2), (2, .int p3), (3, .int p4), (4, .int p5)] [] σ _
  refine X_iload_n (pc := 0) (td kX11_gain 0 rfl) rfl 3 rfl ?_
  refine X_iconst (v := (1 : Int32)) (pc := 1) (td kX11_gain 1 rfl) (by decide) ?_
  refine X_icmp_ne (pc := 2) (tgt := 18) (td kX11_gain 2 rfl) (by decide) (fun c_2 => ?_) (fun c_2 => ?_)
  · refine X_iload (pc := 18) (td kX11_gain 11 rfl) 4 rfl ?_
    refine X_iconst (v := (1 : Int32)) (pc := 20) (td kX11_gain 12 rfl) (by decide) ?_
    refine X_icmp_ne (pc := 21) (tgt := 28) (td kX11_gain 13 rfl) (by decide) (fun c_21 => ?_) (fun c_21 => ?_)
    · refine X_iconst (v := (0 : Int32)) (pc := 28) (td kX11_gain 16 rfl) (by decide) ?_
      exact X_ret (pc := 29) (td kX11_gain 17 rfl) rfl
    · refine X_iload_n (pc := 24) (td kX11_gain 14 rfl) rfl 2 rfl ?_
      refine X_goto (pc := 25) (tgt := 29) (td kX11_gain 15 rfl) (by decide) ?_
      exact X_ret (pc := 29) (td kX11_gain 17 rfl) rfl
  · refine X_iload (pc := 5) (td kX11_gain 3 rfl) 4 rfl ?_
    refine X_iconst (v := (1 : Int32)) (pc := 7) (td kX11_gain 4 rfl) (by decide) ?_
    refine X_icmp_ne (pc := 8) (tgt := 15) (td kX11_gain 5 rfl) (by decide) (fun c_8 => ?_) (fun c_8 => ?_)
    · refine X_iload_n (pc := 15) (td kX11_gain 8 rfl) rfl 1 rfl ?_
      refine X_ineg (pc := 16) (td kX11_gain 9 rfl) ?_
      exact X_ret (pc := 17) (td kX11_gain 10 rfl) rfl
    · refine X_iload_n (pc := 11) (td kX11_gain 6 rfl) rfl 0 rfl ?_
      refine X_goto (pc := 12) (tgt := 17) (td kX11_gain 7 rfl) (by decide) ?_
      exact X_ret (pc := 17) (td kX11_gain 10 rfl) rfl
set_option maxHeartbeats 4000000 in
theorem p_X11_gain (p1 : Int32) (p2 : Int32) (p3 : Int32) (p4 : Int32) (p5 : Int32) (σ : Mm) : Pu σ (f_X11_gain p1 p2 p3 p4 p5 σ) := by
  unfold f_X11_gain
  refine Pu_if ?_ ?_
  · refine Pu_if ?_ ?_
    · exact Pu_some
    · exact Pu_some
  · refine Pu_if ?_ ?_
    · exact Pu_some
    · exact Pu_some
def f_X11_glow (σ : Mm) : Option (Int32 × Mm) := bn (gR σ 0 7) (fun t_5 => cl (f_X0_brightest t_5 6 σ) (fun r12 σ12 => some (r12, σ12)))
set_option maxHeartbeats 4000000 in
set_option maxRecDepth 100000 in
theorem x_X11_glow (σ : Mm) : Con (wsOf SHC) yX11_glow cX11_glow 1 (some .int) 6 [.ref 0] σ (f_X11_glow σ) := by
  refine Con.of_X (by decide +kernel) (Nat.le_of_ble_eq_true rfl) ?_
  unfold f_X11_glow
  show X (wsOf SHC) RX11 cX11_glow 1 (some .int) 6 0 0 [(0, .ref 0)] [] σ _
  refine X_aload_n (pc := 0) (td kX11_glow 0 rfl) rfl 0 rfl ?_
  refine X_getF (b := 196) (pc := 1) sC_0 rfl fk_X11_56 (td kX11_glow 1 rfl) ?_
  refine X_aload_n (pc := 4) (td kX11_glow 2 rfl) rfl 0 rfl ?_
  refine X_getR (pc := 5) sC_0 rfl fk_X11_63 (td kX11_glow 3 rfl) ?_
  refine X_br (fun t_5 => ?_)
  refine X_aload_n (pc := 8) (td kX11_glow 4 rfl) rfl 0 rfl ?_
  refine X_getF (b := 6) (pc := 9) sC_0 rfl fk_X11_28 (td kX11_glow 5 rfl) ?_
  refine X_calli (pc := 12) (As := [.ref t_5, .ref 6]) (st := []) sC_196 (x_X0_brightest t_5 6 σ) mkX0_brightest lk_X11_206 (by omega) rfl rfl (Nat.le_of_ble_eq_true rfl) (td kX11_glow 6 rfl) (fun r12 σ12 _ hr12 => ?_)
  exact X_ret (pc := 15) (td kX11_glow 7 rfl) rfl
def f_X11_home (p1 : Int32) (σ : Mm) : Option (Int32 × Mm) := bn (gR σ 0 7) (fun t_1 => ck (isTown t_1) (cl (f_X9_hasWalker t_1 p1 σ) (fun r5 _ => (if r5 = 0 then some ((-1 : Int32), σ) else bn (gR σ 0 7) (fun t_16 => cl (f_X0_minutesTillHome t_16 6 p1 σ) (fun r24 σ24 => some (r24, σ24)))))))
set_option maxHeartbeats 4000000 in
set_option maxRecDepth 100000 in
theorem x_X11_home (p1 : Int32) (σ : Mm) : Con (wsOf SHC) yX11_home cX11_home 2 (some .int) 6 [.ref 0, .int p1] σ (f_X11_home p1 σ) := by
  refine Con.of_X (by decide +kernel) (Nat.le_of_ble_eq_true rfl) ?_
  unfold f_X11_home
  show X (wsOf SHC) RX11 cX11_home 2 (some .int) 6 0 0 [(0, .ref 0), (1, .int p1)] [] σ _
  refine X_aload_n (pc := 0) (td kX11_home 0 rfl) rfl 0 rfl ?_
  refine X_getR (pc := 1) sC_0 rfl fk_X11_63 (td kX11_home 1 rfl) ?_
  refine X_br (fun t_1 => ?_)
  refine X_iload_n (pc := 4) (td kX11_home 2 rfl) rfl 1 rfl ?_
  refine X_ck (fun t_1_h => ?_)
  obtain ⟨t_1_s0, t_1_s1, t_1_s2, t_1_s3, t_1_s4, t_1_s5, t_1_s6, t_1_s7, t_1_s8, t_1_s9, t_1_s10, t_1_s11, t_1_s12, t_1_s13, t_1_s14⟩ := knTown t_1_h
  refine X_callip (pc := 5) (As := [.int p1]) (st := []) (p_X9_hasWalker t_1 p1 σ) t_1_s0 (x_X9_hasWalker t_1 p1 σ) mkX9_hasWalker lk_X11_129 (by omega) rfl rfl (Nat.le_of_ble_eq_true rfl) (td kX11_home 3 rfl) (fun r5 hr5 => ?_)
  refine X_if_eq (pc := 8) (tgt := 30) (td kX11_home 4 rfl) (by decide) (fun c_8 => ?_) (fun c_8 => ?_)
  · refine X_iconst (v := (-1 : Int32)) (pc := 30) (td kX11_home 14 rfl) (by decide) ?_
    exact X_ret (pc := 31) (td kX11_home 15 rfl) rfl
  · refine X_aload_n (pc := 11) (td kX11_home 5 rfl) rfl 0 rfl ?_
    refine X_getF (b := 196) (pc := 12) sC_0 rfl fk_X11_56 (td kX11_home 6 rfl) ?_
    refine X_aload_n (pc := 15) (td kX11_home 7 rfl) rfl 0 rfl ?_
    refine X_getR (pc := 16) sC_0 rfl fk_X11_63 (td kX11_home 8 rfl) ?_
    refine X_br (fun t_16 => ?_)
    refine X_aload_n (pc := 19) (td kX11_home 9 rfl) rfl 0 rfl ?_
    refine X_getF (b := 6) (pc := 20) sC_0 rfl fk_X11_28 (td kX11_home 10 rfl) ?_
    refine X_iload_n (pc := 23) (td kX11_home 11 rfl) rfl 1 rfl ?_
    refine X_calli (pc := 24) (As := [.ref t_16, .ref 6, .int p1]) (st := []) sC_196 (x_X0_minutesTillHome t_16 6 p1 σ) mkX0_minutesTillHome lk_X11_203 (by omega) rfl rfl (Nat.le_of_ble_eq_true rfl) (td kX11_home 12 rfl) (fun r24 σ24 _ hr24 => ?_)
    refine X_goto (pc := 27) (tgt := 31) (td kX11_home 13 rfl) (by decide) ?_
    exact X_ret (pc := 31) (td kX11_home 15 rfl) rfl
def f_X11_isPay (p1 : Int32) (σ : Mm) : Option (Int32 × Mm) := jn (some ((0 : Int32), σ)) (fun k14 => (if p1 < 0 then k14 else (if (9 : Int32) < p1 then k14 else some ((1 : Int32), σ))))
set_option maxHeartbeats 4000000 in
set_option maxRecDepth 100000 in
theorem x_X11_isPay (p1 : Int32) (σ : Mm) : Con (wsOf SHC) yX11_isPay cX11_isPay 1 (some .boolean) 1 [.int p1] σ (f_X11_isPay p1 σ) := by
  refine Con.of_X (by decide +kernel) (Nat.le_of_ble_eq_true rfl) ?_
  unfold f_X11_isPay
  show X (wsOf SHC) RX11 cX11_isPay 1 (some .boolean) 1 0 0 [(0, .int p1)] [] σ _
  refine X_iload_n (pc := 0) (td kX11_isPay 0 rfl) rfl 0 rfl ?_
  refine X_jn (P := fun k => X (wsOf SHC) RX11 cX11_isPay 1 (some .boolean) 1 0 14 [] [] σ k) ?_ (fun k14 h14 => ?_)
  · refine X_iconst (v := (0 : Int32)) (pc := 14) (td kX11_isPay 7 rfl) (by decide) ?_
    exact X_ret (pc := 15) (td kX11_isPay 8 rfl) rfl
  · refine X_if_lt (pc := 1) (tgt := 14) (td kX11_isPay 1 rfl) (by decide) (fun c_1 => ?_) (fun c_1 => ?_)
    · refine X_sub [] rfl ?_
      exact h14
    · refine X_iload_n (pc := 4) (td kX11_isPay 2 rfl) rfl 0 rfl ?_
      refine X_bipush (v := (9 : Int32)) (pc := 5) (td kX11_isPay 3 rfl) (by decide) ?_
      refine X_icmp_gt (pc := 7) (tgt := 14) (td kX11_isPay 4 rfl) (by decide) (fun c_7 => ?_) (fun c_7 => ?_)
      · refine X_sub [] rfl ?_
        exact h14
      · refine X_iconst (v := (1 : Int32)) (pc := 10) (td kX11_isPay 5 rfl) (by decide) ?_
        refine X_goto (pc := 11) (tgt := 15) (td kX11_isPay 6 rfl) (by decide) ?_
        exact X_ret (pc := 15) (td kX11_isPay 8 rfl) rfl
set_option maxHeartbeats 4000000 in
theorem p_X11_isPay (p1 : Int32) (σ : Mm) : Pu σ (f_X11_isPay p1 σ) := by
  unfold f_X11_isPay
  refine Pu_jn (fun k => Pu σ (k)) ?_ (fun k14 h14 => ?_)
  · exact Pu_some
  · refine Pu_if ?_ ?_
    · exact h14
    · refine Pu_if ?_ ?_
      · exact h14
      · exact Pu_some
def f_X11_isRest (p1 : Int32) (p2 : Int32) (p3 : Int32) (p4 : Int32) (σ : Mm) : Option (Int32 × Mm) := bn (p4 >>> ((1 : Int32) &&& 31)) (fun v4_3 => bn (p4 &&& (1 : Int32)) (fun v5_8 => cl (f_X11_gain p1 p2 p3 v4_3 v5_8 σ) (fun r17 _ => cl (f_X11_gain p1 p2 p3 ((1 : Int32) - v4_3) v5_8 σ) (fun r29 _ => jn (some ((0 : Int32), σ)) (fun k64 => (if r17 < r29 then k64 else cl (f_X11_gain p1 p2 p3 v5_8 v4_3 σ) (fun r42 _ => cl (f_X11_gain p1 p2 p3 ((1 : Int32) - v5_8) v4_3 σ) (fun r54 _ => (if r42 < r54 then k64 else some ((1 : Int32), σ))))))))))
set_option maxHeartbeats 4000000 in
set_option maxRecDepth 100000 in
theorem x_X11_isRest (p1 : Int32) (p2 : Int32) (p3 : Int32) (p4 : Int32) (σ : Mm) : Con (wsOf SHC) yX11_isRest cX11_isRest 6 (some .boolean) 2 [.int p1, .int p2, .int p3, .int p4] σ (f_X11_isRest p1 p2 p3 p4 σ) := by
  refine Con.of_X (by decide +kernel) (Nat.le_of_ble_eq_true rfl) ?_
  unfold f_X11_isRest
  show X (wsOf SHC) RX11 cX11_isRest 6 (some .boolean) 2 0 0 [(0, .int p1), (1, .int p2), (2, .int p3), (3, .int p4)] [] σ _
  refine X_iload_n (pc := 0) (td kX11_isRest 0 rfl) rfl 3 rfl ?_
  refine X_iconst (v := (1 : Int32)) (pc := 1) (td kX11_isRest 1 rfl) (by decide) ?_
  refine X_ishr (pc := 2) (td kX11_isRest 2 rfl) ?_
  refine X_bi (fun v4_3 => ?_)
  refine X_istore (L' := [(4, .int v4_3), (0, .int p1), (1, .int p2), (2, .int p3), (3, .int p4)]) (pc := 3) (td kX11_isRest 3 rfl) (by decide) rfl ?_
  refine X_iload_n (pc := 5) (td kX11_isRest 4 rfl) rfl 4 rfl ?_
  refine X_iconst (v := (1 : Int32)) (pc := 6) (td kX11_isRest 5 rfl) (by decide) ?_
  refine X_iand (pc := 7) (td kX11_isRest 6 rfl) ?_
  refine X_bi (fun v5_8 => ?_)
  refine X_istore (L' := [(5, .int v5_8), (4, .int v4_3), (0, .int p1), (1, .int p2), (2, .int p3), (3, .int p4)]) (pc := 8) (td kX11_isRest 7 rfl) (by decide) rfl ?_
  refine X_iload_n (pc := 10) (td kX11_isRest 8 rfl) rfl 2 rfl ?_
  refine X_iload_n (pc := 11) (td kX11_isRest 9 rfl) rfl 3 rfl ?_
  refine X_iload_n (pc := 12) (td kX11_isRest 10 rfl) rfl 4 rfl ?_
  refine X_iload (pc := 13) (td kX11_isRest 11 rfl) 1 rfl ?_
  refine X_iload (pc := 15) (td kX11_isRest 12 rfl) 0 rfl ?_
  refine X_callsip (pc := 17) (As := [.int p1, .int p2, .int p3, .int v4_3, .int v5_8]) (st := []) (p_X11_gain p1 p2 p3 v4_3 v5_8 σ) (x_X11_gain p1 p2 p3 v4_3 v5_8 σ) mkX11_gain lk_X11_322 (by omega) rfl rfl (Nat.le_of_ble_eq_true rfl) (td kX11_isRest 13 rfl) (fun r17 hr17 => ?_)
  refine X_iload_n (pc := 20) (td kX11_isRest 14 rfl) rfl 2 rfl ?_
  refine X_iload_n (pc := 21) (td kX11_isRest 15 rfl) rfl 3 rfl ?_
  refine X_iload_n (pc := 22) (td kX11_isRest 16 rfl) rfl 4 rfl ?_
  refine X_iconst (v := (1 : Int32)) (pc := 23) (td kX11_isRest 17 rfl) (by decide) ?_
  refine X_iload (pc := 24) (td kX11_isRest 18 rfl) 1 rfl ?_
  refine X_isub (pc := 26) (td kX11_isRest 19 rfl) ?_
  refine X_iload (pc := 27) (td kX11_isRest 20 rfl) 0 rfl ?_
  refine X_callsip (pc := 29) (As := [.int p1, .int p2, .int p3, .int ((1 : Int32) - v4_3), .int v5_8]) (st := [.int r17]) (p_X11_gain p1 p2 p3 ((1 : Int32) - v4_3) v5_8 σ) (x_X11_gain p1 p2 p3 ((1 : Int32) - v4_3) v5_8 σ) mkX11_gain lk_X11_322 (by omega) rfl rfl (Nat.le_of_ble_eq_true rfl) (td kX11_isRest 21 rfl) (fun r29 hr29 => ?_)
  refine X_jn (P := fun k => X (wsOf SHC) RX11 cX11_isRest 6 (some .boolean) 2 0 64 [] [] σ k) ?_ (fun k64 h64 => ?_)
  · refine X_iconst (v := (0 : Int32)) (pc := 64) (td kX11_isRest 40 rfl) (by decide) ?_
    exact X_ret (pc := 65) (td kX11_isRest 41 rfl) rfl
  · refine X_icmp_lt (pc := 32) (tgt := 64) (td kX11_isRest 22 rfl) (by decide) (fun c_32 => ?_) (fun c_32 => ?_)
    · refine X_sub [] rfl ?_
      exact h64
    · refine X_iload_n (pc := 35) (td kX11_isRest 23 rfl) rfl 2 rfl ?_
      refine X_iload_n (pc := 36) (td kX11_isRest 24 rfl) rfl 3 rfl ?_
      refine X_iload_n (pc := 37) (td kX11_isRest 25 rfl) rfl 4 rfl ?_
      refine X_iload (pc := 38) (td kX11_isRest 26 rfl) 0 rfl ?_
      refine X_iload (pc := 40) (td kX11_isRest 27 rfl) 1 rfl ?_
      refine X_callsip (pc := 42) (As := [.int p1, .int p2, .int p3, .int v5_8, .int v4_3]) (st := []) (p_X11_gain p1 p2 p3 v5_8 v4_3 σ) (x_X11_gain p1 p2 p3 v5_8 v4_3 σ) mkX11_gain lk_X11_322 (by omega) rfl rfl (Nat.le_of_ble_eq_true rfl) (td kX11_isRest 28 rfl) (fun r42 hr42 => ?_)
      refine X_iload_n (pc := 45) (td kX11_isRest 29 rfl) rfl 2 rfl ?_
      refine X_iload_n (pc := 46) (td kX11_isRest 30 rfl) rfl 3 rfl ?_
      refine X_iload_n (pc := 47) (td kX11_isRest 31 rfl) rfl 4 rfl ?_
      refine X_iconst (v := (1 : Int32)) (pc := 48) (td kX11_isRest 32 rfl) (by decide) ?_
      refine X_iload (pc := 49) (td kX11_isRest 33 rfl) 0 rfl ?_
      refine X_isub (pc := 51) (td kX11_isRest 34 rfl) ?_
      refine X_iload (pc := 52) (td kX11_isRest 35 rfl) 1 rfl ?_
      refine X_callsip (pc := 54) (As := [.int p1, .int p2, .int p3, .int ((1 : Int32) - v5_8), .int v4_3]) (st := [.int r42]) (p_X11_gain p1 p2 p3 ((1 : Int32) - v5_8) v4_3 σ) (x_X11_gain p1 p2 p3 ((1 : Int32) - v5_8) v4_3 σ) mkX11_gain lk_X11_322 (by omega) rfl rfl (Nat.le_of_ble_eq_true rfl) (td kX11_isRest 36 rfl) (fun r54 hr54 => ?_)
      refine X_icmp_lt (pc := 57) (tgt := 64) (td kX11_isRest 37 rfl) (by decide) (fun c_57 => ?_) (fun c_57 => ?_)
      · refine X_sub [] rfl ?_
        exact h64
      · refine X_iconst (v := (1 : Int32)) (pc := 60) (td kX11_isRest 38 rfl) (by decide) ?_
        refine X_goto (pc := 61) (tgt := 65) (td kX11_isRest 39 rfl) (by decide) ?_
        exact X_ret (pc := 65) (td kX11_isRest 41 rfl) rfl
set_option maxHeartbeats 4000000 in
theorem p_X11_isRest (p1 : Int32) (p2 : Int32) (p3 : Int32) (p4 : Int32) (σ : Mm) : Pu σ (f_X11_isRest p1 p2 p3 p4 σ) := by
  unfold f_X11_isRest
  refine Pu_bn (fun _ => ?_)
  refine Pu_bn (fun _ => ?_)
  refine Pu_cl (fun _ _ => ?_)
  refine Pu_cl (fun _ _ => ?_)
  refine Pu_jn (fun k => Pu σ (k)) ?_ (fun k64 h64 => ?_)
  · exact Pu_some
  · refine Pu_if ?_ ?_
    · exact h64
    · refine Pu_cl (fun _ _ => ?_)
      refine Pu_cl (fun _ _ => ?_)
      refine Pu_if ?_ ?_
      · exact h64
      · exact Pu_some
def f_X11_judged (p1 : Int32) (σ : Mm) : Option (Int32 × Mm) := jn (some ((-2 : Int32), σ)) (fun k9 => (if p1 < 0 then k9 else (if (2 : Int32) < p1 then k9 else bn (gR σ 0 7) (fun t_17 => bn (gR σ 0 9) (fun t_21 => cl (f_X0_judge t_17 t_21 p1 σ) (fun r25 σ25 => some (r25, σ25)))))))
set_option maxHeartbeats 4000000 in
set_option maxRecDepth 100000 in
theorem x_X11_judged (p1 : Int32) (σ : Mm) : Con (wsOf SHC) yX11_judged cX11_judged 2 (some .int) 7 [.ref 0, .int p1] σ (f_X11_judged p1 σ) := by
  refine Con.of_X (by decide +kernel) (Nat.le_of_ble_eq_true rfl) ?_
  unfold f_X11_judged
  show X (wsOf SHC) RX11 cX11_judged 2 (some .int) 7 0 0 [(0, .ref 0), (1, .int p1)] [] σ _
  refine X_iload_n (pc := 0) (td kX11_judged 0 rfl) rfl 1 rfl ?_
  refine X_jn (P := fun k => X (wsOf SHC) RX11 cX11_judged 2 (some .int) 7 0 9 [] [] σ k) ?_ (fun k9 h9 => ?_)
  · refine X_bipush (v := (-2 : Int32)) (pc := 9) (td kX11_judged 5 rfl) (by decide) ?_
    exact X_ret (pc := 11) (td kX11_judged 6 rfl) rfl
  · refine X_if_lt (pc := 1) (tgt := 9) (td kX11_judged 1 rfl) (by decide) (fun c_1 => ?_) (fun c_1 => ?_)
    · refine X_sub [] rfl ?_
      exact h9
    · refine X_iload_n (pc := 4) (td kX11_judged 2 rfl) rfl 1 rfl ?_
      refine X_iconst (v := (2 : Int32)) (pc := 5) (td kX11_judged 3 rfl) (by decide) ?_
      refine X_icmp_le (pc := 6) (tgt := 12) (td kX11_judged 4 rfl) (by decide) (fun c_6 => ?_) (fun c_6 => ?_)
      · refine X_aload_n (pc := 12) (td kX11_judged 7 rfl) rfl 0 rfl ?_
        refine X_getF (b := 196) (pc := 13) sC_0 rfl fk_X11_56 (td kX11_judged 8 rfl) ?_
        refine X_aload_n (pc := 16) (td kX11_judged 9 rfl) rfl 0 rfl ?_
        refine X_getR (pc := 17) sC_0 rfl fk_X11_63 (td kX11_judged 10 rfl) ?_
        refine X_br (fun t_17 => ?_)
        refine X_aload_n (pc := 20) (td kX11_judged 11 rfl) rfl 0 rfl ?_
        refine X_getR (pc := 21) sC_0 rfl fk_X11_73 (td kX11_judged 12 rfl) ?_
        refine X_br (fun t_21 => ?_)
        refine X_iload_n (pc := 24) (td kX11_judged 13 rfl) rfl 1 rfl ?_
        refine X_calli (pc := 25) (As := [.ref t_17, .ref t_21, .int p1]) (st := []) sC_196 (x_X0_judge t_17 t_21 p1 σ) mkX0_judge lk_X11_195 (by omega) rfl rfl (Nat.le_of_ble_eq_true rfl) (td kX11_judged 14 rfl) (fun r25 σ25 _ hr25 => ?_)
        exact X_ret (pc := 28) (td kX11_judged 15 rfl) rfl
      · refine X_sub [] rfl ?_
        exact h9
def f_X11_lane (p1 : Int32) (p2 : Int32) (σ : Mm) : Option (Int32 × Mm) := bn (gR σ 0 7) (fun t_1 => ck (isTown t_1) (cl (f_X9_hasLane t_1 p1 σ) (fun r5 _ => (if r5 = 0 then some ((-1 : Int32), σ) else (if p2 = (0 : Int32) then bn (gR σ 0 7) (fun t_45 => ck (isTown t_45) (ck (inb p1 8) (some ((gI σ (t_45 + 5) p1.toNatClampNeg), σ)))) else (if p2 = (1 : Int32) then bn (gR σ 0 7) (fun t_55 => ck (isTown t_55) (ck (inb p1 8) (some ((gI σ (t_55 + 6) p1.toNatClampNeg), σ)))) else (if p2 = (2 : Int32) then bn (gR σ 0 7) (fun t_65 => ck (isTown t_65) (ck (inb p1 8) (some ((gI σ (t_65 + 7) p1.toNatClampNeg), σ)))) else (if p2 = (3 : Int32) then ck (inb p1 8) (some ((gI σ 7 p1.toNatClampNeg), σ)) else some ((-1 : Int32), σ)))))))))
set_option maxHeartbeats 4000000 in
set_option maxRecDepth 100000 in
theorem x_X11_lane (p1 : Int32) (p2 : Int32) (σ : Mm) : Con (wsOf SHC) yX11_lane cX11_lane 3 (some .int) 2 [.ref 0, .int p1, .int p2] σ (f_X11_lane p1 p2 σ) := by
  refine Con.of_X (by decide +kernel) (Nat.le_of_ble_eq_true rfl) ?_
  unfold f_X11_lane
  show X (wsOf SHC) RX11 cX11_lane 3 (some .int) 2 0 0 [(0, .ref 0), (1, .int p1), (2, .int p2)] [] σ _
  refine X_aload_n (pc := 0) (td kX11_lane 0 rfl) rfl 0 rfl ?_
  refine X_getR (pc := 1) sC_0 rfl fk_X11_63 (td kX11_lane 1 rfl) ?_
  refine X_br (fun t_1 => ?_)
  refine X_iload_n (pc := 4) (td kX11_lane 2 rfl) rfl 1 rfl ?_
  refine X_ck (fun t_1_h => ?_)
  obtain ⟨t_1_s0, t_1_s1, t_1_s2, t_1_s3, t_1_s4, t_1_s5, t_1_s6, t_1_s7, t_1_s8, t_1_s9, t_1_s10, t_1_s11, t_1_s12, t_1_s13, t_1_s14⟩ := knTown t_1_h
  refine X_callip (pc := 5) (As := [.int p1]) (st := []) (p_X9_hasLane t_1 p1 σ) t_1_s0 (x_X9_hasLane t_1 p1 σ) mkX9_hasLane lk_X11_112 (by omega) rfl rfl (Nat.le_of_ble_eq_true rfl) (td kX11_lane 3 rfl) (fun r5 hr5 => ?_)
  refine X_if_ne (pc := 8) (tgt := 13) (td kX11_lane 4 rfl) (by decide) (fun c_8 => ?_) (fun c_8 => ?_)
  · refine X_iload_n (pc := 13) (td kX11_lane 7 rfl) rfl 2 rfl ?_
    refine X_sp (fun c_14_0 => ?_) (fun c_14_0 => ?_)
    · refine X_swI (pc := 14) (tgt := 44) (td kX11_lane 8 rfl) c_14_0 (by decide) (by decide) rfl (by decide) ?_
      refine X_aload_n (pc := 44) (td kX11_lane 9 rfl) rfl 0 rfl ?_
      refine X_getR (pc := 45) sC_0 rfl fk_X11_63 (td kX11_lane 10 rfl) ?_
      refine X_br (fun t_45 => ?_)
      refine X_ck (fun t_45_h => ?_)
      obtain ⟨t_45_s0, t_45_s1, t_45_s2, t_45_s3, t_45_s4, t_45_s5, t_45_s6, t_45_s7, t_45_s8, t_45_s9, t_45_s10, t_45_s11, t_45_s12, t_45_s13, t_45_s14⟩ := knTown t_45_h
      refine X_getF (b := (t_45 + 5)) (pc := 48) t_45_s0 rfl fk_X11_116 (td kX11_lane 11 rfl) ?_
      refine X_iload_n (pc := 51) (td kX11_lane 12 rfl) rfl 1 rfl ?_
      refine X_iald (pc := 52) t_45_s5 (td kX11_lane 13 rfl) ?_
      exact X_ret (pc := 53) (td kX11_lane 14 rfl) rfl
    · refine X_sp (fun c_14_1 => ?_) (fun c_14_1 => ?_)
      · refine X_swI (pc := 14) (tgt := 54) (td kX11_lane 8 rfl) c_14_1 (by decide) (by decide) rfl (by decide) ?_
        refine X_aload_n (pc := 54) (td kX11_lane 15 rfl) rfl 0 rfl ?_
        refine X_getR (pc := 55) sC_0 rfl fk_X11_63 (td kX11_lane 16 rfl) ?_
        refine X_br (fun t_55 => ?_)
        refine X_ck (fun t_55_h => ?_)
        obtain ⟨t_55_s0, t_55_s1, t_55_s2, t_55_s3, t_55_s4, t_55_s5, t_55_s6, t_55_s7, t_55_s8, t_55_s9, t_55_s10, t_55_s11, t_55_s12, t_55_s13, t_55_s14⟩ := knTown t_55_h
        refine X_getF (b := (t_55 + 6)) (pc := 58) t_55_s0 rfl fk_X11_120 (td kX11_lane 17 rfl) ?_
        refine X_iload_n (pc := 61) (td kX11_lane 18 rfl) rfl 1 rfl ?_
        refine X_iald (pc := 62) t_55_s6 (td kX11_lane 19 rfl) ?_
        exact X_ret (pc := 63) (td kX11_lane 20 rfl) rfl
      · refine X_sp (fun c_14_2 => ?_) (fun c_14_2 => ?_)
        · refine X_swI (pc := 14) (tgt := 64) (td kX11_lane 8 rfl) c_14_2 (by decide) (by decide) rfl (by decide) ?_
          refine X_aload_n (pc := 64) (td kX11_lane 21 rfl) rfl 0 rfl ?_
          refine X_getR (pc := 65) sC_0 rfl fk_X11_63 (td kX11_lane 22 rfl) ?_
          refine X_br (fun t_65 => ?_)
          refine X_ck (fun t_65_h => ?_)
          obtain ⟨t_65_s0, t_65_s1, t_65_s2, t_65_s3, t_65_s4, t_65_s5, t_65_s6, t_65_s7, t_65_s8, t_65_s9, t_65_s10, t_65_s11, t_65_s12, t_65_s13, t_65_s14⟩ := knTown t_65_h
          refine X_getF (b := (t_65 + 7)) (pc := 68) t_65_s0 rfl fk_X11_123 (td kX11_lane 23 rfl) ?_
          refine X_iload_n (pc := 71) (td kX11_lane 24 rfl) rfl 1 rfl ?_
          refine X_iald (pc := 72) t_65_s7 (td kX11_lane 25 rfl) ?_
          exact X_ret (pc := 73) (td kX11_lane 26 rfl) rfl
        · refine X_sp (fun c_14_3 => ?_) (fun c_14_3 => ?_)
          · refine X_swI (pc := 14) (tgt := 74) (td kX11_lane 8 rfl) c_14_3 (by decide) (by decide) rfl (by decide) ?_
            refine X_aload_n (pc := 74) (td kX11_lane 27 rfl) rfl 0 rfl ?_
            refine X_getF (b := 6) (pc := 75) sC_0 rfl fk_X11_28 (td kX11_lane 28 rfl) ?_
            refine X_getF (b := 7) (pc := 78) sC_6 rfl fk_X11_126 (td kX11_lane 29 rfl) ?_
            refine X_iload_n (pc := 81) (td kX11_lane 30 rfl) rfl 1 rfl ?_
            refine X_iald (pc := 82) sC_7 (td kX11_lane 31 rfl) ?_
            exact X_ret (pc := 83) (td kX11_lane 32 rfl) rfl
          · refine X_swO (pc := 14) (tgt := 84) (td kX11_lane 8 rfl) (by have z0 := tsw_ne (0) (by decide) c_14_0; have z1 := tsw_ne (1) (by decide) c_14_1; have z2 := tsw_ne (2) (by decide) c_14_2; have z3 := tsw_ne (3) (by decide) c_14_3; omega) (by decide) ?_
            refine X_iconst (v := (-1 : Int32)) (pc := 84) (td kX11_lane 33 rfl) (by decide) ?_
            exact X_ret (pc := 85) (td kX11_lane 34 rfl) rfl
  · refine X_iconst (v := (-1 : Int32)) (pc := 11) (td kX11_lane 5 rfl) (by decide) ?_
    exact X_ret (pc := 12) (td kX11_lane 6 rfl) rfl
set_option maxHeartbeats 4000000 in
theorem p_X11_lane (p1 : Int32) (p2 : Int32) (σ : Mm) : Pu σ (f_X11_lane p1 p2 σ) := by
  unfold f_X11_lane
  refine Pu_bn (fun _ => ?_)
  refine Pu_ck ?_
  refine Pu_cl (fun _ _ => ?_)
  refine Pu_if ?_ ?_
  · exact Pu_some
  · refine Pu_if ?_ ?_
    · refine Pu_bn (fun _ => ?_)
      refine Pu_ck ?_
      refine Pu_ck ?_
      exact Pu_some
    · refine Pu_if ?_ ?_
      · refine Pu_bn (fun _ => ?_)
        refine Pu_ck ?_
        refine Pu_ck ?_
        exact Pu_some
      · refine Pu_if ?_ ?_
        · refine Pu_bn (fun _ => ?_)
          refine Pu_ck ?_
          refine Pu_ck ?_
          exact Pu_some
        · refine Pu_if ?_ ?_
          · refine Pu_ck ?_
            exact Pu_some
          · exact Pu_some
def f_X11_longer (p1 : Int32) (σ : Mm) : Option (Int32 × Mm) := jn (some ((-1 : Int32), σ)) (fun k10 => (if p1 < 0 then k10 else (if (9 : Int32) < p1 then k10 else bn (gR σ 0 7) (fun t_17 => cl (f_X0_darkTimesIfLonger t_17 6 p1 σ) (fun r25 σ25 => some (r25, σ25))))))
set_option maxHeartbeats 4000000 in
set_option maxRecDepth 100000 in
theorem x_X11_longer (p1 : Int32) (σ : Mm) : Con (wsOf SHC) yX11_longer cX11_longer 2 (some .int) 7 [.ref 0, .int p1] σ (f_X11_longer p1 σ) := by
  refine Con.of_X (by decide +kernel) (Nat.le_of_ble_eq_true rfl) ?_
  unfold f_X11_longer
  show X (wsOf SHC) RX11 cX11_longer 2 (some .int) 7 0 0 [(0, .ref 0), (1, .int p1)] [] σ _
  refine X_iload_n (pc := 0) (td kX11_longer 0 rfl) rfl 1 rfl ?_
  refine X_jn (P := fun k => X (wsOf SHC) RX11 cX11_longer 2 (some .int) 7 0 10 [] [] σ k) ?_ (fun k10 h10 => ?_)
  · refine X_iconst (v := (-1 : Int32)) (pc := 10) (td kX11_longer 5 rfl) (by decide) ?_
    exact X_ret (pc := 11) (td kX11_longer 6 rfl) rfl
  · refine X_if_lt (pc := 1) (tgt := 10) (td kX11_longer 1 rfl) (by decide) (fun c_1 => ?_) (fun c_1 => ?_)
    · refine X_sub [] rfl ?_
      exact h10
    · refine X_iload_n (pc := 4) (td kX11_longer 2 rfl) rfl 1 rfl ?_
      refine X_bipush (v := (9 : Int32)) (pc := 5) (td kX11_longer 3 rfl) (by decide) ?_
      refine X_icmp_le (pc := 7) (tgt := 12) (td kX11_longer 4 rfl) (by decide) (fun c_7 => ?_) (fun c_7 => ?_)
      · refine X_aload_n (pc := 12) (td kX11_longer 7 rfl) rfl 0 rfl ?_
        refine X_getF (b := 196) (pc := 13) sC_0 rfl fk_X11_56 (td kX11_longer 8 rfl) ?_
        refine X_aload_n (pc := 16) (td kX11_longer 9 rfl) rfl 0 rfl ?_
        refine X_getR (pc := 17) sC_0 rfl fk_X11_63 (td kX11_longer 10 rfl) ?_
        refine X_br (fun t_17 => ?_)
        refine X_aload_n (pc := 20) (td kX11_longer 11 rfl) rfl 0 rfl ?_
        refine X_getF (b := 6) (pc := 21) sC_0 rfl fk_X11_28 (td kX11_longer 12 rfl) ?_
        refine X_iload_n (pc := 24) (td kX11_longer 13 rfl) rfl 1 rfl ?_
        refine X_calli (pc := 25) (As := [.ref t_17, .ref 6, .int p1]) (st := []) sC_196 (x_X0_darkTimesIfLonger t_17 6 p1 σ) mkX0_darkTimesIfLonger lk_X11_263 (by omega) rfl rfl (Nat.le_of_ble_eq_true rfl) (td kX11_longer 14 rfl) (fun r25 σ25 _ hr25 => ?_)
        exact X_ret (pc := 28) (td kX11_longer 15 rfl) rfl
      · refine X_sub [] rfl ?_
        exact h10
def f_X11_look (p1 : Int32) (σ : Mm) : Option (Int32 × Mm) := jn (some ((-1 : Int32), σ)) (fun k10 => (if p1 < 0 then k10 else (if (30 : Int32) < p1 then k10 else bn (gR σ 0 7) (fun t_17 => cl (f_X0_laneToWatch t_17 6 127 p1 σ) (fun r29 σ29 => some (r29, σ29))))))
set_option maxHeartbeats 4000000 in
set_option maxRecDepth 100000 in
theorem x_X11_look (p1 : Int32) (σ : Mm) : Con (wsOf SHC) yX11_look cX11_look 2 (some .int) 7 [.ref 0, .int p1] σ (f_X11_look p1 σ) := by
  refine Con.of_X (by decide +kernel) (Nat.le_of_ble_eq_true rfl) ?_
  unfold f_X11_look
  show X (wsOf SHC) RX11 cX11_look 2 (some .int) 7 0 0 [(0, .ref 0), (1, .int p1)] [] σ _
  refine X_iload_n (pc := 0) (td kX11_look 0 rfl) rfl 1 rfl ?_
  refine X_jn (P := fun k => X (wsOf SHC) RX11 cX11_look 2 (some .int) 7 0 10 [] [] σ k) ?_ (fun k10 h10 => ?_)
  · refine X_iconst (v := (-1 : Int32)) (pc := 10) (td kX11_look 5 rfl) (by decide) ?_
    exact X_ret (pc := 11) (td kX11_look 6 rfl) rfl
  · refine X_if_lt (pc := 1) (tgt := 10) (td kX11_look 1 rfl) (by decide) (fun c_1 => ?_) (fun c_1 => ?_)
    · refine X_sub [] rfl ?_
      exact h10
    · refine X_iload_n (pc := 4) (td kX11_look 2 rfl) rfl 1 rfl ?_
      refine X_bipush (v := (30 : Int32)) (pc := 5) (td kX11_look 3 rfl) (by decide) ?_
      refine X_icmp_le (pc := 7) (tgt := 12) (td kX11_look 4 rfl) (by decide) (fun c_7 => ?_) (fun c_7 => ?_)
      · refine X_aload_n (pc := 12) (td kX11_look 7 rfl) rfl 0 rfl ?_
        refine X_getF (b := 196) (pc := 13) sC_0 rfl fk_X11_56 (td kX11_look 8 rfl) ?_
        refine X_aload_n (pc := 16) (td kX11_look 9 rfl) rfl 0 rfl ?_
        refine X_getR (pc := 17) sC_0 rfl fk_X11_63 (td kX11_look 10 rfl) ?_
        refine X_br (fun t_17 => ?_)
        refine X_aload_n (pc := 20) (td kX11_look 11 rfl) rfl 0 rfl ?_
        refine X_getF (b := 6) (pc := 21) sC_0 rfl fk_X11_28 (td kX11_look 12 rfl) ?_
        refine X_aload_n (pc := 24) (td kX11_look 13 rfl) rfl 0 rfl ?_
        refine X_getF (b := 127) (pc := 25) sC_0 rfl fk_X11_42 (td kX11_look 14 rfl) ?_
        refine X_iload_n (pc := 28) (td kX11_look 15 rfl) rfl 1 rfl ?_
        refine X_calli (pc := 29) (As := [.ref t_17, .ref 6, .ref 127, .int p1]) (st := []) sC_196 (x_X0_laneToWatch t_17 6 127 p1 σ) mkX0_laneToWatch lk_X11_250 (by omega) rfl rfl (Nat.le_of_ble_eq_true rfl) (td kX11_look 16 rfl) (fun r29 σ29 _ hr29 => ?_)
        exact X_ret (pc := 32) (td kX11_look 17 rfl) rfl
      · refine X_sub [] rfl ?_
        exact h10
def f_X11_mark (p1 : Int32) (p2 : Int32) (σ : Mm) : Option (Int32 × Mm) := jn (some ((0 : Int32), σ)) (fun k22 => (if p1 < 0 then k22 else (if p1 < (4 : Int32) then ck (inb p1 4) (bn (markAt p1.toNatClampNeg) (fun t_18 => ck (inb p1 4) (bn (markAt p1.toNatClampNeg) (fun t_29 => (if p2 = 0 then bn (gR σ 0 9) (fun t_41 => ck (isMark t_29) (cl (f_X3_lay t_29 6 t_41 127 σ) (fun _ σ48 => some ((1 : Int32), σ48)))) else ck (isMark t_29) ((if (gI σ t_29 0) = 0 then some ((0 : Int32), σ) else cl (f_X4_copyFrom 6 (t_29 + 1) σ) (fun _ σ70 => bn (gR σ70 0 9) (fun t_74 => ck (isLines t_74) (cl (f_X2_copyFrom t_74 (t_29 + 8) σ70) (fun _ σ81 => cl (f_X10_copyFrom 127 (t_29 + 12) σ81) (fun _ σ92 => cl (f_X5_forget σ92) (fun _ σ99 => cl (f_X0_forget σ99) (fun _ σ106 => some ((1 : Int32), σ106))))))))))))))) else k22)))
set_option maxHeartbeats 4000000 in
set_option maxRecDepth 100000 in
theorem x_X11_mark (p1 : Int32) (p2 : Int32) (σ : Mm) : Con (wsOf SHC) yX11_mark cX11_mark 4 (some .boolean) 3 [.ref 0, .int p1, .int p2] σ (f_X11_mark p1 p2 σ) := by
  refine Con.of_X (by decide +kernel) (Nat.le_of_ble_eq_true rfl) ?_
  unfold f_X11_mark
  show X (wsOf SHC) RX11 cX11_mark 4 (some .boolean) 3 0 0 [(0, .ref 0), (1, .int p1), (2, .int p2)] [] σ _
  refine X_iload_n (pc := 0) (td kX11_mark 0 rfl) rfl 1 rfl ?_
  refine X_jn (P := fun k => X (wsOf SHC) RX11 cX11_mark 4 (some .boolean) 3 0 22 [] [] σ k) ?_ (fun k22 h22 => ?_)
  · refine X_iconst (v := (0 : Int32)) (pc := 22) (td kX11_mark 12 rfl) (by decide) ?_
    exact X_ret (pc := 23) (td kX11_mark 13 rfl) rfl
  · refine X_if_lt (pc := 1) (tgt := 22) (td kX11_mark 1 rfl) (by decide) (fun c_1 => ?_) (fun c_1 => ?_)
    · refine X_sub [] rfl ?_
      exact h22
    · refine X_iload_n (pc := 4) (td kX11_mark 2 rfl) rfl 1 rfl ?_
      refine X_aload_n (pc := 5) (td kX11_mark 3 rfl) rfl 0 rfl ?_
      refine X_getF (b := 131) (pc := 6) sC_0 rfl fk_X11_48 (td kX11_mark 4 rfl) ?_
      refine X_alen (v := (4 : Int32)) (pc := 9) 6 (fun _ => rfl) sC_131 (fun _ => rfl) (td kX11_mark 5 rfl) ?_
      refine X_icmp_ge (pc := 10) (tgt := 22) (td kX11_mark 6 rfl) (by decide) (fun c_10 => ?_) (fun c_10 => ?_)
      · refine X_sub [] rfl ?_
        exact h22
      · refine X_aload_n (pc := 13) (td kX11_mark 7 rfl) rfl 0 rfl ?_
        refine X_getF (b := 131) (pc := 14) sC_0 rfl fk_X11_48 (td kX11_mark 8 rfl) ?_
        refine X_iload_n (pc := 17) (td kX11_mark 9 rfl) rfl 1 rfl ?_
        refine X_aald (pc := 18) 6 (fun _ => rfl) sC_131 (td kX11_mark 10 rfl) ?_
        refine X_br (fun t_18 => ?_)
        refine X_ifnonnull (pc := 19) (tgt := 24) (td kX11_mark 11 rfl) (by decide) ?_
        refine X_aload_n (pc := 24) (td kX11_mark 14 rfl) rfl 0 rfl ?_
        refine X_getF (b := 131) (pc := 25) sC_0 rfl fk_X11_48 (td kX11_mark 15 rfl) ?_
        refine X_iload_n (pc := 28) (td kX11_mark 16 rfl) rfl 1 rfl ?_
        refine X_aald (pc := 29) 6 (fun _ => rfl) sC_131 (td kX11_mark 17 rfl) ?_
        refine X_br (fun t_29 => ?_)
        refine X_astore_n (L' := [(3, .ref t_29), (0, .ref 0), (1, .int p1), (2, .int p2)]) (pc := 30) (td kX11_mark 18 rfl) rfl (by decide) rfl ?_
        refine X_iload_n (pc := 31) (td kX11_mark 19 rfl) rfl 3 rfl ?_
        refine X_if_ne (pc := 32) (tgt := 53) (td kX11_mark 20 rfl) (by decide) (fun c_32 => ?_) (fun c_32 => ?_)
        · refine X_aload_n (pc := 53) (td kX11_mark 31 rfl) rfl 0 rfl ?_
          refine X_ck (fun t_29_h => ?_)
          obtain ⟨t_29_s0, t_29_s1, t_29_s2, t_29_s3, t_29_s4, t_29_s5, t_29_s6, t_29_s7, t_29_s8, t_29_s9, t_29_s10, t_29_s11, t_29_s12, t_29_s13, t_29_s14, t_29_s15⟩ := knMark t_29_h
          refine X_getI (pc := 54) t_29_s0 rfl fk_X11_104 (td kX11_mark 32 rfl) ?_
          refine X_if_ne (pc := 57) (tgt := 62) (td kX11_mark 33 rfl) (by decide) (fun c_57 => ?_) (fun c_57 => ?_)
          · refine X_aload_n (pc := 62) (td kX11_mark 36 rfl) rfl 1 rfl ?_
            refine X_getF (b := 6) (pc := 63) sC_0 rfl fk_X11_28 (td kX11_mark 37 rfl) ?_
            refine X_aload_n (pc := 66) (td kX11_mark 38 rfl) rfl 0 rfl ?_
            refine X_getF (b := (t_29 + 1)) (pc := 67) t_29_s0 rfl fk_X11_285 (td kX11_mark 39 rfl) ?_
            refine X_callv (pc := 70) (As := [.ref (t_29 + 1)]) (st := []) sC_6 (x_X4_copyFrom 6 (t_29 + 1) σ) mkX4_copyFrom lk_X11_288 (by omega) rfl rfl (Nat.le_of_ble_eq_true rfl) (td kX11_mark 40 rfl) (fun _ σ70 _ => ?_)
            refine X_aload_n (pc := 73) (td kX11_mark 41 rfl) rfl 1 rfl ?_
            refine X_getR (pc := 74) sC_0 rfl fk_X11_73 (td kX11_mark 42 rfl) ?_
            refine X_br (fun t_74 => ?_)
            refine X_aload_n (pc := 77) (td kX11_mark 43 rfl) rfl 0 rfl ?_
            refine X_getF (b := (t_29 + 8)) (pc := 78) t_29_s0 rfl fk_X11_292 (td kX11_mark 44 rfl) ?_
            refine X_ck (fun t_74_h => ?_)
            obtain ⟨t_74_s0, t_74_s1, t_74_s2, t_74_s3⟩ := knLines t_74_h
            refine X_callv (pc := 81) (As := [.ref (t_29 + 8)]) (st := []) t_74_s0 (x_X2_copyFrom t_74 (t_29 + 8) σ70) mkX2_copyFrom lk_X11_293 (by omega) rfl rfl (Nat.le_of_ble_eq_true rfl) (td kX11_mark 45 rfl) (fun _ σ81 _ => ?_)
            refine X_aload_n (pc := 84) (td kX11_mark 46 rfl) rfl 1 rfl ?_
            refine X_getF (b := 127) (pc := 85) sC_0 rfl fk_X11_42 (td kX11_mark 47 rfl) ?_
            refine X_aload_n (pc := 88) (td kX11_mark 48 rfl) rfl 0 rfl ?_
            refine X_getF (b := (t_29 + 12)) (pc := 89) t_29_s0 rfl fk_X11_296 (td kX11_mark 49 rfl) ?_
            refine X_callv (pc := 92) (As := [.ref (t_29 + 12)]) (st := []) sC_127 (x_X10_copyFrom 127 (t_29 + 12) σ81) mkX10_copyFrom lk_X11_297 (by omega) rfl rfl (Nat.le_of_ble_eq_true rfl) (td kX11_mark 50 rfl) (fun _ σ92 _ => ?_)
            refine X_aload_n (pc := 95) (td kX11_mark 51 rfl) rfl 1 rfl ?_
            refine X_getF (b := 13) (pc := 96) sC_0 rfl fk_X11_35 (td kX11_mark 52 rfl) ?_
            refine X_callv (pc := 99) (As := []) (st := []) sC_13 (x_X5_forget σ92) mkX5_forget lk_X11_100 (by omega) rfl rfl (Nat.le_of_ble_eq_true rfl) (td kX11_mark 53 rfl) (fun _ σ99 _ => ?_)
            refine X_aload_n (pc := 102) (td kX11_mark 54 rfl) rfl 1 rfl ?_
            refine X_getF (b := 196) (pc := 103) sC_0 rfl fk_X11_56 (td kX11_mark 55 rfl) ?_
            refine X_callv (pc := 106) (As := []) (st := []) sC_196 (x_X0_forget σ99) mkX0_forget lk_X11_103 (by omega) rfl rfl (Nat.le_of_ble_eq_true rfl) (td kX11_mark 56 rfl) (fun _ σ106 _ => ?_)
            refine X_iconst (v := (1 : Int32)) (pc := 109) (td kX11_mark 57 rfl) (by decide) ?_
            exact X_ret (pc := 110) (td kX11_mark 58 rfl) rfl
          · refine X_iconst (v := (0 : Int32)) (pc := 60) (td kX11_mark 34 rfl) (by decide) ?_
            exact X_ret (pc := 61) (td kX11_mark 35 rfl) rfl
        · refine X_aload_n (pc := 35) (td kX11_mark 21 rfl) rfl 0 rfl ?_
          refine X_aload_n (pc := 36) (td kX11_mark 22 rfl) rfl 1 rfl ?_
          refine X_getF (b := 6) (pc := 37) sC_0 rfl fk_X11_28 (td kX11_mark 23 rfl) ?_
          refine X_aload_n (pc := 40) (td kX11_mark 24 rfl) rfl 1 rfl ?_
          refine X_getR (pc := 41) sC_0 rfl fk_X11_73 (td kX11_mark 25 rfl) ?_
          refine X_br (fun t_41 => ?_)
          refine X_aload_n (pc := 44) (td kX11_mark 26 rfl) rfl 1 rfl ?_
          refine X_getF (b := 127) (pc := 45) sC_0 rfl fk_X11_42 (td kX11_mark 27 rfl) ?_
          refine X_ck (fun t_29_h => ?_)
          obtain ⟨t_29_s0, t_29_s1, t_29_s2, t_29_s3, t_29_s4, t_29_s5, t_29_s6, t_29_s7, t_29_s8, t_29_s9, t_29_s10, t_29_s11, t_29_s12, t_29_s13, t_29_s14, t_29_s15⟩ := knMark t_29_h
          refine X_callv (pc := 48) (As := [.ref 6, .ref t_41, .ref 127]) (st := []) t_29_s0 (x_X3_lay t_29 6 t_41 127 σ) mkX3_lay lk_X11_281 (by omega) rfl rfl (Nat.le_of_ble_eq_true rfl) (td kX11_mark 28 rfl) (fun _ σ48 _ => ?_)
          refine X_iconst (v := (1 : Int32)) (pc := 51) (td kX11_mark 29 rfl) (by decide) ?_
          exact X_ret (pc := 52) (td kX11_mark 30 rfl) rfl
def f_X11_meet (p1 : Int32) (p2 : Int32) (σ : Mm) : Option (Int32 × Mm) := jn (some ((-1 : Int32), σ)) (fun k27 => (if p1 = p2 then k27 else bn (gR σ 0 7) (fun t_6 => ck (isTown t_6) (cl (f_X9_hasWalker t_6 p1 σ) (fun r10 _ => (if r10 = 0 then k27 else bn (gR σ 0 7) (fun t_17 => ck (isTown t_17) (cl (f_X9_hasWalker t_17 p2 σ) (fun r21 _ => (if r21 = 0 then k27 else bn (gR σ 0 7) (fun t_34 => cl (f_X0_minutesTillMet t_34 6 p1 p2 σ) (fun r43 σ43 => some (r43, σ43)))))))))))))
set_option maxHeartbeats 4000000 in
set_option maxRecDepth 100000 in
theorem x_X11_meet (p1 : Int32) (p2 : Int32) (σ : Mm) : Con (wsOf SHC) yX11_meet cX11_meet 3 (some .int) 6 [.ref 0, .int p1, .int p2] σ (f_X11_meet p1 p2 σ) := by
  refine Con.of_X (by decide +kernel) (Nat.le_of_ble_eq_true rfl) ?_
  unfold f_X11_meet
  show X (wsOf SHC) RX11 cX11_meet 3 (some .int) 6 0 0 [(0, .ref 0), (1, .int p1), (2, .int p2)] [] σ _
  refine X_iload_n (pc := 0) (td kX11_meet 0 rfl) rfl 1 rfl ?_
  refine X_iload_n (pc := 1) (td kX11_meet 1 rfl) rfl 2 rfl ?_
  refine X_jn (P := fun k => X (wsOf SHC) RX11 cX11_meet 3 (some .int) 6 0 27 [] [] σ k) ?_ (fun k27 h27 => ?_)
  · refine X_iconst (v := (-1 : Int32)) (pc := 27) (td kX11_meet 13 rfl) (by decide) ?_
    exact X_ret (pc := 28) (td kX11_meet 14 rfl) rfl
  · refine X_icmp_eq (pc := 2) (tgt := 27) (td kX11_meet 2 rfl) (by decide) (fun c_2 => ?_) (fun c_2 => ?_)
    · refine X_sub [] rfl ?_
      exact h27
    · refine X_aload_n (pc := 5) (td kX11_meet 3 rfl) rfl 0 rfl ?_
      refine X_getR (pc := 6) sC_0 rfl fk_X11_63 (td kX11_meet 4 rfl) ?_
      refine X_br (fun t_6 => ?_)
      refine X_iload_n (pc := 9) (td kX11_meet 5 rfl) rfl 1 rfl ?_
      refine X_ck (fun t_6_h => ?_)
      obtain ⟨t_6_s0, t_6_s1, t_6_s2, t_6_s3, t_6_s4, t_6_s5, t_6_s6, t_6_s7, t_6_s8, t_6_s9, t_6_s10, t_6_s11, t_6_s12, t_6_s13, t_6_s14⟩ := knTown t_6_h
      refine X_callip (pc := 10) (As := [.int p1]) (st := []) (p_X9_hasWalker t_6 p1 σ) t_6_s0 (x_X9_hasWalker t_6 p1 σ) mkX9_hasWalker lk_X11_129 (by omega) rfl rfl (Nat.le_of_ble_eq_true rfl) (td kX11_meet 6 rfl) (fun r10 hr10 => ?_)
      refine X_if_eq (pc := 13) (tgt := 27) (td kX11_meet 7 rfl) (by decide) (fun c_13 => ?_) (fun c_13 => ?_)
      · refine X_sub [] rfl ?_
        exact h27
      · refine X_aload_n (pc := 16) (td kX11_meet 8 rfl) rfl 0 rfl ?_
        refine X_getR (pc := 17) sC_0 rfl fk_X11_63 (td kX11_meet 9 rfl) ?_
        refine X_br (fun t_17 => ?_)
        refine X_iload_n (pc := 20) (td kX11_meet 10 rfl) rfl 2 rfl ?_
        refine X_ck (fun t_17_h => ?_)
        obtain ⟨t_17_s0, t_17_s1, t_17_s2, t_17_s3, t_17_s4, t_17_s5, t_17_s6, t_17_s7, t_17_s8, t_17_s9, t_17_s10, t_17_s11, t_17_s12, t_17_s13, t_17_s14⟩ := knTown t_17_h
        refine X_callip (pc := 21) (As := [.int p2]) (st := []) (p_X9_hasWalker t_17 p2 σ) t_17_s0 (x_X9_hasWalker t_17 p2 σ) mkX9_hasWalker lk_X11_129 (by omega) rfl rfl (Nat.le_of_ble_eq_true rfl) (td kX11_meet 11 rfl) (fun r21 hr21 => ?_)
        refine X_if_ne (pc := 24) (tgt := 29) (td kX11_meet 12 rfl) (by decide) (fun c_24 => ?_) (fun c_24 => ?_)
        · refine X_aload_n (pc := 29) (td kX11_meet 15 rfl) rfl 0 rfl ?_
          refine X_getF (b := 196) (pc := 30) sC_0 rfl fk_X11_56 (td kX11_meet 16 rfl) ?_
          refine X_aload_n (pc := 33) (td kX11_meet 17 rfl) rfl 0 rfl ?_
          refine X_getR (pc := 34) sC_0 rfl fk_X11_63 (td kX11_meet 18 rfl) ?_
          refine X_br (fun t_34 => ?_)
          refine X_aload_n (pc := 37) (td kX11_meet 19 rfl) rfl 0 rfl ?_
          refine X_getF (b := 6) (pc := 38) sC_0 rfl fk_X11_28 (td kX11_meet 20 rfl) ?_
          refine X_iload_n (pc := 41) (td kX11_meet 21 rfl) rfl 1 rfl ?_
          refine X_iload_n (pc := 42) (td kX11_meet 22 rfl) rfl 2 rfl ?_
          refine X_calli (pc := 43) (As := [.ref t_34, .ref 6, .int p1, .int p2]) (st := []) sC_196 (x_X0_minutesTillMet t_34 6 p1 p2 σ) mkX0_minutesTillMet lk_X11_236 (by omega) rfl rfl (Nat.le_of_ble_eq_true rfl) (td kX11_meet 23 rfl) (fun r43 σ43 _ hr43 => ?_)
          exact X_ret (pc := 46) (td kX11_meet 24 rfl) rfl
        · refine X_sub [] rfl ?_
          exact h27
def f_X11_minute (σ : Mm) : Option (Int32 × Mm) := cl (f_X11_keepPast σ) (fun _ σ1 => bn (gR σ1 0 7) (fun t_9 => cl (f_X4_pass 6 t_9 (0 : Int32) σ1) (fun _ σ13 => cl (f_J6_bitCount_0f7a4 (gI σ13 6 9) σ13) (fun r23 _ => some (r23, σ13)))))
set_option maxHeartbeats 4000000 in
set_option maxRecDepth 100000 in
theorem x_X11_minute (σ : Mm) : Con (wsOf SHC) yX11_minute cX11_minute 1 (some .int) 5 [.ref 0] σ (f_X11_minute σ) := by
  refine Con.of_X (by decide +kernel) (Nat.le_of_ble_eq_true rfl) ?_
  unfold f_X11_minute
  show X (wsOf SHC) RX11 cX11_minute 1 (some .int) 5 0 0 [(0, .ref 0)] [] σ _
  refine X_aload_n (pc := 0) (td kX11_minute 0 rfl) rfl 0 rfl ?_
  refine X_callv (pc := 1) (As := []) (st := []) sC_0 (x_X11_keepPast σ) mkX11_keepPast lk_X11_159 (by omega) rfl rfl (Nat.le_of_ble_eq_true rfl) (td kX11_minute 1 rfl) (fun _ σ1 _ => ?_)
  refine X_aload_n (pc := 4) (td kX11_minute 2 rfl) rfl 0 rfl ?_
  refine X_getF (b := 6) (pc := 5) sC_0 rfl fk_X11_28 (td kX11_minute 3 rfl) ?_
  refine X_aload_n (pc := 8) (td kX11_minute 4 rfl) rfl 0 rfl ?_
  refine X_getR (pc := 9) sC_0 rfl fk_X11_63 (td kX11_minute 5 rfl) ?_
  refine X_br (fun t_9 => ?_)
  refine X_iconst (v := (0 : Int32)) (pc := 12) (td kX11_minute 6 rfl) (by decide) ?_
  refine X_callv (pc := 13) (As := [.ref t_9, .int (0 : Int32)]) (st := []) sC_6 (x_X4_pass 6 t_9 (0 : Int32) σ1) mkX4_pass lk_X11_162 (by omega) rfl rfl (Nat.le_of_ble_eq_true rfl) (td kX11_minute 7 rfl) (fun _ σ13 _ => ?_)
  refine X_aload_n (pc := 16) (td kX11_minute 8 rfl) rfl 0 rfl ?_
  refine X_getF (b := 6) (pc := 17) sC_0 rfl fk_X11_28 (td kX11_minute 9 rfl) ?_
  refine X_getI (pc := 20) sC_6 rfl fk_X11_166 (td kX11_minute 10 rfl) ?_
  refine X_callsip (pc := 23) (As := [.int (gI σ13 6 9)]) (st := []) (p_J6_bitCount_0f7a4 (gI σ13 6 9) σ13) (x_J6_bitCount_0f7a4 (gI σ13 6 9) σ13) mkJ6_bitCount_0f7a4 lk_X11_169 (by omega) rfl rfl (Nat.le_of_ble_eq_true rfl) (td kX11_minute 11 rfl) (fun r23 hr23 => ?_)
  exact X_ret (pc := 26) (td kX11_minute 12 rfl) rfl
def f_X11_next (p1 : Int32) (σ : Mm) : Option (Int32 × Mm) := bn (gR σ 0 7) (fun t_1 => ck (isTown t_1) (cl (f_X9_hasWalker t_1 p1 σ) (fun r5 _ => (if r5 = 0 then some ((-1 : Int32), σ) else bn (gR σ 0 7) (fun t_16 => cl (f_X4_laneAhead 6 t_16 p1 σ) (fun r20 _ => some (r20, σ)))))))
set_option maxHeartbeats 4000000 in
set_option maxRecDepth 100000 in
theorem x_X11_next (p1 : Int32) (σ : Mm) : Con (wsOf SHC) yX11_next cX11_next 2 (some .int) 3 [.ref 0, .int p1] σ (f_X11_next p1 σ) := by
  refine Con.of_X (by decide +kernel) (Nat.le_of_ble_eq_true rfl) ?_
  unfold f_X11_next
  show X (wsOf SHC) RX11 cX11_next 2 (some .int) 3 0 0 [(0, .ref 0), (1, .int p1)] [] σ _
  refine X_aload_n (pc := 0) (td kX11_next 0 rfl) rfl 0 rfl ?_
  refine X_getR (pc := 1) sC_0 rfl fk_X11_63 (td kX11_next 1 rfl) ?_
  refine X_br (fun t_1 => ?_)
  refine X_iload_n (pc := 4) (td kX11_next 2 rfl) rfl 1 rfl ?_
  refine X_ck (fun t_1_h => ?_)
  obtain ⟨t_1_s0, t_1_s1, t_1_s2, t_1_s3, t_1_s4, t_1_s5, t_1_s6, t_1_s7, t_1_s8, t_1_s9, t_1_s10, t_1_s11, t_1_s12, t_1_s13, t_1_s14⟩ := knTown t_1_h
  refine X_callip (pc := 5) (As := [.int p1]) (st := []) (p_X9_hasWalker t_1 p1 σ) t_1_s0 (x_X9_hasWalker t_1 p1 σ) mkX9_hasWalker lk_X11_129 (by omega) rfl rfl (Nat.le_of_ble_eq_true rfl) (td kX11_next 3 rfl) (fun r5 hr5 => ?_)
  refine X_if_eq (pc := 8) (tgt := 26) (td kX11_next 4 rfl) (by decide) (fun c_8 => ?_) (fun c_8 => ?_)
  · refine X_iconst (v := (-1 : Int32)) (pc := 26) (td kX11_next 12 rfl) (by decide) ?_
    exact X_ret (pc := 27) (td kX11_next 13 rfl) rfl
  · refine X_aload_n (pc := 11) (td kX11_next 5 rfl) rfl 0 rfl ?_
    refine X_getF (b := 6) (pc := 12) sC_0 rfl fk_X11_28 (td kX11_next 6 rfl) ?_
    refine X_aload_n (pc := 15) (td kX11_next 7 rfl) rfl 0 rfl ?_
    refine X_getR (pc := 16) sC_0 rfl fk_X11_63 (td kX11_next 8 rfl) ?_
    refine X_br (fun t_16 => ?_)
    refine X_iload_n (pc := 19) (td kX11_next 9 rfl) rfl 1 rfl ?_
    refine X_callip (pc := 20) (As := [.ref t_16, .int p1]) (st := []) (p_X4_laneAhead 6 t_16 p1 σ) sC_6 (x_X4_laneAhead 6 t_16 p1 σ) mkX4_laneAhead lk_X11_156 (by omega) rfl rfl (Nat.le_of_ble_eq_true rfl) (td kX11_next 10 rfl) (fun r20 hr20 => ?_)
    refine X_goto (pc := 23) (tgt := 27) (td kX11_next 11 rfl) (by decide) ?_
    exact X_ret (pc := 27) (td kX11_next 13 rfl) rfl
set_option maxHeartbeats 4000000 in
theorem p_X11_next (p1 : Int32) (σ : Mm) : Pu σ (f_X11_next p1 σ) := by
  unfold f_X11_next
  refine Pu_bn (fun _ => ?_)
  refine Pu_ck ?_
  refine Pu_cl (fun _ _ => ?_)
  refine Pu_if ?_ ?_
  · exact Pu_some
  · refine Pu_bn (fun _ => ?_)
    refine Pu_cl (fun _ _ => ?_)
    exact Pu_some
def f_X11_nights (p1 : Int32) (p2 : Int32) (p3 : Int32) (σ : Mm) : Option (Int32 × Mm) := jn (some ((-1 : Int32), σ)) (fun k31 => (if p1 < 0 then k31 else (if (9999 : Int32) < p1 then k31 else (if p2 < (1 : Int32) then k31 else (if (20 : Int32) < p2 then k31 else (if p3 < 0 then k31 else (if (2 : Int32) < p3 then k31 else bn (gR σ 0 7) (fun t_38 => cl (f_X0_drawnNights t_38 p1 p2 p3 σ) (fun r44 σ44 => some (r44, σ44))))))))))
set_option maxHeartbeats 4000000 in
set_option maxRecDepth 100000 in
theorem x_X11_nights (p1 : Int32) (p2 : Int32) (p3 : Int32) (σ : Mm) : Con (wsOf SHC) yX11_nights cX11_nights 4 (some .int) 7 [.ref 0, .int p1, .int p2, .int p3] σ (f_X11_nights p1 p2 p3 σ) := by
  refine Con.of_X (by decide +kernel) (Nat.le_of_ble_eq_true rfl) ?_
  unfold f_X11_nights
  show X (wsOf SHC) RX11 cX11_nights 4 (some .int) 7 0 0 [(0, .ref 0), (1, .int p1), (2, .int p2), (3, .int p3)] [] σ _
  refine X_iload_n (pc := 0) (td kX11_nights 0 rfl) rfl 1 rfl ?_
  refine X_jn (P := fun k => X (wsOf SHC) RX11 cX11_nights 4 (some .int) 7 0 31 [] [] σ k) ?_ (fun k31 h31 => ?_)
  · refine X_iconst (v := (-1 : Int32)) (pc := 31) (td kX11_nights 16 rfl) (by decide) ?_
    exact X_ret (pc := 32) (td kX11_nights 17 rfl) rfl
  · refine X_if_lt (pc := 1) (tgt := 31) (td kX11_nights 1 rfl) (by decide) (fun c_1 => ?_) (fun c_1 => ?_)
    · refine X_sub [] rfl ?_
      exact h31
    · refine X_iload_n (pc := 4) (td kX11_nights 2 rfl) rfl 1 rfl ?_
      refine X_sipush (v := (9999 : Int32)) (pc := 5) (td kX11_nights 3 rfl) (by decide) ?_
      refine X_icmp_gt (pc := 8) (tgt := 31) (td kX11_nights 4 rfl) (by decide) (fun c_8 => ?_) (fun c_8 => ?_)
      · refine X_sub [] rfl ?_
        exact h31
      · refine X_iload_n (pc := 11) (td kX11_nights 5 rfl) rfl 2 rfl ?_
        refine X_iconst (v := (1 : Int32)) (pc := 12) (td kX11_nights 6 rfl) (by decide) ?_
        refine X_icmp_lt (pc := 13) (tgt := 31) (td kX11_nights 7 rfl) (by decide) (fun c_13 => ?_) (fun c_13 => ?_)
        · refine X_sub [] rfl ?_
          exact h31
        · refine X_iload_n (pc := 16) (td kX11_nights 8 rfl) rfl 2 rfl ?_
          refine X_bipush (v := (20 : Int32)) (pc := 17) (td kX11_nights 9 rfl) (by decide) ?_
          refine X_icmp_gt (pc := 19) (tgt := 31) (td kX11_nights 10 rfl) (by decide) (fun c_19 => ?_) (fun c_19 => ?_)
          · refine X_sub [] rfl ?_
            exact h31
          · refine X_iload_n (pc := 22) (td kX11_nights 11 rfl) rfl 3 rfl ?_
            refine X_if_lt (pc := 23) (tgt := 31) (td kX11_nights 12 rfl) (by decide) (fun c_23 => ?_) (fun c_23 => ?_)
            · refine X_sub [] rfl ?_
              exact h31
            · refine X_iload_n (pc := 26) (td kX11_nights 13 rfl) rfl 3 rfl ?_
              refine X_iconst (v := (2 : Int32)) (pc := 27) (td kX11_nights 14 rfl) (by decide) ?_
              refine X_icmp_le (pc := 28) (tgt := 33) (td kX11_nights 15 rfl) (by decide) (fun c_28 => ?_) (fun c_28 => ?_)
              · refine X_aload_n (pc := 33) (td kX11_nights 18 rfl) rfl 0 rfl ?_
                refine X_getF (b := 196) (pc := 34) sC_0 rfl fk_X11_56 (td kX11_nights 19 rfl) ?_
                refine X_aload_n (pc := 37) (td kX11_nights 20 rfl) rfl 0 rfl ?_
                refine X_getR (pc := 38) sC_0 rfl fk_X11_63 (td kX11_nights 21 rfl) ?_
                refine X_br (fun t_38 => ?_)
                refine X_iload_n (pc := 41) (td kX11_nights 22 rfl) rfl 1 rfl ?_
                refine X_iload_n (pc := 42) (td kX11_nights 23 rfl) rfl 2 rfl ?_
                refine X_iload_n (pc := 43) (td kX11_nights 24 rfl) rfl 3 rfl ?_
                refine X_calli (pc := 44) (As := [.ref t_38, .int p1, .int p2, .int p3]) (st := []) sC_196 (x_X0_drawnNights t_38 p1 p2 p3 σ) mkX0_drawnNights lk_X11_277 (by omega) rfl rfl (Nat.le_of_ble_eq_true rfl) (td kX11_nights 25 rfl) (fun r44 σ44 _ hr44 => ?_)
                exact X_ret (pc := 47) (td kX11_nights 26 rfl) rfl
              · refine X_sub [] rfl ?_
                exact h31
def f_X11_oil (σ : Mm) : Option (Int32 × Mm) := bn (gR σ 0 7) (fun t_5 => cl (f_X0_oilWithout t_5 6 (-1 : Int32) σ) (fun r13 σ13 => some (r13, σ13)))
set_option maxHeartbeats 4000000 in
set_option maxRecDepth 100000 in
theorem x_X11_oil (σ : Mm) : Con (wsOf SHC) yX11_oil cX11_oil 1 (some .int) 7 [.ref 0] σ (f_X11_oil σ) := by
  refine Con.of_X (by decide +kernel) (Nat.le_of_ble_eq_true rfl) ?_
  unfold f_X11_oil
  show X (wsOf SHC) RX11 cX11_oil 1 (some .int) 7 0 0 [(0, .ref 0)] [] σ _
  refine X_aload_n (pc := 0) (td kX11_oil 0 rfl) rfl 0 rfl ?_
  refine X_getF (b := 196) (pc := 1) sC_0 rfl fk_X11_56 (td kX11_oil 1 rfl) ?_
  refine X_aload_n (pc := 4) (td kX11_oil 2 rfl) rfl 0 rfl ?_
  refine X_getR (pc := 5) sC_0 rfl fk_X11_63 (td kX11_oil 3 rfl) ?_
  refine X_br (fun t_5 => ?_)
  refine X_aload_n (pc := 8) (td kX11_oil 4 rfl) rfl 0 rfl ?_
  refine X_getF (b := 6) (pc := 9) sC_0 rfl fk_X11_28 (td kX11_oil 5 rfl) ?_
  refine X_iconst (v := (-1 : Int32)) (pc := 12) (td kX11_oil 6 rfl) (by decide) ?_
  refine X_calli (pc := 13) (As := [.ref t_5, .ref 6, .int (-1 : Int32)]) (st := []) sC_196 (x_X0_oilWithout t_5 6 (-1 : Int32) σ) mkX0_oilWithout lk_X11_253 (by omega) rfl rfl (Nat.le_of_ble_eq_true rfl) (td kX11_oil 7 rfl) (fun r13 σ13 _ hr13 => ?_)
  exact X_ret (pc := 16) (td kX11_oil 8 rfl) rfl
def f_X11_send (p1 : Int32) (p2 : Int32) (σ : Mm) : Option (Int32 × Mm) := bn (gR σ 0 7) (fun t_1 => ck (isTown t_1) (cl (f_X9_laneBetween t_1 p1 p2 σ) (fun r6 _ => bn (gR σ 0 7) (fun t_11 => ck (isTown t_11) (cl (f_X9_hasLane t_11 r6 σ) (fun r15 _ => (if r15 = 0 then some ((-1 : Int32), σ) else cl (f_X11_keepPast σ) (fun _ σ24 => bn (gR σ24 0 7) (fun t_32 => cl (f_X4_sendBoy 6 t_32 r6 σ24) (fun _ σ36 => ck (inb r6 8) (some ((gI σ36 7 r6.toNatClampNeg), σ36))))))))))))
set_option maxHeartbeats 4000000 in
set_option maxRecDepth 100000 in
theorem x_X11_send (p1 : Int32) (p2 : Int32) (σ : Mm) : Con (wsOf SHC) yX11_send cX11_send 4 (some .int) 5 [.ref 0, .int p1, .int p2] σ (f_X11_send p1 p2 σ) := by
  refine Con.of_X (by decide +kernel) (Nat.le_of_ble_eq_true rfl) ?_
  unfold f_X11_send
  show X (wsOf SHC) RX11 cX11_send 4 (some .int) 5 0 0 [(0, .ref 0), (1, .int p1), (2, .int p2)] [] σ _
  refine X_aload_n (pc := 0) (td kX11_send 0 rfl) rfl 0 rfl ?_
  refine X_getR (pc := 1) sC_0 rfl fk_X11_63 (td kX11_send 1 rfl) ?_
  refine X_br (fun t_1 => ?_)
  refine X_iload_n (pc := 4) (td kX11_send 2 rfl) rfl 1 rfl ?_
  refine X_iload_n (pc := 5) (td kX11_send 3 rfl) rfl 2 rfl ?_
  refine X_ck (fun t_1_h => ?_)
  obtain ⟨t_1_s0, t_1_s1, t_1_s2, t_1_s3, t_1_s4, t_1_s5, t_1_s6, t_1_s7, t_1_s8, t_1_s9, t_1_s10, t_1_s11, t_1_s12, t_1_s13, t_1_s14⟩ := knTown t_1_h
  refine X_callip (pc := 6) (As := [.int p1, .int p2]) (st := []) (p_X9_laneBetween t_1 p1 p2 σ) t_1_s0 (x_X9_laneBetween t_1 p1 p2 σ) mkX9_laneBetween lk_X11_175 (by omega) rfl rfl (Nat.le_of_ble_eq_true rfl) (td kX11_send 4 rfl) (fun r6 hr6 => ?_)
  refine X_istore_n (L' := [(3, .int r6), (0, .ref 0), (1, .int p1), (2, .int p2)]) (pc := 9) (td kX11_send 5 rfl) rfl (by decide) rfl ?_
  refine X_aload_n (pc := 10) (td kX11_send 6 rfl) rfl 1 rfl ?_
  refine X_getR (pc := 11) sC_0 rfl fk_X11_63 (td kX11_send 7 rfl) ?_
  refine X_br (fun t_11 => ?_)
  refine X_iload_n (pc := 14) (td kX11_send 8 rfl) rfl 0 rfl ?_
  refine X_ck (fun t_11_h => ?_)
  obtain ⟨t_11_s0, t_11_s1, t_11_s2, t_11_s3, t_11_s4, t_11_s5, t_11_s6, t_11_s7, t_11_s8, t_11_s9, t_11_s10, t_11_s11, t_11_s12, t_11_s13, t_11_s14⟩ := knTown t_11_h
  refine X_callip (pc := 15) (As := [.int r6]) (st := []) (p_X9_hasLane t_11 r6 σ) t_11_s0 (x_X9_hasLane t_11 r6 σ) mkX9_hasLane lk_X11_112 (by omega) rfl rfl (Nat.le_of_ble_eq_true rfl) (td kX11_send 9 rfl) (fun r15 hr15 => ?_)
  refine X_if_ne (pc := 18) (tgt := 23) (td kX11_send 10 rfl) (by decide) (fun c_18 => ?_) (fun c_18 => ?_)
  · refine X_aload_n (pc := 23) (td kX11_send 13 rfl) rfl 1 rfl ?_
    refine X_callv (pc := 24) (As := []) (st := []) sC_0 (x_X11_keepPast σ) mkX11_keepPast lk_X11_159 (by omega) rfl rfl (Nat.le_of_ble_eq_true rfl) (td kX11_send 14 rfl) (fun _ σ24 _ => ?_)
    refine X_aload_n (pc := 27) (td kX11_send 15 rfl) rfl 1 rfl ?_
    refine X_getF (b := 6) (pc := 28) sC_0 rfl fk_X11_28 (td kX11_send 16 rfl) ?_
    refine X_aload_n (pc := 31) (td kX11_send 17 rfl) rfl 1 rfl ?_
    refine X_getR (pc := 32) sC_0 rfl fk_X11_63 (td kX11_send 18 rfl) ?_
    refine X_br (fun t_32 => ?_)
    refine X_iload_n (pc := 35) (td kX11_send 19 rfl) rfl 0 rfl ?_
    refine X_callv (pc := 36) (As := [.ref t_32, .int r6]) (st := []) sC_6 (x_X4_sendBoy 6 t_32 r6 σ24) mkX4_sendBoy lk_X11_178 (by omega) rfl rfl (Nat.le_of_ble_eq_true rfl) (td kX11_send 20 rfl) (fun _ σ36 _ => ?_)
    refine X_aload_n (pc := 39) (td kX11_send 21 rfl) rfl 1 rfl ?_
    refine X_getF (b := 6) (pc := 40) sC_0 rfl fk_X11_28 (td kX11_send 22 rfl) ?_
    refine X_getF (b := 7) (pc := 43) sC_6 rfl fk_X11_126 (td kX11_send 23 rfl) ?_
    refine X_iload_n (pc := 46) (td kX11_send 24 rfl) rfl 0 rfl ?_
    refine X_iald (pc := 47) sC_7 (td kX11_send 25 rfl) ?_
    exact X_ret (pc := 48) (td kX11_send 26 rfl) rfl
  · refine X_iconst (v := (-1 : Int32)) (pc := 21) (td kX11_send 11 rfl) (by decide) ?_
    exact X_ret (pc := 22) (td kX11_send 12 rfl) rfl
def f_X11_sets (p1 : Int32) (σ : Mm) : Option (Int32 × Mm) := jn (some ((-1 : Int32), σ)) (fun k9 => (if p1 < 0 then k9 else (if (2 : Int32) < p1 then k9 else bn (gR σ 0 7) (fun t_16 => cl (f_X0_fittingSets t_16 6 127 p1 σ) (fun r28 σ28 => some (r28, σ28))))))
set_option maxHeartbeats 4000000 in
set_option maxRecDepth 100000 in
theorem x_X11_sets (p1 : Int32) (σ : Mm) : Con (wsOf SHC) yX11_sets cX11_sets 2 (some .int) 7 [.ref 0, .int p1] σ (f_X11_sets p1 σ) := by
  refine Con.of_X (by decide +kernel) (Nat.le_of_ble_eq_true rfl) ?_
  unfold f_X11_sets
  show X (wsOf SHC) RX11 cX11_sets 2 (some .int) 7 0 0 [(0, .ref 0), (1, .int p1)] [] σ _
  refine X_iload_n (pc := 0) (td kX11_sets 0 rfl) rfl 1 rfl ?_
  refine X_jn (P := fun k => X (wsOf SHC) RX11 cX11_sets 2 (some .int) 7 0 9 [] [] σ k) ?_ (fun k9 h9 => ?_)
  · refine X_iconst (v := (-1 : Int32)) (pc := 9) (td kX11_sets 5 rfl) (by decide) ?_
    exact X_ret (pc := 10) (td kX11_sets 6 rfl) rfl
  · refine X_if_lt (pc := 1) (tgt := 9) (td kX11_sets 1 rfl) (by decide) (fun c_1 => ?_) (fun c_1 => ?_)
    · refine X_sub [] rfl ?_
      exact h9
    · refine X_iload_n (pc := 4) (td kX11_sets 2 rfl) rfl 1 rfl ?_
      refine X_iconst (v := (2 : Int32)) (pc := 5) (td kX11_sets 3 rfl) (by decide) ?_
      refine X_icmp_le (pc := 6) (tgt := 11) (td kX11_sets 4 rfl) (by decide) (fun c_6 => ?_) (fun c_6 => ?_)
      · refine X_aload_n (pc := 11) (td kX11_sets 7 rfl) rfl 0 rfl ?_
        refine X_getF (b := 196) (pc := 12) sC_0 rfl fk_X11_56 (td kX11_sets 8 rfl) ?_
        refine X_aload_n (pc := 15) (td kX11_sets 9 rfl) rfl 0 rfl ?_
        refine X_getR (pc := 16) sC_0 rfl fk_X11_63 (td kX11_sets 10 rfl) ?_
        refine X_br (fun t_16 => ?_)
        refine X_aload_n (pc := 19) (td kX11_sets 11 rfl) rfl 0 rfl ?_
        refine X_getF (b := 6) (pc := 20) sC_0 rfl fk_X11_28 (td kX11_sets 12 rfl) ?_
        refine X_aload_n (pc := 23) (td kX11_sets 13 rfl) rfl 0 rfl ?_
        refine X_getF (b := 127) (pc := 24) sC_0 rfl fk_X11_42 (td kX11_sets 14 rfl) ?_
        refine X_iload_n (pc := 27) (td kX11_sets 15 rfl) rfl 1 rfl ?_
        refine X_calli (pc := 28) (As := [.ref t_16, .ref 6, .ref 127, .int p1]) (st := []) sC_196 (x_X0_fittingSets t_16 6 127 p1 σ) mkX0_fittingSets lk_X11_246 (by omega) rfl rfl (Nat.le_of_ble_eq_true rfl) (td kX11_sets 16 rfl) (fun r28 σ28 _ hr28 => ?_)
        exact X_ret (pc := 31) (td kX11_sets 17 rfl) rfl
      · refine X_sub [] rfl ?_
        exact h9
def f_X11_thief (σ : Mm) : Option (Int32 × Mm) := bn (gR σ 0 7) (fun t_5 => cl (f_X0_bestFollowed t_5 6 σ) (fun r12 σ12 => some (r12, σ12)))
set_option maxHeartbeats 4000000 in
set_option maxRecDepth 100000 in
theorem x_X11_thief (σ : Mm) : Con (wsOf SHC) yX11_thief cX11_thief 1 (some .int) 6 [.ref 0] σ (f_X11_thief σ) := by
  refine Con.of_X (by decide +kernel) (Nat.le_of_ble_eq_true rfl) ?_
  unfold f_X11_thief
  show X (wsOf SHC) RX11 cX11_thief 1 (some .int) 6 0 0 [(0, .ref 0)] [] σ _
  refine X_aload_n (pc := 0) (td kX11_thief 0 rfl) rfl 0 rfl ?_
  refine X_getF (b := 196) (pc := 1) sC_0 rfl fk_X11_56 (td kX11_thief 1 rfl) ?_
  refine X_aload_n (pc := 4) (td kX11_thief 2 rfl) rfl 0 rfl ?_
  refine X_getR (pc := 5) sC_0 rfl fk_X11_63 (td kX11_thief 3 rfl) ?_
  refine X_br (fun t_5 => ?_)
  refine X_aload_n (pc := 8) (td kX11_thief 4 rfl) rfl 0 rfl ?_
  refine X_getF (b := 6) (pc := 9) sC_0 rfl fk_X11_28 (td kX11_thief 5 rfl) ?_
  refine X_calli (pc := 12) (As := [.ref t_5, .ref 6]) (st := []) sC_196 (x_X0_bestFollowed t_5 6 σ) mkX0_bestFollowed lk_X11_239 (by omega) rfl rfl (Nat.le_of_ble_eq_true rfl) (td kX11_thief 6 rfl) (fun r12 σ12 _ hr12 => ?_)
  exact X_ret (pc := 15) (td kX11_thief 7 rfl) rfl
def F_X11_town_87 (k121 : Mm → Option (Int32 × Mm)) (rec87 : Int32 → Mm → Option (Int32 × Mm)) (x3_87 : Int32) (σ_87 : Mm) : Option (Int32 × Mm) := (if x3_87 < (4 : Int32) then ck (inb x3_87 4) (bn (markAt x3_87.toNatClampNeg) (fun t_101 => jn (fun (σ_115 : Mm) => rec87 (x3_87 + (1 : Int32)) σ_115) (fun k115 => ck (inb x3_87 4) (bn (markAt x3_87.toNatClampNeg) (fun t_110 => ck (isMark t_110) (bn (pI σ_87 t_110 0 (0 : Int32)) (fun σ112 => k115 σ112))))))) else k121 σ_87)
def f_X11_town (σ : Mm) : Option (Int32 × Mm) := bn (gR σ 0 8) (fun t_5 => cl (f_X6_readTown t_5 σ) (fun r8 σ8 => bn (pI σ8 1 1 (0 : Int32)) (fun σ17 => (if r8 = 0 then bn (gR σ17 0 8) (fun t_27 => bn (gR σ17 0 7) (fun t_33 => bn (pR σ17 0 8 t_33) (fun σ36 => bn (pR σ36 0 7 t_27) (fun σ41 => bn (gR σ41 0 7) (fun t_49 => cl (f_X4_begin 6 t_49 σ41) (fun _ σ52 => bn (gR σ52 0 9) (fun t_56 => ck (isLines t_56) (bn (pI σ52 t_56 0 (0 : Int32)) (fun σ60 => bn (pI σ60 127 0 (0 : Int32)) (fun σ68 => cl (f_X5_forget σ68) (fun _ σ75 => cl (f_X0_forget σ75) (fun _ σ82 => jn (fun (σ_121 : Mm) => some ((0 : Int32), σ_121)) (fun k121 => lq2 (F_X11_town_87 k121) 1000000 (0 : Int32) σ82))))))))))))) else some (r8, σ17)))))
set_option maxHeartbeats 4000000 in
set_option maxRecDepth 100000 in
theorem x_X11_town (σ : Mm) : Con (wsOf SHC) yX11_town cX11_town 4 (some .int) 58 [.ref 0] σ (f_X11_town σ) := by
  refine Con.of_X (by decide +kernel) (Nat.le_of_ble_eq_true rfl) ?_
  unfold f_X11_town
  show X (wsOf SHC) RX11 cX11_town 4 (some .int) 58 0 0 [(0, .ref 0)] [] σ _
  refine X_aload_n (pc := 0) (td kX11_town 0 rfl) rfl 0 rfl ?_
  refine X_getF (b := 3) (pc := 1) sC_0 rfl fk_X11_21 (td kX11_town 1 rfl) ?_
  refine X_aload_n (pc := 4) (td kX11_town 2 rfl) rfl 0 rfl ?_
  refine X_getR (pc := 5) sC_0 rfl fk_X11_67 (td kX11_town 3 rfl) ?_
  refine X_br (fun t_5 => ?_)
  refine X_calli (pc := 8) (As := [.ref t_5]) (st := []) sC_3 (x_X6_readTown t_5 σ) mkX6_readTown lk_X11_88 (by omega) rfl rfl (Nat.le_of_ble_eq_true rfl) (td kX11_town 4 rfl) (fun r8 σ8 _ hr8 => ?_)
  refine X_istore_n (L' := [(1, .int r8), (0, .ref 0)]) (pc := 11) (td kX11_town 5 rfl) rfl (by decide) rfl ?_
  refine X_aload_n (pc := 12) (td kX11_town 6 rfl) rfl 1 rfl ?_
  refine X_getF (b := 1) (pc := 13) sC_0 rfl fk_X11_10 (td kX11_town 7 rfl) ?_
  refine X_iconst (v := (0 : Int32)) (pc := 16) (td kX11_town 8 rfl) (by decide) ?_
  refine X_putI (pc := 17) sC_1 rfl fk_X11_84 rfl rfl (td kX11_town 9 rfl) (fun σ17 => ?_)
  refine X_iload_n (pc := 20) (td kX11_town 10 rfl) rfl 0 rfl ?_
  refine X_if_eq (pc := 21) (tgt := 26) (td kX11_town 11 rfl) (by decide) (fun c_21 => ?_) (fun c_21 => ?_)
  · refine X_aload_n (pc := 26) (td kX11_town 14 rfl) rfl 1 rfl ?_
    refine X_getR (pc := 27) sC_0 rfl fk_X11_67 (td kX11_town 15 rfl) ?_
    refine X_br (fun t_27 => ?_)
    refine X_astore_n (L' := [(2, .ref t_27), (1, .int r8), (0, .ref 0)]) (pc := 30) (td kX11_town 16 rfl) rfl (by decide) rfl ?_
    refine X_aload_n (pc := 31) (td kX11_town 17 rfl) rfl 2 rfl ?_
    refine X_aload_n (pc := 32) (td kX11_town 18 rfl) rfl 2 rfl ?_
    refine X_getR (pc := 33) sC_0 rfl fk_X11_63 (td kX11_town 19 rfl) ?_
    refine X_br (fun t_33 => ?_)
    refine X_putR (pc := 36) sC_0 rfl fk_X11_67 (td kX11_town 20 rfl) (fun σ36 => ?_)
    refine X_aload_n (pc := 39) (td kX11_town 21 rfl) rfl 2 rfl ?_
    refine X_aload_n (pc := 40) (td kX11_town 22 rfl) rfl 0 rfl ?_
    refine X_putR (pc := 41) sC_0 rfl fk_X11_63 (td kX11_town 23 rfl) (fun σ41 => ?_)
    refine X_aload_n (pc := 44) (td kX11_town 24 rfl) rfl 2 rfl ?_
    refine X_getF (b := 6) (pc := 45) sC_0 rfl fk_X11_28 (td kX11_town 25 rfl) ?_
    refine X_aload_n (pc := 48) (td kX11_town 26 rfl) rfl 2 rfl ?_
    refine X_getR (pc := 49) sC_0 rfl fk_X11_63 (td kX11_town 27 rfl) ?_
    refine X_br (fun t_49 => ?_)
    refine X_callv (pc := 52) (As := [.ref t_49]) (st := []) sC_6 (x_X4_begin 6 t_49 σ41) mkX4_begin lk_X11_92 (by omega) rfl rfl (Nat.le_of_ble_eq_true rfl) (td kX11_town 28 rfl) (fun _ σ52 _ => ?_)
    refine X_aload_n (pc := 55) (td kX11_town 29 rfl) rfl 2 rfl ?_
    refine X_getR (pc := 56) sC_0 rfl fk_X11_73 (td kX11_town 30 rfl) ?_
    refine X_br (fun t_56 => ?_)
    refine X_iconst (v := (0 : Int32)) (pc := 59) (td kX11_town 31 rfl) (by decide) ?_
    refine X_ck (fun t_56_h => ?_)
    obtain ⟨t_56_s0, t_56_s1, t_56_s2, t_56_s3⟩ := knLines t_56_h
    refine X_putI (pc := 60) t_56_s0 rfl fk_X11_96 rfl rfl (td kX11_town 32 rfl) (fun σ60 => ?_)
    refine X_aload_n (pc := 63) (td kX11_town 33 rfl) rfl 2 rfl ?_
    refine X_getF (b := 127) (pc := 64) sC_0 rfl fk_X11_42 (td kX11_town 34 rfl) ?_
    refine X_iconst (v := (0 : Int32)) (pc := 67) (td kX11_town 35 rfl) (by decide) ?_
    refine X_putI (pc := 68) sC_127 rfl fk_X11_99 rfl rfl (td kX11_town 36 rfl) (fun σ68 => ?_)
    refine X_aload_n (pc := 71) (td kX11_town 37 rfl) rfl 2 rfl ?_
    refine X_getF (b := 13) (pc := 72) sC_0 rfl fk_X11_35 (td kX11_town 38 rfl) ?_
    refine X_callv (pc := 75) (As := []) (st := []) sC_13 (x_X5_forget σ68) mkX5_forget lk_X11_100 (by omega) rfl rfl (Nat.le_of_ble_eq_true rfl) (td kX11_town 39 rfl) (fun _ σ75 _ => ?_)
    refine X_aload_n (pc := 78) (td kX11_town 40 rfl) rfl 2 rfl ?_
    refine X_getF (b := 196) (pc := 79) sC_0 rfl fk_X11_56 (td kX11_town 41 rfl) ?_
    refine X_callv (pc := 82) (As := []) (st := []) sC_196 (x_X0_forget σ75) mkX0_forget lk_X11_103 (by omega) rfl rfl (Nat.le_of_ble_eq_true rfl) (td kX11_town 42 rfl) (fun _ σ82 _ => ?_)
    refine X_iconst (v := (0 : Int32)) (pc := 85) (td kX11_town 43 rfl) (by decide) ?_
    refine X_istore_n (L' := [(3, .int (0 : Int32)), (2, .ref t_27), (1, .int r8), (0, .ref 0)]) (pc := 86) (td kX11_town 44 rfl) rfl (by decide) rfl ?_
    refine X_jn (P := fun k => ∀ (σ_121 : Mm), X (wsOf SHC) RX11 cX11_town 4 (some .int) 58 0 121 [] [] σ_121 (k σ_121)) (fun σ_121 => ?_) (fun k121 h121 => ?_)
    · refine X_iconst (v := (0 : Int32)) (pc := 121) (td kX11_town 63 rfl) (by decide) ?_
      exact X_ret (pc := 122) (td kX11_town 64 rfl) rfl
    · refine X_sub [3, 0] rfl ?_
      refine lq2_ind (P := fun x3_87 σ_87 E => X (wsOf SHC) RX11 cX11_town 4 (some .int) 58 0 87 [(0, .ref 0), (3, .int x3_87)] [] σ_87 E) (fun _ _ => X_none) (fun rec87 hrec87 x3_87 σ_87 => ?_) _ _ _
      unfold F_X11_town_87
      refine X_iload_n (pc := 87) (td kX11_town 45 rfl) rfl 1 rfl ?_
      refine X_aload_n (pc := 88) (td kX11_town 46 rfl) rfl 0 rfl ?_
      refine X_getF (b := 131) (pc := 89) sC_0 rfl fk_X11_48 (td kX11_town 47 rfl) ?_
      refine X_alen (v := (4 : Int32)) (pc := 92) 6 (fun _ => rfl) sC_131 (fun _ => rfl) (td kX11_town 48 rfl) ?_
      refine X_icmp_ge (pc := 93) (tgt := 121) (td kX11_town 49 rfl) (by decide) (fun c_93 => ?_) (fun c_93 => ?_)
      · refine X_sub [] rfl ?_
        exact h121 σ_87
      · refine X_aload_n (pc := 96) (td kX11_town 50 rfl) rfl 0 rfl ?_
        refine X_getF (b := 131) (pc := 97) sC_0 rfl fk_X11_48 (td kX11_town 51 rfl) ?_
        refine X_iload_n (pc := 100) (td kX11_town 52 rfl) rfl 1 rfl ?_
        refine X_aald (pc := 101) 6 (fun _ => rfl) sC_131 (td kX11_town 53 rfl) ?_
        refine X_br (fun t_101 => ?_)
        refine X_jn (P := fun k => ∀ (σ_115 : Mm), X (wsOf SHC) RX11 cX11_town 4 (some .int) 58 0 115 [(0, .ref 0), (3, .int x3_87)] [] σ_115 (k σ_115)) (fun σ_115 => ?_) (fun k115 h115 => ?_)
        · refine X_iinc (v := (x3_87 + (1 : Int32))) (L' := [(3, .int (x3_87 + (1 : Int32))), (0, .ref 0)]) (pc := 115) (td kX11_town 61 rfl) 1 rfl rfl (by decide) rfl ?_
          refine X_goto (pc := 118) (tgt := 87) (td kX11_town 62 rfl) (by decide) ?_
          refine X_sub [1, 0] rfl ?_
          exact hrec87 (x3_87 + (1 : Int32)) σ_115
        · refine X_ifnull (pc := 102) (td kX11_town 54 rfl) ?_
          refine X_aload_n (pc := 105) (td kX11_town 55 rfl) rfl 0 rfl ?_
          refine X_getF (b := 131) (pc := 106) sC_0 rfl fk_X11_48 (td kX11_town 56 rfl) ?_
          refine X_iload_n (pc := 109) (td kX11_town 57 rfl) rfl 1 rfl ?_
          refine X_aald (pc := 110) 6 (fun _ => rfl) sC_131 (td kX11_town 58 rfl) ?_
          refine X_br (fun t_110 => ?_)
          refine X_iconst (v := (0 : Int32)) (pc := 111) (td kX11_town 59 rfl) (by decide) ?_
          refine X_ck (fun t_110_h => ?_)
          obtain ⟨t_110_s0, t_110_s1, t_110_s2, t_110_s3, t_110_s4, t_110_s5, t_110_s6, t_110_s7, t_110_s8, t_110_s9, t_110_s10, t_110_s11, t_110_s12, t_110_s13, t_110_s14, t_110_s15⟩ := knMark t_110_h
          refine X_putI (pc := 112) t_110_s0 rfl fk_X11_104 rfl rfl (td kX11_town 60 rfl) (fun σ112 => ?_)
          exact h115 σ112
  · refine X_iload_n (pc := 24) (td kX11_town 12 rfl) rfl 0 rfl ?_
    exact X_ret (pc := 25) (td kX11_town 13 rfl) rfl
def f_X11_undo (σ : Mm) : Option (Int32 × Mm) := cl (f_X5_bringBack 6 σ) (fun r8 σ8 => (if r8 = 0 then some ((0 : Int32), σ8) else cl (f_X0_forget σ8) (fun _ σ20 => some ((1 : Int32), σ20))))
set_option maxHeartbeats 4000000 in
set_option maxRecDepth 100000 in
theorem x_X11_undo (σ : Mm) : Con (wsOf SHC) yX11_undo cX11_undo 1 (some .boolean) 3 [.ref 0] σ (f_X11_undo σ) := by
  refine Con.of_X (by decide +kernel) (Nat.le_of_ble_eq_true rfl) ?_
  unfold f_X11_undo
  show X (wsOf SHC) RX11 cX11_undo 1 (some .boolean) 3 0 0 [(0, .ref 0)] [] σ _
  refine X_aload_n (pc := 0) (td kX11_undo 0 rfl) rfl 0 rfl ?_
  refine X_getF (b := 13) (pc := 1) sC_0 rfl fk_X11_35 (td kX11_undo 1 rfl) ?_
  refine X_aload_n (pc := 4) (td kX11_undo 2 rfl) rfl 0 rfl ?_
  refine X_getF (b := 6) (pc := 5) sC_0 rfl fk_X11_28 (td kX11_undo 3 rfl) ?_
  refine X_calli (pc := 8) (As := [.ref 6]) (st := []) sC_13 (x_X5_bringBack 6 σ) mkX5_bringBack lk_X11_191 (by omega) rfl rfl (Nat.le_of_ble_eq_true rfl) (td kX11_undo 4 rfl) (fun r8 σ8 _ hr8 => ?_)
  refine X_if_ne (pc := 11) (tgt := 16) (td kX11_undo 5 rfl) (by decide) (fun c_11 => ?_) (fun c_11 => ?_)
  · refine X_aload_n (pc := 16) (td kX11_undo 8 rfl) rfl 0 rfl ?_
    refine X_getF (b := 196) (pc := 17) sC_0 rfl fk_X11_56 (td kX11_undo 9 rfl) ?_
    refine X_callv (pc := 20) (As := []) (st := []) sC_196 (x_X0_forget σ8) mkX0_forget lk_X11_103 (by omega) rfl rfl (Nat.le_of_ble_eq_true rfl) (td kX11_undo 10 rfl) (fun _ σ20 _ => ?_)
    refine X_iconst (v := (1 : Int32)) (pc := 23) (td kX11_undo 11 rfl) (by decide) ?_
    exact X_ret (pc := 24) (td kX11_undo 12 rfl) rfl
  · refine X_iconst (v := (0 : Int32)) (pc := 14) (td kX11_undo 6 rfl) (by decide) ?_
    exact X_ret (pc := 15) (td kX11_undo 7 rfl) rfl
def f_X11_waits (p1 : Int32) (σ : Mm) : Option (Int32 × Mm) := bn (gR σ 0 7) (fun t_1 => ck (isTown t_1) (cl (f_X9_hasWalker t_1 p1 σ) (fun r5 _ => jn (some ((-1 : Int32), σ)) (fun k26 => (if r5 = 0 then k26 else bn (gR σ 0 7) (fun t_16 => cl (f_X4_isHome 6 t_16 p1 σ) (fun r20 _ => (if r20 = 0 then cl (f_X11_keepPast σ) (fun _ σ29 => cl (f_X4_putOff 6 p1 σ29) (fun _ σ37 => ck (inb p1 6) (some ((gI σ37 10 p1.toNatClampNeg), σ37)))) else k26))))))))
set_option maxHeartbeats 4000000 in
set_option maxRecDepth 100000 in
theorem x_X11_waits (p1 : Int32) (σ : Mm) : Con (wsOf SHC) yX11_waits cX11_waits 2 (some .int) 4 [.ref 0, .int p1] σ (f_X11_waits p1 σ) := by
  refine Con.of_X (by decide +kernel) (Nat.le_of_ble_eq_true rfl) ?_
  unfold f_X11_waits
  show X (wsOf SHC) RX11 cX11_waits 2 (some .int) 4 0 0 [(0, .ref 0), (1, .int p1)] [] σ _
  refine X_aload_n (pc := 0) (td kX11_waits 0 rfl) rfl 0 rfl ?_
  refine X_getR (pc := 1) sC_0 rfl fk_X11_63 (td kX11_waits 1 rfl) ?_
  refine X_br (fun t_1 => ?_)
  refine X_iload_n (pc := 4) (td kX11_waits 2 rfl) rfl 1 rfl ?_
  refine X_ck (fun t_1_h => ?_)
  obtain ⟨t_1_s0, t_1_s1, t_1_s2, t_1_s3, t_1_s4, t_1_s5, t_1_s6, t_1_s7, t_1_s8, t_1_s9, t_1_s10, t_1_s11, t_1_s12, t_1_s13, t_1_s14⟩ := knTown t_1_h
  refine X_callip (pc := 5) (As := [.int p1]) (st := []) (p_X9_hasWalker t_1 p1 σ) t_1_s0 (x_X9_hasWalker t_1 p1 σ) mkX9_hasWalker lk_X11_129 (by omega) rfl rfl (Nat.le_of_ble_eq_true rfl) (td kX11_waits 3 rfl) (fun r5 hr5 => ?_)
  refine X_jn (P := fun k => X (wsOf SHC) RX11 cX11_waits 2 (some .int) 4 0 26 [] [] σ k) ?_ (fun k26 h26 => ?_)
  · refine X_iconst (v := (-1 : Int32)) (pc := 26) (td kX11_waits 12 rfl) (by decide) ?_
    exact X_ret (pc := 27) (td kX11_waits 13 rfl) rfl
  · refine X_if_eq (pc := 8) (tgt := 26) (td kX11_waits 4 rfl) (by decide) (fun c_8 => ?_) (fun c_8 => ?_)
    · refine X_sub [] rfl ?_
      exact h26
    · refine X_aload_n (pc := 11) (td kX11_waits 5 rfl) rfl 0 rfl ?_
      refine X_getF (b := 6) (pc := 12) sC_0 rfl fk_X11_28 (td kX11_waits 6 rfl) ?_
      refine X_aload_n (pc := 15) (td kX11_waits 7 rfl) rfl 0 rfl ?_
      refine X_getR (pc := 16) sC_0 rfl fk_X11_63 (td kX11_waits 8 rfl) ?_
      refine X_br (fun t_16 => ?_)
      refine X_iload_n (pc := 19) (td kX11_waits 9 rfl) rfl 1 rfl ?_
      refine X_callip (pc := 20) (As := [.ref t_16, .int p1]) (st := []) (p_X4_isHome 6 t_16 p1 σ) sC_6 (x_X4_isHome 6 t_16 p1 σ) mkX4_isHome lk_X11_145 (by omega) rfl rfl (Nat.le_of_ble_eq_true rfl) (td kX11_waits 10 rfl) (fun r20 hr20 => ?_)
      refine X_if_eq (pc := 23) (tgt := 28) (td kX11_waits 11 rfl) (by decide) (fun c_23 => ?_) (fun c_23 => ?_)
      · refine X_aload_n (pc := 28) (td kX11_waits 14 rfl) rfl 0 rfl ?_
        refine X_callv (pc := 29) (As := []) (st := []) sC_0 (x_X11_keepPast σ) mkX11_keepPast lk_X11_159 (by omega) rfl rfl (Nat.le_of_ble_eq_true rfl) (td kX11_waits 15 rfl) (fun _ σ29 _ => ?_)
        refine X_aload_n (pc := 32) (td kX11_waits 16 rfl) rfl 0 rfl ?_
        refine X_getF (b := 6) (pc := 33) sC_0 rfl fk_X11_28 (td kX11_waits 17 rfl) ?_
        refine X_iload_n (pc := 36) (td kX11_waits 18 rfl) rfl 1 rfl ?_
        refine X_callv (pc := 37) (As := [.int p1]) (st := []) sC_6 (x_X4_putOff 6 p1 σ29) mkX4_putOff lk_X11_181 (by omega) rfl rfl (Nat.le_of_ble_eq_true rfl) (td kX11_waits 19 rfl) (fun _ σ37 _ => ?_)
        refine X_aload_n (pc := 40) (td kX11_waits 20 rfl) rfl 0 rfl ?_
        refine X_getF (b := 6) (pc := 41) sC_0 rfl fk_X11_28 (td kX11_waits 21 rfl) ?_
        refine X_getF (b := 10) (pc := 44) sC_6 rfl fk_X11_142 (td kX11_waits 22 rfl) ?_
        refine X_iload_n (pc := 47) (td kX11_waits 23 rfl) rfl 1 rfl ?_
        refine X_iald (pc := 48) sC_10 (td kX11_waits 24 rfl) ?_
        exact X_ret (pc := 49) (td kX11_waits 25 rfl) rfl
      · refine X_sub [] rfl ?_
        exact h26
def f_X11_walker (p1 : Int32) (p2 : Int32) (σ : Mm) : Option (Int32 × Mm) := bn (gR σ 0 7) (fun t_1 => ck (isTown t_1) (cl (f_X9_hasWalker t_1 p1 σ) (fun r5 _ => (if r5 = 0 then some ((-1 : Int32), σ) else (if p2 = (0 : Int32) then bn (gR σ 0 7) (fun t_53 => ck (isTown t_53) (ck (inb p1 6) (some ((gI σ (t_53 + 9) p1.toNatClampNeg), σ)))) else (if p2 = (1 : Int32) then bn (gR σ 0 7) (fun t_67 => cl (f_X4_placeOf 6 t_67 p1 σ) (fun r71 _ => some (r71, σ))) else (if p2 = (2 : Int32) then ck (inb p1 6) (some ((gI σ 9 p1.toNatClampNeg), σ)) else (if p2 = (3 : Int32) then ck (inb p1 6) (some ((gI σ 10 p1.toNatClampNeg), σ)) else (if p2 = (4 : Int32) then bn (gR σ 0 7) (fun t_100 => cl (f_X4_isHome 6 t_100 p1 σ) (fun r104 _ => (if r104 = 0 then some ((0 : Int32), σ) else some ((1 : Int32), σ)))) else (if p2 = (5 : Int32) then bn (gR σ 0 7) (fun t_121 => cl (f_X4_isOut 6 t_121 p1 σ) (fun r125 _ => (if r125 = 0 then some ((0 : Int32), σ) else some ((1 : Int32), σ)))) else some ((-1 : Int32), σ)))))))))))
set_option maxHeartbeats 4000000 in
set_option maxRecDepth 100000 in
theorem x_X11_walker (p1 : Int32) (p2 : Int32) (σ : Mm) : Con (wsOf SHC) yX11_walker cX11_walker 3 (some .int) 4 [.ref 0, .int p1, .int p2] σ (f_X11_walker p1 p2 σ) := by
  refine Con.of_X (by decide +kernel) (Nat.le_of_ble_eq_true rfl) ?_
  unfold f_X11_walker
  show X (wsOf SHC) RX11 cX11_walker 3 (some .int) 4 0 0 [(0, .ref 0), (1, .int p1), (2, .int p2)] [] σ _
  refine X_aload_n (pc := 0) (td kX11_walker 0 rfl) rfl 0 rfl ?_
  refine X_getR (pc := 1) sC_0 rfl fk_X11_63 (td kX11_walker 1 rfl) ?_
  refine X_br (fun t_1 => ?_)
  refine X_iload_n (pc := 4) (td kX11_walker 2 rfl) rfl 1 rfl ?_
  refine X_ck (fun t_1_h => ?_)
  obtain ⟨t_1_s0, t_1_s1, t_1_s2, t_1_s3, t_1_s4, t_1_s5, t_1_s6, t_1_s7, t_1_s8, t_1_s9, t_1_s10, t_1_s11, t_1_s12, t_1_s13, t_1_s14⟩ := knTown t_1_h
  refine X_callip (pc := 5) (As := [.int p1]) (st := []) (p_X9_hasWalker t_1 p1 σ) t_1_s0 (x_X9_hasWalker t_1 p1 σ) mkX9_hasWalker lk_X11_129 (by omega) rfl rfl (Nat.le_of_ble_eq_true rfl) (td kX11_walker 3 rfl) (fun r5 hr5 => ?_)
  refine X_if_ne (pc := 8) (tgt := 13) (td kX11_walker 4 rfl) (by decide) (fun c_8 => ?_) (fun c_8 => ?_)
  · refine X_iload_n (pc := 13) (td kX11_walker 7 rfl) rfl 2 rfl ?_
    refine X_sp (fun c_14_0 => ?_) (fun c_14_0 => ?_)
    · refine X_swI (pc := 14) (tgt := 52) (td kX11_walker 8 rfl) c_14_0 (by decide) (by decide) rfl (by decide) ?_
      refine X_aload_n (pc := 52) (td kX11_walker 9 rfl) rfl 0 rfl ?_
      refine X_getR (pc := 53) sC_0 rfl fk_X11_63 (td kX11_walker 10 rfl) ?_
      refine X_br (fun t_53 => ?_)
      refine X_ck (fun t_53_h => ?_)
      obtain ⟨t_53_s0, t_53_s1, t_53_s2, t_53_s3, t_53_s4, t_53_s5, t_53_s6, t_53_s7, t_53_s8, t_53_s9, t_53_s10, t_53_s11, t_53_s12, t_53_s13, t_53_s14⟩ := knTown t_53_h
      refine X_getF (b := (t_53 + 9)) (pc := 56) t_53_s0 rfl fk_X11_132 (td kX11_walker 11 rfl) ?_
      refine X_iload_n (pc := 59) (td kX11_walker 12 rfl) rfl 1 rfl ?_
      refine X_iald (pc := 60) t_53_s9 (td kX11_walker 13 rfl) ?_
      exact X_ret (pc := 61) (td kX11_walker 14 rfl) rfl
    · refine X_sp (fun c_14_1 => ?_) (fun c_14_1 => ?_)
      · refine X_swI (pc := 14) (tgt := 62) (td kX11_walker 8 rfl) c_14_1 (by decide) (by decide) rfl (by decide) ?_
        refine X_aload_n (pc := 62) (td kX11_walker 15 rfl) rfl 0 rfl ?_
        refine X_getF (b := 6) (pc := 63) sC_0 rfl fk_X11_28 (td kX11_walker 16 rfl) ?_
        refine X_aload_n (pc := 66) (td kX11_walker 17 rfl) rfl 0 rfl ?_
        refine X_getR (pc := 67) sC_0 rfl fk_X11_63 (td kX11_walker 18 rfl) ?_
        refine X_br (fun t_67 => ?_)
        refine X_iload_n (pc := 70) (td kX11_walker 19 rfl) rfl 1 rfl ?_
        refine X_callip (pc := 71) (As := [.ref t_67, .int p1]) (st := []) (p_X4_placeOf 6 t_67 p1 σ) sC_6 (x_X4_placeOf 6 t_67 p1 σ) mkX4_placeOf lk_X11_135 (by omega) rfl rfl (Nat.le_of_ble_eq_true rfl) (td kX11_walker 20 rfl) (fun r71 hr71 => ?_)
        exact X_ret (pc := 74) (td kX11_walker 21 rfl) rfl
      · refine X_sp (fun c_14_2 => ?_) (fun c_14_2 => ?_)
        · refine X_swI (pc := 14) (tgt := 75) (td kX11_walker 8 rfl) c_14_2 (by decide) (by decide) rfl (by decide) ?_
          refine X_aload_n (pc := 75) (td kX11_walker 22 rfl) rfl 0 rfl ?_
          refine X_getF (b := 6) (pc := 76) sC_0 rfl fk_X11_28 (td kX11_walker 23 rfl) ?_
          refine X_getF (b := 9) (pc := 79) sC_6 rfl fk_X11_139 (td kX11_walker 24 rfl) ?_
          refine X_iload_n (pc := 82) (td kX11_walker 25 rfl) rfl 1 rfl ?_
          refine X_iald (pc := 83) sC_9 (td kX11_walker 26 rfl) ?_
          exact X_ret (pc := 84) (td kX11_walker 27 rfl) rfl
        · refine X_sp (fun c_14_3 => ?_) (fun c_14_3 => ?_)
          · refine X_swI (pc := 14) (tgt := 85) (td kX11_walker 8 rfl) c_14_3 (by decide) (by decide) rfl (by decide) ?_
            refine X_aload_n (pc := 85) (td kX11_walker 28 rfl) rfl 0 rfl ?_
            refine X_getF (b := 6) (pc := 86) sC_0 rfl fk_X11_28 (td kX11_walker 29 rfl) ?_
            refine X_getF (b := 10) (pc := 89) sC_6 rfl fk_X11_142 (td kX11_walker 30 rfl) ?_
            refine X_iload_n (pc := 92) (td kX11_walker 31 rfl) rfl 1 rfl ?_
            refine X_iald (pc := 93) sC_10 (td kX11_walker 32 rfl) ?_
            exact X_ret (pc := 94) (td kX11_walker 33 rfl) rfl
          · refine X_sp (fun c_14_4 => ?_) (fun c_14_4 => ?_)
            · refine X_swI (pc := 14) (tgt := 95) (td kX11_walker 8 rfl) c_14_4 (by decide) (by decide) rfl (by decide) ?_
              refine X_aload_n (pc := 95) (td kX11_walker 34 rfl) rfl 0 rfl ?_
              refine X_getF (b := 6) (pc := 96) sC_0 rfl fk_X11_28 (td kX11_walker 35 rfl) ?_
              refine X_aload_n (pc := 99) (td kX11_walker 36 rfl) rfl 0 rfl ?_
              refine X_getR (pc := 100) sC_0 rfl fk_X11_63 (td kX11_walker 37 rfl) ?_
              refine X_br (fun t_100 => ?_)
              refine X_iload_n (pc := 103) (td kX11_walker 38 rfl) rfl 1 rfl ?_
              refine X_callip (pc := 104) (As := [.ref t_100, .int p1]) (st := []) (p_X4_isHome 6 t_100 p1 σ) sC_6 (x_X4_isHome 6 t_100 p1 σ) mkX4_isHome lk_X11_145 (by omega) rfl rfl (Nat.le_of_ble_eq_true rfl) (td kX11_walker 39 rfl) (fun r104 hr104 => ?_)
              refine X_if_eq (pc := 107) (tgt := 114) (td kX11_walker 40 rfl) (by decide) (fun c_107 => ?_) (fun c_107 => ?_)
              · refine X_iconst (v := (0 : Int32)) (pc := 114) (td kX11_walker 43 rfl) (by decide) ?_
                exact X_ret (pc := 115) (td kX11_walker 44 rfl) rfl
              · refine X_iconst (v := (1 : Int32)) (pc := 110) (td kX11_walker 41 rfl) (by decide) ?_
                refine X_goto (pc := 111) (tgt := 115) (td kX11_walker 42 rfl) (by decide) ?_
                exact X_ret (pc := 115) (td kX11_walker 44 rfl) rfl
            · refine X_sp (fun c_14_5 => ?_) (fun c_14_5 => ?_)
              · refine X_swI (pc := 14) (tgt := 116) (td kX11_walker 8 rfl) c_14_5 (by decide) (by decide) rfl (by decide) ?_
                refine X_aload_n (pc := 116) (td kX11_walker 45 rfl) rfl 0 rfl ?_
                refine X_getF (b := 6) (pc := 117) sC_0 rfl fk_X11_28 (td kX11_walker 46 rfl) ?_
                refine X_aload_n (pc := 120) (td kX11_walker 47 rfl) rfl 0 rfl ?_
                refine X_getR (pc := 121) sC_0 rfl fk_X11_63 (td kX11_walker 48 rfl) ?_
                refine X_br (fun t_121 => ?_)
                refine X_iload_n (pc := 124) (td kX11_walker 49 rfl) rfl 1 rfl ?_
                refine X_callip (pc := 125) (As := [.ref t_121, .int p1]) (st := []) (p_X4_isOut 6 t_121 p1 σ) sC_6 (x_X4_isOut 6 t_121 p1 σ) mkX4_isOut lk_X11_149 (by omega) rfl rfl (Nat.le_of_ble_eq_true rfl) (td kX11_walker 50 rfl) (fun r125 hr125 => ?_)
                refine X_if_eq (pc := 128) (tgt := 135) (td kX11_walker 51 rfl) (by decide) (fun c_128 => ?_) (fun c_128 => ?_)
                · refine X_iconst (v := (0 : Int32)) (pc := 135) (td kX11_walker 54 rfl) (by decide) ?_
                  exact X_ret (pc := 136) (td kX11_walker 55 rfl) rfl
                · refine X_iconst (v := (1 : Int32)) (pc := 131) (td kX11_walker 52 rfl) (by decide) ?_
                  refine X_goto (pc := 132) (tgt := 136) (td kX11_walker 53 rfl) (by decide) ?_
                  exact X_ret (pc := 136) (td kX11_walker 55 rfl) rfl
              · refine X_swO (pc := 14) (tgt := 137) (td kX11_walker 8 rfl) (by have z0 := tsw_ne (0) (by decide) c_14_0; have z1 := tsw_ne (1) (by decide) c_14_1; have z2 := tsw_ne (2) (by decide) c_14_2; have z3 := tsw_ne (3) (by decide) c_14_3; have z4 := tsw_ne (4) (by decide) c_14_4; have z5 := tsw_ne (5) (by decide) c_14_5; omega) (by decide) ?_
                refine X_iconst (v := (-1 : Int32)) (pc := 137) (td kX11_walker 56 rfl) (by decide) ?_
                exact X_ret (pc := 138) (td kX11_walker 57 rfl) rfl
  · refine X_iconst (v := (-1 : Int32)) (pc := 11) (td kX11_walker 5 rfl) (by decide) ?_
    exact X_ret (pc := 12) (td kX11_walker 6 rfl) rfl
set_option maxHeartbeats 4000000 in
theorem p_X11_walker (p1 : Int32) (p2 : Int32) (σ : Mm) : Pu σ (f_X11_walker p1 p2 σ) := by
  unfold f_X11_walker
  refine Pu_bn (fun _ => ?_)
  refine Pu_ck ?_
  refine Pu_cl (fun _ _ => ?_)
  refine Pu_if ?_ ?_
  · exact Pu_some
  · refine Pu_if ?_ ?_
    · refine Pu_bn (fun _ => ?_)
      refine Pu_ck ?_
      refine Pu_ck ?_
      exact Pu_some
    · refine Pu_if ?_ ?_
      · refine Pu_bn (fun _ => ?_)
        refine Pu_cl (fun _ _ => ?_)
        exact Pu_some
      · refine Pu_if ?_ ?_
        · refine Pu_ck ?_
          exact Pu_some
        · refine Pu_if ?_ ?_
          · refine Pu_ck ?_
            exact Pu_some
          · refine Pu_if ?_ ?_
            · refine Pu_bn (fun _ => ?_)
              refine Pu_cl (fun _ _ => ?_)
              refine Pu_if ?_ ?_
              · exact Pu_some
              · exact Pu_some
            · refine Pu_if ?_ ?_
              · refine Pu_bn (fun _ => ?_)
                refine Pu_cl (fun _ _ => ?_)
                refine Pu_if ?_ ?_
                · exact Pu_some
                · exact Pu_some
              · exact Pu_some
def f_X11_watch (p1 : Int32) (p2 : Int32) (p3 : Int32) (σ : Mm) : Option (Int32 × Mm) := bn (gR σ 0 7) (fun t_1 => ck (isTown t_1) (cl (f_X9_hasLane t_1 p1 σ) (fun r5 _ => jn (some ((0 : Int32), σ)) (fun k21 => (if r5 = 0 then k21 else (if p2 < 0 then k21 else (if (30 : Int32) < p2 then k21 else cl (f_X10_add 127 p1 p2 p3 σ) (fun r30 σ30 => some (r30, σ30)))))))))
set_option maxHeartbeats 4000000 in
set_option maxRecDepth 100000 in
theorem x_X11_watch (p1 : Int32) (p2 : Int32) (p3 : Int32) (σ : Mm) : Con (wsOf SHC) yX11_watch cX11_watch 4 (some .boolean) 2 [.ref 0, .int p1, .int p2, .int p3] σ (f_X11_watch p1 p2 p3 σ) := by
  refine Con.of_X (by decide +kernel) (Nat.le_of_ble_eq_true rfl) ?_
  unfold f_X11_watch
  show X (wsOf SHC) RX11 cX11_watch 4 (some .boolean) 2 0 0 [(0, .ref 0), (1, .int p1), (2, .int p2), (3, .int p3)] [] σ _
  refine X_aload_n (pc := 0) (td kX11_watch 0 rfl) rfl 0 rfl ?_
  refine X_getR (pc := 1) sC_0 rfl fk_X11_63 (td kX11_watch 1 rfl) ?_
  refine X_br (fun t_1 => ?_)
  refine X_iload_n (pc := 4) (td kX11_watch 2 rfl) rfl 1 rfl ?_
  refine X_ck (fun t_1_h => ?_)
  obtain ⟨t_1_s0, t_1_s1, t_1_s2, t_1_s3, t_1_s4, t_1_s5, t_1_s6, t_1_s7, t_1_s8, t_1_s9, t_1_s10, t_1_s11, t_1_s12, t_1_s13, t_1_s14⟩ := knTown t_1_h
  refine X_callip (pc := 5) (As := [.int p1]) (st := []) (p_X9_hasLane t_1 p1 σ) t_1_s0 (x_X9_hasLane t_1 p1 σ) mkX9_hasLane lk_X11_112 (by omega) rfl rfl (Nat.le_of_ble_eq_true rfl) (td kX11_watch 3 rfl) (fun r5 hr5 => ?_)
  refine X_jn (P := fun k => X (wsOf SHC) RX11 cX11_watch 4 (some .boolean) 2 0 21 [] [] σ k) ?_ (fun k21 h21 => ?_)
  · refine X_iconst (v := (0 : Int32)) (pc := 21) (td kX11_watch 10 rfl) (by decide) ?_
    exact X_ret (pc := 22) (td kX11_watch 11 rfl) rfl
  · refine X_if_eq (pc := 8) (tgt := 21) (td kX11_watch 4 rfl) (by decide) (fun c_8 => ?_) (fun c_8 => ?_)
    · refine X_sub [] rfl ?_
      exact h21
    · refine X_iload_n (pc := 11) (td kX11_watch 5 rfl) rfl 2 rfl ?_
      refine X_if_lt (pc := 12) (tgt := 21) (td kX11_watch 6 rfl) (by decide) (fun c_12 => ?_) (fun c_12 => ?_)
      · refine X_sub [] rfl ?_
        exact h21
      · refine X_iload_n (pc := 15) (td kX11_watch 7 rfl) rfl 2 rfl ?_
        refine X_bipush (v := (30 : Int32)) (pc := 16) (td kX11_watch 8 rfl) (by decide) ?_
        refine X_icmp_le (pc := 18) (tgt := 23) (td kX11_watch 9 rfl) (by decide) (fun c_18 => ?_) (fun c_18 => ?_)
        · refine X_aload_n (pc := 23) (td kX11_watch 12 rfl) rfl 0 rfl ?_
          refine X_getF (b := 127) (pc := 24) sC_0 rfl fk_X11_42 (td kX11_watch 13 rfl) ?_
          refine X_iload_n (pc := 27) (td kX11_watch 14 rfl) rfl 1 rfl ?_
          refine X_iload_n (pc := 28) (td kX11_watch 15 rfl) rfl 2 rfl ?_
          refine X_iload_n (pc := 29) (td kX11_watch 16 rfl) rfl 3 rfl ?_
          refine X_calli (pc := 30) (As := [.int p1, .int p2, .int p3]) (st := []) sC_127 (x_X10_add 127 p1 p2 p3 σ) mkX10_add lk_X11_242 (by omega) rfl rfl (Nat.le_of_ble_eq_true rfl) (td kX11_watch 17 rfl) (fun r30 σ30 _ hr30 => ?_)
          exact X_ret (pc := 33) (td kX11_watch 18 rfl) hr30
        · refine X_sub [] rfl ?_
          exact h21
def f_X11_way (p1 : Int32) (p2 : Int32) (σ : Mm) : Option (Int32 × Mm) := bn (gR σ 0 7) (fun t_1 => ck (isTown t_1) (cl (f_X9_lanesOfWay t_1 p1 p2 σ) (fun r6 _ => some (r6, σ))))
set_option maxHeartbeats 4000000 in
set_option maxRecDepth 100000 in
theorem x_X11_way (p1 : Int32) (p2 : Int32) (σ : Mm) : Con (wsOf SHC) yX11_way cX11_way 3 (some .int) 3 [.ref 0, .int p1, .int p2] σ (f_X11_way p1 p2 σ) := by
  refine Con.of_X (by decide +kernel) (Nat.le_of_ble_eq_true rfl) ?_
  unfold f_X11_way
  show X (wsOf SHC) RX11 cX11_way 3 (some .int) 3 0 0 [(0, .ref 0), (1, .int p1), (2, .int p2)] [] σ _
  refine X_aload_n (pc := 0) (td kX11_way 0 rfl) rfl 0 rfl ?_
  refine X_getR (pc := 1) sC_0 rfl fk_X11_63 (td kX11_way 1 rfl) ?_
  refine X_br (fun t_1 => ?_)
  refine X_iload_n (pc := 4) (td kX11_way 2 rfl) rfl 1 rfl ?_
  refine X_iload_n (pc := 5) (td kX11_way 3 rfl) rfl 2 rfl ?_
  refine X_ck (fun t_1_h => ?_)
  obtain ⟨t_1_s0, t_1_s1, t_1_s2, t_1_s3, t_1_s4, t_1_s5, t_1_s6, t_1_s7, t_1_s8, t_1_s9, t_1_s10, t_1_s11, t_1_s12, t_1_s13, t_1_s14⟩ := knTown t_1_h
  refine X_callip (pc := 6) (As := [.int p1, .int p2]) (st := []) (p_X9_lanesOfWay t_1 p1 p2 σ) t_1_s0 (x_X9_lanesOfWay t_1 p1 p2 σ) mkX9_lanesOfWay lk_X11_152 (by omega) rfl rfl (Nat.le_of_ble_eq_true rfl) (td kX11_way 4 rfl) (fun r6 hr6 => ?_)
  exact X_ret (pc := 9) (td kX11_way 5 rfl) rfl
set_option maxHeartbeats 4000000 in
theorem p_X11_way (p1 : Int32) (p2 : Int32) (σ : Mm) : Pu σ (f_X11_way p1 p2 σ) := by
  unfold f_X11_way
  refine Pu_bn (fun _ => ?_)
  refine Pu_ck ?_
  refine Pu_cl (fun _ _ => ?_)
  exact Pu_some
