def f_X6_isPlaceName (b1 : Nat) (σ : Mm) : Option (Int32 × Mm) := ck (isTown b1) (cl (f_X8_isName σ) (fun r4 _ => jn (some ((0 : Int32), σ)) (fun k29 => (if r4 = 0 then k29 else cl (f_X9_placeNamed b1 (gL σ 4 5) σ) (fun r18 _ => (if r18 = (-1 : Int32) then k29 else some ((1 : Int32), σ)))))))
set_option maxHeartbeats 4000000 in
set_option maxRecDepth 100000 in
theorem x_X6_isPlaceName (b1 : Nat) (σ : Mm) : Con (wsOf SHC) yX6_isPlaceName cX6_isPlaceName 2 (some .boolean) 2 [.ref 3, .ref b1] σ (f_X6_isPlaceName b1 σ) := by
  refine Con.of_X (by decide +kernel) (Nat.le_of_ble_eq_true rfl) ?_
  unfold f_X6_isPlaceName
  show X (wsOf SHC) RX6 cX6_isPlaceName 2 (some .boolean) 2 0 0 [(0, .ref 3), (1, .ref b1)] [] σ _
  refine X_ck (fun b1_h => ?_)
  obtain ⟨b1_s0, b1_s1, b1_s2, b1_s3, b1_s4, b1_s5, b1_s6, b1_s7, b1_s8, b1_s9, b1_s10, b1_s11, b1_s12, b1_s13, b1_s14⟩ := knTown b1_h
  refine X_aload_n (pc := 0) (td kX6_isPlaceName 0 rfl) rfl 0 rfl ?_
  refine X_getF (b := 4) (pc := 1) sC_3 rfl fk_X6_14 (td kX6_isPlaceName 1 rfl) ?_
  refine X_callip (pc := 4) (As := []) (st := []) (p_X8_isName σ) sC_4 (x_X8_isName σ) mkX8_isName lk_X6_179 (by omega) rfl rfl (Nat.le_of_ble_eq_true rfl) (td kX6_isPlaceName 2 rfl) (fun r4 hr4 => ?_)
  refine X_jn (P := fun k => X (wsOf SHC) RX6 cX6_isPlaceName 2 (some .boolean) 2 0 29 [] [] σ k) ?_ (fun k29 h29 => ?_)
  · refine X_iconst (v := (0 : Int32)) (pc := 29) (td kX6_isPlaceName 13 rfl) (by decide) ?_
    exact X_ret (pc := 30) (td kX6_isPlaceName 14 rfl) rfl
  · refine X_if_eq (pc := 7) (tgt := 29) (td kX6_isPlaceName 3 rfl) (by decide) (fun c_7 => ?_) (fun c_7 => ?_)
    · refine X_sub [] rfl ?_
      exact h29
    · refine X_aload_n (pc := 10) (td kX6_isPlaceName 4 rfl) rfl 1 rfl ?_
      refine X_aload_n (pc := 11) (td kX6_isPlaceName 5 rfl) rfl 0 rfl ?_
      refine X_getF (b := 4) (pc := 12) sC_3 rfl fk_X6_14 (td kX6_isPlaceName 6 rfl) ?_
      refine X_getL (pc := 15) sC_4 rfl fk_X6_85 (td kX6_isPlaceName 7 rfl) ?_
      refine X_callip (pc := 18) (As := [.long (gL σ 4 5)]) (st := []) (p_X9_placeNamed b1 (gL σ 4 5) σ) b1_s0 (x_X9_placeNamed b1 (gL σ 4 5) σ) mkX9_placeNamed lk_X6_107 (by omega) rfl rfl (Nat.le_of_ble_eq_true rfl) (td kX6_isPlaceName 8 rfl) (fun r18 hr18 => ?_)
      refine X_iconst (v := (-1 : Int32)) (pc := 21) (td kX6_isPlaceName 9 rfl) (by decide) ?_
      refine X_icmp_eq (pc := 22) (tgt := 29) (td kX6_isPlaceName 10 rfl) (by decide) (fun c_22 => ?_) (fun c_22 => ?_)
      · refine X_sub [] rfl ?_
        exact h29
      · refine X_iconst (v := (1 : Int32)) (pc := 25) (td kX6_isPlaceName 11 rfl) (by decide) ?_
        refine X_goto (pc := 26) (tgt := 30) (td kX6_isPlaceName 12 rfl) (by decide) ?_
        exact X_ret (pc := 30) (td kX6_isPlaceName 14 rfl) rfl
set_option maxHeartbeats 4000000 in
theorem p_X6_isPlaceName (b1 : Nat) (σ : Mm) : Pu σ (f_X6_isPlaceName b1 σ) := by
  unfold f_X6_isPlaceName
  refine Pu_ck ?_
  refine Pu_cl (fun _ _ => ?_)
  refine Pu_jn (fun k => Pu σ (k)) ?_ (fun k29 h29 => ?_)
  · exact Pu_some
  · refine Pu_if ?_ ?_
    · exact h29
    · refine Pu_cl (fun _ _ => ?_)
      refine Pu_if ?_ ?_
      · exact h29
      · exact Pu_some
def f_X6_wrong (p1 : Int32) (σ : Mm) : Option (Int32 × Mm) := bn (pI σ 3 1 (p1 + ((16 : Int32) * (gI σ 4 3)))) (fun σ13 => some ((0 : Int32), σ13))
set_option maxHeartbeats 4000000 in
set_option maxRecDepth 100000 in
theorem x_X6_wrong (p1 : Int32) (σ : Mm) : Con (wsOf SHC) yX6_wrong cX6_wrong 2 (some .boolean) 1 [.ref 3, .int p1] σ (f_X6_wrong p1 σ) := by
  refine Con.of_X (by decide +kernel) (Nat.le_of_ble_eq_true rfl) ?_
  unfold f_X6_wrong
  show X (wsOf SHC) RX6 cX6_wrong 2 (some .boolean) 1 0 0 [(0, .ref 3), (1, .int p1)] [] σ _
  refine X_aload_n (pc := 0) (td kX6_wrong 0 rfl) rfl 0 rfl ?_
  refine X_iload_n (pc := 1) (td kX6_wrong 1 rfl) rfl 1 rfl ?_
  refine X_bipush (v := (16 : Int32)) (pc := 2) (td kX6_wrong 2 rfl) (by decide) ?_
  refine X_aload_n (pc := 4) (td kX6_wrong 3 rfl) rfl 0 rfl ?_
  refine X_getF (b := 4) (pc := 5) sC_3 rfl fk_X6_14 (td kX6_wrong 4 rfl) ?_
  refine X_getI (pc := 8) sC_4 rfl fk_X6_72 (td kX6_wrong 5 rfl) ?_
  refine X_imul (pc := 11) (td kX6_wrong 6 rfl) ?_
  refine X_iadd (pc := 12) (td kX6_wrong 7 rfl) ?_
  refine X_putI (pc := 13) sC_3 rfl fk_X6_25 rfl rfl (td kX6_wrong 8 rfl) (fun σ13 => ?_)
  refine X_iconst (v := (0 : Int32)) (pc := 16) (td kX6_wrong 9 rfl) (by decide) ?_
  exact X_ret (pc := 17) (td kX6_wrong 10 rfl) rfl
def f_X6_readTold (p1 : Int32) (σ : Mm) : Option (Int32 × Mm) := jn (fun (σ_35 : Mm) => some (p1, σ_35)) (fun k35 => (if p1 = (-1 : Int32) then cl (f_X8_isName σ) (fun r10 _ => jn (fun (y1_21 : Int32) => cl (f_X6_wrong y1_21 σ) (fun r21 σ21 => k35 σ21)) (fun k21 => (if r10 = 0 then k21 (1 : Int32) else k21 (2 : Int32)))) else cl (f_X8_advance σ) (fun _ σ32 => k35 σ32)))
set_option maxHeartbeats 4000000 in
set_option maxRecDepth 100000 in
theorem x_X6_readTold (p1 : Int32) (σ : Mm) : Con (wsOf SHC) yX6_readTold cX6_readTold 2 (some .int) 6 [.ref 3, .int p1] σ (f_X6_readTold p1 σ) := by
  refine Con.of_X (by decide +kernel) (Nat.le_of_ble_eq_true rfl) ?_
  unfold f_X6_readTold
  show X (wsOf SHC) RX6 cX6_readTold 2 (some .int) 6 0 0 [(0, .ref 3), (1, .int p1)] [] σ _
  refine X_iload_n (pc := 0) (td kX6_readTold 0 rfl) rfl 1 rfl ?_
  refine X_iconst (v := (-1 : Int32)) (pc := 1) (td kX6_readTold 1 rfl) (by decide) ?_
  refine X_jn (P := fun k => ∀ (σ_35 : Mm), X (wsOf SHC) RX6 cX6_readTold 2 (some .int) 6 0 35 [(1, .int p1)] [] σ_35 (k σ_35)) (fun σ_35 => ?_) (fun k35 h35 => ?_)
  · refine X_iload_n (pc := 35) (td kX6_readTold 17 rfl) rfl 0 rfl ?_
    exact X_ret (pc := 36) (td kX6_readTold 18 rfl) rfl
  · refine X_icmp_ne (pc := 2) (tgt := 28) (td kX6_readTold 2 rfl) (by decide) (fun c_2 => ?_) (fun c_2 => ?_)
    · refine X_aload_n (pc := 28) (td kX6_readTold 14 rfl) rfl 0 rfl ?_
      refine X_getF (b := 4) (pc := 29) sC_3 rfl fk_X6_14 (td kX6_readTold 15 rfl) ?_
      refine X_callv (pc := 32) (As := []) (st := []) sC_4 (x_X8_advance σ) mkX8_advance lk_X6_78 (by omega) rfl rfl (Nat.le_of_ble_eq_true rfl) (td kX6_readTold 16 rfl) (fun _ σ32 _ => ?_)
      refine X_sub [1] rfl ?_
      exact h35 σ32
    · refine X_aload_n (pc := 5) (td kX6_readTold 3 rfl) rfl 0 rfl ?_
      refine X_aload_n (pc := 6) (td kX6_readTold 4 rfl) rfl 0 rfl ?_
      refine X_getF (b := 4) (pc := 7) sC_3 rfl fk_X6_14 (td kX6_readTold 5 rfl) ?_
      refine X_callip (pc := 10) (As := []) (st := [.ref 3]) (p_X8_isName σ) sC_4 (x_X8_isName σ) mkX8_isName lk_X6_179 (by omega) rfl rfl (Nat.le_of_ble_eq_true rfl) (td kX6_readTold 6 rfl) (fun r10 hr10 => ?_)
      refine X_jn (P := fun k => ∀ (y1_21 : Int32), X (wsOf SHC) RX6 cX6_readTold 2 (some .int) 6 0 21 [(1, .int p1)] [.int y1_21, .ref 3] σ (k y1_21)) (fun y1_21 => ?_) (fun k21 h21 => ?_)
      · refine X_calli (pc := 21) (As := [.int y1_21]) (st := []) sC_3 (x_X6_wrong y1_21 σ) mkX6_wrong lk_X6_56 (by omega) rfl rfl (Nat.le_of_ble_eq_true rfl) (td kX6_readTold 11 rfl) (fun r21 σ21 _ hr21 => ?_)
        refine X_pop (pc := 24) (td kX6_readTold 12 rfl) rfl ?_
        refine X_goto (pc := 25) (tgt := 35) (td kX6_readTold 13 rfl) (by decide) ?_
        exact h35 σ21
      · refine X_if_eq (pc := 13) (tgt := 20) (td kX6_readTold 7 rfl) (by decide) (fun c_13 => ?_) (fun c_13 => ?_)
        · refine X_iconst (v := (1 : Int32)) (pc := 20) (td kX6_readTold 10 rfl) (by decide) ?_
          refine X_sub [1] rfl ?_
          exact h21 (1 : Int32)
        · refine X_iconst (v := (2 : Int32)) (pc := 16) (td kX6_readTold 8 rfl) (by decide) ?_
          refine X_goto (pc := 17) (tgt := 21) (td kX6_readTold 9 rfl) (by decide) ?_
          refine X_sub [1] rfl ?_
          exact h21 (2 : Int32)
def f_X6_readPlaceName (b1 : Nat) (σ : Mm) : Option (Int32 × Mm) := ck (isTown b1) (cl (f_X8_isName σ) (fun r5 _ => jn (fun (y1_26 : Int32) => cl (f_X6_readTold y1_26 σ) (fun r26 σ26 => some (r26, σ26))) (fun k26 => (if r5 = 0 then k26 (-1 : Int32) else cl (f_X9_placeNamed b1 (gL σ 4 5) σ) (fun r19 _ => k26 r19)))))
set_option maxHeartbeats 4000000 in
set_option maxRecDepth 100000 in
theorem x_X6_readPlaceName (b1 : Nat) (σ : Mm) : Con (wsOf SHC) yX6_readPlaceName cX6_readPlaceName 2 (some .int) 7 [.ref 3, .ref b1] σ (f_X6_readPlaceName b1 σ) := by
  refine Con.of_X (by decide +kernel) (Nat.le_of_ble_eq_true rfl) ?_
  unfold f_X6_readPlaceName
  show X (wsOf SHC) RX6 cX6_readPlaceName 2 (some .int) 7 0 0 [(0, .ref 3), (1, .ref b1)] [] σ _
  refine X_ck (fun b1_h => ?_)
  obtain ⟨b1_s0, b1_s1, b1_s2, b1_s3, b1_s4, b1_s5, b1_s6, b1_s7, b1_s8, b1_s9, b1_s10, b1_s11, b1_s12, b1_s13, b1_s14⟩ := knTown b1_h
  refine X_aload_n (pc := 0) (td kX6_readPlaceName 0 rfl) rfl 0 rfl ?_
  refine X_aload_n (pc := 1) (td kX6_readPlaceName 1 rfl) rfl 0 rfl ?_
  refine X_getF (b := 4) (pc := 2) sC_3 rfl fk_X6_14 (td kX6_readPlaceName 2 rfl) ?_
  refine X_callip (pc := 5) (As := []) (st := [.ref 3]) (p_X8_isName σ) sC_4 (x_X8_isName σ) mkX8_isName lk_X6_179 (by omega) rfl rfl (Nat.le_of_ble_eq_true rfl) (td kX6_readPlaceName 3 rfl) (fun r5 hr5 => ?_)
  refine X_jn (P := fun k => ∀ (y1_26 : Int32), X (wsOf SHC) RX6 cX6_readPlaceName 2 (some .int) 7 0 26 [] [.int y1_26, .ref 3] σ (k y1_26)) (fun y1_26 => ?_) (fun k26 h26 => ?_)
  · refine X_calli (pc := 26) (As := [.int y1_26]) (st := []) sC_3 (x_X6_readTold y1_26 σ) mkX6_readTold lk_X6_186 (by omega) rfl rfl (Nat.le_of_ble_eq_true rfl) (td kX6_readPlaceName 12 rfl) (fun r26 σ26 _ hr26 => ?_)
    exact X_ret (pc := 29) (td kX6_readPlaceName 13 rfl) rfl
  · refine X_if_eq (pc := 8) (tgt := 25) (td kX6_readPlaceName 4 rfl) (by decide) (fun c_8 => ?_) (fun c_8 => ?_)
    · refine X_iconst (v := (-1 : Int32)) (pc := 25) (td kX6_readPlaceName 11 rfl) (by decide) ?_
      refine X_sub [] rfl ?_
      exact h26 (-1 : Int32)
    · refine X_aload_n (pc := 11) (td kX6_readPlaceName 5 rfl) rfl 1 rfl ?_
      refine X_aload_n (pc := 12) (td kX6_readPlaceName 6 rfl) rfl 0 rfl ?_
      refine X_getF (b := 4) (pc := 13) sC_3 rfl fk_X6_14 (td kX6_readPlaceName 7 rfl) ?_
      refine X_getL (pc := 16) sC_4 rfl fk_X6_85 (td kX6_readPlaceName 8 rfl) ?_
      refine X_callip (pc := 19) (As := [.long (gL σ 4 5)]) (st := [.ref 3]) (p_X9_placeNamed b1 (gL σ 4 5) σ) b1_s0 (x_X9_placeNamed b1 (gL σ 4 5) σ) mkX9_placeNamed lk_X6_107 (by omega) rfl rfl (Nat.le_of_ble_eq_true rfl) (td kX6_readPlaceName 9 rfl) (fun r19 hr19 => ?_)
      refine X_goto (pc := 22) (tgt := 26) (td kX6_readPlaceName 10 rfl) (by decide) ?_
      refine X_sub [] rfl ?_
      exact h26 r19
def f_X6_readSign (p1 : Int32) (σ : Mm) : Option (Int32 × Mm) := cl (f_X8_isSign p1 σ) (fun r5 _ => (if r5 = 0 then cl (f_X6_wrong (1 : Int32) σ) (fun r13 σ13 => some (r13, σ13)) else cl (f_X8_advance σ) (fun _ σ21 => some ((1 : Int32), σ21))))
set_option maxHeartbeats 4000000 in
set_option maxRecDepth 100000 in
theorem x_X6_readSign (p1 : Int32) (σ : Mm) : Con (wsOf SHC) yX6_readSign cX6_readSign 2 (some .boolean) 6 [.ref 3, .int p1] σ (f_X6_readSign p1 σ) := by
  refine Con.of_X (by decide +kernel) (Nat.le_of_ble_eq_true rfl) ?_
  unfold f_X6_readSign
  show X (wsOf SHC) RX6 cX6_readSign 2 (some .boolean) 6 0 0 [(0, .ref 3), (1, .int p1)] [] σ _
  refine X_aload_n (pc := 0) (td kX6_readSign 0 rfl) rfl 0 rfl ?_
  refine X_getF (b := 4) (pc := 1) sC_3 rfl fk_X6_14 (td kX6_readSign 1 rfl) ?_
  refine X_iload_n (pc := 4) (td kX6_readSign 2 rfl) rfl 1 rfl ?_
  refine X_callip (pc := 5) (As := [.int p1]) (st := []) (p_X8_isSign p1 σ) sC_4 (x_X8_isSign p1 σ) mkX8_isSign lk_X6_171 (by omega) rfl rfl (Nat.le_of_ble_eq_true rfl) (td kX6_readSign 3 rfl) (fun r5 hr5 => ?_)
  refine X_if_ne (pc := 8) (tgt := 17) (td kX6_readSign 4 rfl) (by decide) (fun c_8 => ?_) (fun c_8 => ?_)
  · refine X_aload_n (pc := 17) (td kX6_readSign 9 rfl) rfl 0 rfl ?_
    refine X_getF (b := 4) (pc := 18) sC_3 rfl fk_X6_14 (td kX6_readSign 10 rfl) ?_
    refine X_callv (pc := 21) (As := []) (st := []) sC_4 (x_X8_advance σ) mkX8_advance lk_X6_78 (by omega) rfl rfl (Nat.le_of_ble_eq_true rfl) (td kX6_readSign 11 rfl) (fun _ σ21 _ => ?_)
    refine X_iconst (v := (1 : Int32)) (pc := 24) (td kX6_readSign 12 rfl) (by decide) ?_
    exact X_ret (pc := 25) (td kX6_readSign 13 rfl) rfl
  · refine X_aload_n (pc := 11) (td kX6_readSign 5 rfl) rfl 0 rfl ?_
    refine X_iconst (v := (1 : Int32)) (pc := 12) (td kX6_readSign 6 rfl) (by decide) ?_
    refine X_calli (pc := 13) (As := [.int (1 : Int32)]) (st := []) sC_3 (x_X6_wrong (1 : Int32) σ) mkX6_wrong lk_X6_56 (by omega) rfl rfl (Nat.le_of_ble_eq_true rfl) (td kX6_readSign 7 rfl) (fun r13 σ13 _ hr13 => ?_)
    exact X_ret (pc := 16) (td kX6_readSign 8 rfl) hr13
def f_X6_readWalkerName (b1 : Nat) (σ : Mm) : Option (Int32 × Mm) := ck (isTown b1) (cl (f_X8_isName σ) (fun r5 _ => jn (fun (y1_26 : Int32) => cl (f_X6_readTold y1_26 σ) (fun r26 σ26 => some (r26, σ26))) (fun k26 => (if r5 = 0 then k26 (-1 : Int32) else cl (f_X9_walkerNamed b1 (gL σ 4 5) σ) (fun r19 _ => k26 r19)))))
set_option maxHeartbeats 4000000 in
set_option maxRecDepth 100000 in
theorem x_X6_readWalkerName (b1 : Nat) (σ : Mm) : Con (wsOf SHC) yX6_readWalkerName cX6_readWalkerName 2 (some .int) 7 [.ref 3, .ref b1] σ (f_X6_readWalkerName b1 σ) := by
  refine Con.of_X (by decide +kernel) (Nat.le_of_ble_eq_true rfl) ?_
  unfold f_X6_readWalkerName
  show X (wsOf SHC) RX6 cX6_readWalkerName 2 (some .int) 7 0 0 [(0, .ref 3), (1, .ref b1)] [] σ _
  refine X_ck (fun b1_h => ?_)
  obtain ⟨b1_s0, b1_s1, b1_s2, b1_s3, b1_s4, b1_s5, b1_s6, b1_s7, b1_s8, b1_s9, b1_s10, b1_s11, b1_s12, b1_s13, b1_s14⟩ := knTown b1_h
  refine X_aload_n (pc := 0) (td kX6_readWalkerName 0 rfl) rfl 0 rfl ?_
  refine X_aload_n (pc := 1) (td kX6_readWalkerName 1 rfl) rfl 0 rfl ?_
  refine X_getF (b := 4) (pc := 2) sC_3 rfl fk_X6_14 (td kX6_readWalkerName 2 rfl) ?_
  refine X_callip (pc := 5) (As := []) (st := [.ref 3]) (p_X8_isName σ) sC_4 (x_X8_isName σ) mkX8_isName lk_X6_179 (by omega) rfl rfl (Nat.le_of_ble_eq_true rfl) (td kX6_readWalkerName 3 rfl) (fun r5 hr5 => ?_)
  refine X_jn (P := fun k => ∀ (y1_26 : Int32), X (wsOf SHC) RX6 cX6_readWalkerName 2 (some .int) 7 0 26 [] [.int y1_26, .ref 3] σ (k y1_26)) (fun y1_26 => ?_) (fun k26 h26 => ?_)
  · refine X_calli (pc := 26) (As := [.int y1_26]) (st := []) sC_3 (x_X6_readTold y1_26 σ) mkX6_readTold lk_X6_186 (by omega) rfl rfl (Nat.le_of_ble_eq_true rfl) (td kX6_readWalkerName 12 rfl) (fun r26 σ26 _ hr26 => ?_)
    exact X_ret (pc := 29) (td kX6_readWalkerName 13 rfl) rfl
  · refine X_if_eq (pc := 8) (tgt := 25) (td kX6_readWalkerName 4 rfl) (by decide) (fun c_8 => ?_) (fun c_8 => ?_)
    · refine X_iconst (v := (-1 : Int32)) (pc := 25) (td kX6_readWalkerName 11 rfl) (by decide) ?_
      refine X_sub [] rfl ?_
      exact h26 (-1 : Int32)
    · refine X_aload_n (pc := 11) (td kX6_readWalkerName 5 rfl) rfl 1 rfl ?_
      refine X_aload_n (pc := 12) (td kX6_readWalkerName 6 rfl) rfl 0 rfl ?_
      refine X_getF (b := 4) (pc := 13) sC_3 rfl fk_X6_14 (td kX6_readWalkerName 7 rfl) ?_
      refine X_getL (pc := 16) sC_4 rfl fk_X6_85 (td kX6_readWalkerName 8 rfl) ?_
      refine X_callip (pc := 19) (As := [.long (gL σ 4 5)]) (st := [.ref 3]) (p_X9_walkerNamed b1 (gL σ 4 5) σ) b1_s0 (x_X9_walkerNamed b1 (gL σ 4 5) σ) mkX9_walkerNamed lk_X6_183 (by omega) rfl rfl (Nat.le_of_ble_eq_true rfl) (td kX6_readWalkerName 9 rfl) (fun r19 hr19 => ?_)
      refine X_goto (pc := 22) (tgt := 26) (td kX6_readWalkerName 10 rfl) (by decide) ?_
      refine X_sub [] rfl ?_
      exact h26 r19
def J_X6_readEveningLine_22 (b1 : Nat) (b2 : Nat) (σ : Mm) (y0_22 : Int32) : Option (Int32 × Mm) := jn (cl (f_X6_wrong (1 : Int32) σ) (fun r37 σ37 => some (0, σ37))) (fun k35 => (if y0_22 < (8 : Int32) then k35 else (if (11 : Int32) < y0_22 then k35 else (if (gI σ b1 0) < (40 : Int32) then cl (f_X8_advance σ) (fun _ σ62 => jn (fun (x4_156 : Int32) (x5_156 : Int32) (σ_156 : Mm) => cl (f_X6_readSign (59 : Int32) σ_156) (fun r159 σ159 => (if r159 = 0 then some (0, σ159) else cl (f_X2_add b1 y0_22 x4_156 x5_156 σ159) (fun _ σ171 => some (0, σ171))))) (fun k156 => (if y0_22 = (9 : Int32) then cl (f_X6_readPlaceName b2 σ62) (fun r79 σ79 => (if r79 = (-1 : Int32) then some (0, σ79) else cl (f_X6_isPlaceName b2 σ79) (fun r93 _ => jn (cl (f_X6_readPlaceName b2 σ79) (fun r124 σ124 => (if r124 = (-1 : Int32) then some (0, σ124) else k156 r79 r124 σ124))) (fun k122 => (if r93 = 0 then k122 else cl (f_X9_placeNamed b2 (gL σ79 4 5) σ79) (fun r107 _ => (if r107 = r79 then cl (f_X6_wrong (3 : Int32) σ79) (fun r117 σ117 => some (0, σ117)) else k122))))))) else (if y0_22 = (8 : Int32) then k156 (-1 : Int32) (-1 : Int32) σ62 else cl (f_X6_readWalkerName b2 σ62) (fun r144 σ144 => (if r144 = (-1 : Int32) then some (0, σ144) else k156 r144 (-1 : Int32) σ144)))))) else cl (f_X6_wrong (5 : Int32) σ) (fun r53 σ53 => some (0, σ53))))))
def f_X6_readEveningLine (b1 : Nat) (b2 : Nat) (σ : Mm) : Option (Int32 × Mm) := ck (isLines b1) (ck (isTown b2) (jn (J_X6_readEveningLine_22 b1 b2 σ) (fun k22 => (if (gI σ 4 2) = (2 : Int32) then k22 (gI σ 4 6) else k22 (-1 : Int32)))))
set_option maxHeartbeats 4000000 in
set_option maxRecDepth 100000 in
theorem x_X6_readEveningLine (b1 : Nat) (b2 : Nat) (σ : Mm) : Con (wsOf SHC) yX6_readEveningLine cX6_readEveningLine 6 none 8 [.ref 3, .ref b1, .ref b2] σ (f_X6_readEveningLine b1 b2 σ) := by
  refine Con.of_X (by decide +kernel) (Nat.le_of_ble_eq_true rfl) ?_
  unfold f_X6_readEveningLine
  show X (wsOf SHC) RX6 cX6_readEveningLine 6 none 8 0 0 [(0, .ref 3), (1, .ref b1), (2, .ref b2)] [] σ _
  refine X_ck (fun b1_h => ?_)
  obtain ⟨b1_s0, b1_s1, b1_s2, b1_s3⟩ := knLines b1_h
  refine X_ck (fun b2_h => ?_)
  obtain ⟨b2_s0, b2_s1, b2_s2, b2_s3, b2_s4, b2_s5, b2_s6, b2_s7, b2_s8, b2_s9, b2_s10, b2_s11, b2_s12, b2_s13, b2_s14⟩ := knTown b2_h
  refine X_aload_n (pc := 0) (td kX6_readEveningLine 0 rfl) rfl 0 rfl ?_
  refine X_getF (b := 4) (pc := 1) sC_3 rfl fk_X6_14 (td kX6_readEveningLine 1 rfl) ?_
  refine X_getI (pc := 4) sC_4 rfl fk_X6_34 (td kX6_readEveningLine 2 rfl) ?_
  refine X_iconst (v := (2 : Int32)) (pc := 7) (td kX6_readEveningLine 3 rfl) (by decide) ?_
  refine X_jn (P := fun k => ∀ (y0_22 : Int32), X (wsOf SHC) RX6 cX6_readEveningLine 6 none 8 0 22 [(0, .ref 3), (1, .ref b1), (2, .ref b2)] [.int y0_22] σ (k y0_22)) (fun y0_22 => ?_) (fun k22 h22 => ?_)
  · unfold J_X6_readEveningLine_22
    refine X_istore_n (L' := [(3, .int y0_22), (0, .ref 3), (1, .ref b1), (2, .ref b2)]) (pc := 22) (td kX6_readEveningLine 10 rfl) rfl (by decide) rfl ?_
    refine X_iload_n (pc := 23) (td kX6_readEveningLine 11 rfl) rfl 0 rfl ?_
    refine X_bipush (v := (8 : Int32)) (pc := 24) (td kX6_readEveningLine 12 rfl) (by decide) ?_
    refine X_jn (P := fun k => X (wsOf SHC) RX6 cX6_readEveningLine 6 none 8 0 35 [(0, .ref 3)] [] σ k) ?_ (fun k35 h35 => ?_)
    · refine X_aload_n (pc := 35) (td kX6_readEveningLine 17 rfl) rfl 0 rfl ?_
      refine X_iconst (v := (1 : Int32)) (pc := 36) (td kX6_readEveningLine 18 rfl) (by decide) ?_
      refine X_calli (pc := 37) (As := [.int (1 : Int32)]) (st := []) sC_3 (x_X6_wrong (1 : Int32) σ) mkX6_wrong lk_X6_56 (by omega) rfl rfl (Nat.le_of_ble_eq_true rfl) (td kX6_readEveningLine 19 rfl) (fun r37 σ37 _ hr37 => ?_)
      refine X_pop (pc := 40) (td kX6_readEveningLine 20 rfl) rfl ?_
      exact X_retv (pc := 41) (td kX6_readEveningLine 21 rfl)
    · refine X_icmp_lt (pc := 26) (tgt := 35) (td kX6_readEveningLine 13 rfl) (by decide) (fun c_26 => ?_) (fun c_26 => ?_)
      · refine X_sub [1] rfl ?_
        exact h35
      · refine X_iload_n (pc := 29) (td kX6_readEveningLine 14 rfl) rfl 0 rfl ?_
        refine X_bipush (v := (11 : Int32)) (pc := 30) (td kX6_readEveningLine 15 rfl) (by decide) ?_
        refine X_icmp_le (pc := 32) (tgt := 42) (td kX6_readEveningLine 16 rfl) (by decide) (fun c_32 => ?_) (fun c_32 => ?_)
        · refine X_aload_n (pc := 42) (td kX6_readEveningLine 22 rfl) rfl 2 rfl ?_
          refine X_getI (pc := 43) b1_s0 rfl fk_X6_63 (td kX6_readEveningLine 23 rfl) ?_
          refine X_bipush (v := (40 : Int32)) (pc := 46) (td kX6_readEveningLine 24 rfl) (by decide) ?_
          refine X_icmp_lt (pc := 48) (tgt := 58) (td kX6_readEveningLine 25 rfl) (by decide) (fun c_48 => ?_) (fun c_48 => ?_)
          · refine X_aload_n (pc := 58) (td kX6_readEveningLine 31 rfl) rfl 1 rfl ?_
            refine X_getF (b := 4) (pc := 59) sC_3 rfl fk_X6_14 (td kX6_readEveningLine 32 rfl) ?_
            refine X_callv (pc := 62) (As := []) (st := []) sC_4 (x_X8_advance σ) mkX8_advance lk_X6_78 (by omega) rfl rfl (Nat.le_of_ble_eq_true rfl) (td kX6_readEveningLine 33 rfl) (fun _ σ62 _ => ?_)
            refine X_iconst (v := (-1 : Int32)) (pc := 65) (td kX6_readEveningLine 34 rfl) (by decide) ?_
            refine X_istore (L' := [(4, .int (-1 : Int32)), (3, .int y0_22), (0, .ref 3), (1, .ref b1), (2, .ref b2)]) (pc := 66) (td kX6_readEveningLine 35 rfl) (by decide) rfl ?_
            refine X_iconst (v := (-1 : Int32)) (pc := 68) (td kX6_readEveningLine 36 rfl) (by decide) ?_
            refine X_istore (L' := [(5, .int (-1 : Int32)), (4, .int (-1 : Int32)), (3, .int y0_22), (0, .ref 3), (1, .ref b1), (2, .ref b2)]) (pc := 69) (td kX6_readEveningLine 37 rfl) (by decide) rfl ?_
            refine X_iload_n (pc := 71) (td kX6_readEveningLine 38 rfl) rfl 2 rfl ?_
            refine X_bipush (v := (9 : Int32)) (pc := 72) (td kX6_readEveningLine 39 rfl) (by decide) ?_
            refine X_jn (P := fun k => ∀ (x4_156 : Int32) (x5_156 : Int32) (σ_156 : Mm), X (wsOf SHC) RX6 cX6_readEveningLine 6 none 8 0 156 [(0, .ref 3), (1, .ref b1), (3, .int y0_22), (4, .int x4_156), (5, .int x5_156)] [] σ_156 (k x4_156 x5_156 σ_156)) (fun x4_156 x5_156 σ_156 => ?_) (fun k156 h156 => ?_)
            · refine X_aload_n (pc := 156) (td kX6_readEveningLine 84 rfl) rfl 0 rfl ?_
              refine X_bipush (v := (59 : Int32)) (pc := 157) (td kX6_readEveningLine 85 rfl) (by decide) ?_
              refine X_calli (pc := 159) (As := [.int (59 : Int32)]) (st := []) sC_3 (x_X6_readSign (59 : Int32) σ_156) mkX6_readSign lk_X6_89 (by omega) rfl rfl (Nat.le_of_ble_eq_true rfl) (td kX6_readEveningLine 86 rfl) (fun r159 σ159 _ hr159 => ?_)
              refine X_if_eq (pc := 162) (tgt := 174) (td kX6_readEveningLine 87 rfl) (by decide) (fun c_162 => ?_) (fun c_162 => ?_)
              · exact X_retv (pc := 174) (td kX6_readEveningLine 93 rfl)
              · refine X_aload_n (pc := 165) (td kX6_readEveningLine 88 rfl) rfl 1 rfl ?_
                refine X_iload_n (pc := 166) (td kX6_readEveningLine 89 rfl) rfl 2 rfl ?_
                refine X_iload (pc := 167) (td kX6_readEveningLine 90 rfl) 3 rfl ?_
                refine X_iload (pc := 169) (td kX6_readEveningLine 91 rfl) 4 rfl ?_
                refine X_callv (pc := 171) (As := [.int y0_22, .int x4_156, .int x5_156]) (st := []) b1_s0 (x_X2_add b1 y0_22 x4_156 x5_156 σ159) mkX2_add lk_X6_177 (by omega) rfl rfl (Nat.le_of_ble_eq_true rfl) (td kX6_readEveningLine 92 rfl) (fun _ σ171 _ => ?_)
                exact X_retv (pc := 174) (td kX6_readEveningLine 93 rfl)
            · refine X_icmp_ne (pc := 74) (tgt := 136) (td kX6_readEveningLine 40 rfl) (by decide) (fun c_74 => ?_) (fun c_74 => ?_)
              · refine X_iload_n (pc := 136) (td kX6_readEveningLine 73 rfl) rfl 2 rfl ?_
                refine X_bipush (v := (8 : Int32)) (pc := 137) (td kX6_readEveningLine 74 rfl) (by decide) ?_
                refine X_icmp_eq (pc := 139) (tgt := 156) (td kX6_readEveningLine 75 rfl) (by decide) (fun c_139 => ?_) (fun c_139 => ?_)
                · refine X_sub [3, 4, 2, 1, 0] rfl ?_
                  exact h156 (-1 : Int32) (-1 : Int32) σ62
                · refine X_aload_n (pc := 142) (td kX6_readEveningLine 76 rfl) rfl 3 rfl ?_
                  refine X_aload_n (pc := 143) (td kX6_readEveningLine 77 rfl) rfl 5 rfl ?_
                  refine X_calli (pc := 144) (As := [.ref b2]) (st := []) sC_3 (x_X6_readWalkerName b2 σ62) mkX6_readWalkerName lk_X6_174 (by omega) rfl rfl (Nat.le_of_ble_eq_true rfl) (td kX6_readEveningLine 78 rfl) (fun r144 σ144 _ hr144 => ?_)
                  refine X_istore (L' := [(4, .int r144), (5, .int (-1 : Int32)), (3, .int y0_22), (0, .ref 3), (1, .ref b1), (2, .ref b2)]) (pc := 147) (td kX6_readEveningLine 79 rfl) (by decide) rfl ?_
                  refine X_iload (pc := 149) (td kX6_readEveningLine 80 rfl) 0 rfl ?_
                  refine X_iconst (v := (-1 : Int32)) (pc := 151) (td kX6_readEveningLine 81 rfl) (by decide) ?_
                  refine X_icmp_ne (pc := 152) (tgt := 156) (td kX6_readEveningLine 82 rfl) (by decide) (fun c_152 => ?_) (fun c_152 => ?_)
                  · refine X_sub [3, 4, 2, 0, 1] rfl ?_
                    exact h156 r144 (-1 : Int32) σ144
                  · exact X_retv (pc := 155) (td kX6_readEveningLine 83 rfl)
              · refine X_aload_n (pc := 77) (td kX6_readEveningLine 41 rfl) rfl 3 rfl ?_
                refine X_aload_n (pc := 78) (td kX6_readEveningLine 42 rfl) rfl 5 rfl ?_
                refine X_calli (pc := 79) (As := [.ref b2]) (st := []) sC_3 (x_X6_readPlaceName b2 σ62) mkX6_readPlaceName lk_X6_100 (by omega) rfl rfl (Nat.le_of_ble_eq_true rfl) (td kX6_readEveningLine 43 rfl) (fun r79 σ79 _ hr79 => ?_)
                refine X_istore (L' := [(4, .int r79), (5, .int (-1 : Int32)), (3, .int y0_22), (0, .ref 3), (1, .ref b1), (2, .ref b2)]) (pc := 82) (td kX6_readEveningLine 44 rfl) (by decide) rfl ?_
                refine X_iload (pc := 84) (td kX6_readEveningLine 45 rfl) 0 rfl ?_
                refine X_iconst (v := (-1 : Int32)) (pc := 86) (td kX6_readEveningLine 46 rfl) (by decide) ?_
                refine X_icmp_ne (pc := 87) (tgt := 91) (td kX6_readEveningLine 47 rfl) (by decide) (fun c_87 => ?_) (fun c_87 => ?_)
                · refine X_aload_n (pc := 91) (td kX6_readEveningLine 49 rfl) rfl 3 rfl ?_
                  refine X_aload_n (pc := 92) (td kX6_readEveningLine 50 rfl) rfl 5 rfl ?_
                  refine X_callip (pc := 93) (As := [.ref b2]) (st := []) (p_X6_isPlaceName b2 σ79) sC_3 (x_X6_isPlaceName b2 σ79) mkX6_isPlaceName lk_X6_104 (by omega) rfl rfl (Nat.le_of_ble_eq_true rfl) (td kX6_readEveningLine 51 rfl) (fun r93 hr93 => ?_)
                  refine X_jn (P := fun k => X (wsOf SHC) RX6 cX6_readEveningLine 6 none 8 0 122 [(0, .ref 3), (1, .ref b1), (2, .ref b2), (3, .int y0_22), (4, .int r79)] [] σ79 k) ?_ (fun k122 h122 => ?_)
                  · refine X_aload_n (pc := 122) (td kX6_readEveningLine 65 rfl) rfl 0 rfl ?_
                    refine X_aload_n (pc := 123) (td kX6_readEveningLine 66 rfl) rfl 2 rfl ?_
                    refine X_calli (pc := 124) (As := [.ref b2]) (st := []) sC_3 (x_X6_readPlaceName b2 σ79) mkX6_readPlaceName lk_X6_100 (by omega) rfl rfl (Nat.le_of_ble_eq_true rfl) (td kX6_readEveningLine 67 rfl) (fun r124 σ124 _ hr124 => ?_)
                    refine X_istore (L' := [(5, .int r124), (0, .ref 3), (1, .ref b1), (2, .ref b2), (3, .int y0_22), (4, .int r79)]) (pc := 127) (td kX6_readEveningLine 68 rfl) (by decide) rfl ?_
                    refine X_iload (pc := 129) (td kX6_readEveningLine 69 rfl) 0 rfl ?_
                    refine X_iconst (v := (-1 : Int32)) (pc := 131) (td kX6_readEveningLine 70 rfl) (by decide) ?_
                    refine X_icmp_ne (pc := 132) (tgt := 156) (td kX6_readEveningLine 71 rfl) (by decide) (fun c_132 => ?_) (fun c_132 => ?_)
                    · refine X_sub [1, 2, 4, 5, 0] rfl ?_
                      exact h156 r79 r124 σ124
                    · exact X_retv (pc := 135) (td kX6_readEveningLine 72 rfl)
                  · refine X_if_eq (pc := 96) (tgt := 122) (td kX6_readEveningLine 52 rfl) (by decide) (fun c_96 => ?_) (fun c_96 => ?_)
                    · refine X_sub [3, 4, 5, 2, 0] rfl ?_
                      exact h122
                    · refine X_aload_n (pc := 99) (td kX6_readEveningLine 53 rfl) rfl 5 rfl ?_
                      refine X_aload_n (pc := 100) (td kX6_readEveningLine 54 rfl) rfl 3 rfl ?_
                      refine X_getF (b := 4) (pc := 101) sC_3 rfl fk_X6_14 (td kX6_readEveningLine 55 rfl) ?_
                      refine X_getL (pc := 104) sC_4 rfl fk_X6_85 (td kX6_readEveningLine 56 rfl) ?_
                      refine X_callip (pc := 107) (As := [.long (gL σ79 4 5)]) (st := []) (p_X9_placeNamed b2 (gL σ79 4 5) σ79) b2_s0 (x_X9_placeNamed b2 (gL σ79 4 5) σ79) mkX9_placeNamed lk_X6_107 (by omega) rfl rfl (Nat.le_of_ble_eq_true rfl) (td kX6_readEveningLine 57 rfl) (fun r107 hr107 => ?_)
                      refine X_iload (pc := 110) (td kX6_readEveningLine 58 rfl) 0 rfl ?_
                      refine X_icmp_ne (pc := 112) (tgt := 122) (td kX6_readEveningLine 59 rfl) (by decide) (fun c_112 => ?_) (fun c_112 => ?_)
                      · refine X_sub [3, 4, 5, 2, 0] rfl ?_
                        exact h122
                      · refine X_aload_n (pc := 115) (td kX6_readEveningLine 60 rfl) rfl 3 rfl ?_
                        refine X_iconst (v := (3 : Int32)) (pc := 116) (td kX6_readEveningLine 61 rfl) (by decide) ?_
                        refine X_calli (pc := 117) (As := [.int (3 : Int32)]) (st := []) sC_3 (x_X6_wrong (3 : Int32) σ79) mkX6_wrong lk_X6_56 (by omega) rfl rfl (Nat.le_of_ble_eq_true rfl) (td kX6_readEveningLine 62 rfl) (fun r117 σ117 _ hr117 => ?_)
                        refine X_pop (pc := 120) (td kX6_readEveningLine 63 rfl) rfl ?_
                        exact X_retv (pc := 121) (td kX6_readEveningLine 64 rfl)
                · exact X_retv (pc := 90) (td kX6_readEveningLine 48 rfl)
          · refine X_aload_n (pc := 51) (td kX6_readEveningLine 26 rfl) rfl 1 rfl ?_
            refine X_iconst (v := (5 : Int32)) (pc := 52) (td kX6_readEveningLine 27 rfl) (by decide) ?_
            refine X_calli (pc := 53) (As := [.int (5 : Int32)]) (st := []) sC_3 (x_X6_wrong (5 : Int32) σ) mkX6_wrong lk_X6_56 (by omega) rfl rfl (Nat.le_of_ble_eq_true rfl) (td kX6_readEveningLine 28 rfl) (fun r53 σ53 _ hr53 => ?_)
            refine X_pop (pc := 56) (td kX6_readEveningLine 29 rfl) rfl ?_
            exact X_retv (pc := 57) (td kX6_readEveningLine 30 rfl)
        · refine X_sub [1] rfl ?_
          exact h35
  · refine X_icmp_ne (pc := 8) (tgt := 21) (td kX6_readEveningLine 4 rfl) (by decide) (fun c_8 => ?_) (fun c_8 => ?_)
    · refine X_iconst (v := (-1 : Int32)) (pc := 21) (td kX6_readEveningLine 9 rfl) (by decide) ?_
      exact h22 (-1 : Int32)
    · refine X_aload_n (pc := 11) (td kX6_readEveningLine 5 rfl) rfl 0 rfl ?_
      refine X_getF (b := 4) (pc := 12) sC_3 rfl fk_X6_14 (td kX6_readEveningLine 6 rfl) ?_
      refine X_getI (pc := 15) sC_4 rfl fk_X6_37 (td kX6_readEveningLine 7 rfl) ?_
      refine X_goto (pc := 18) (tgt := 22) (td kX6_readEveningLine 8 rfl) (by decide) ?_
      exact h22 (gI σ 4 6)
def F_X6_readEvening_19 (b1 : Nat) (b2 : Nat) (k56 : Mm → Option (Int32 × Mm)) (rec19 : Int32 → Mm → Option (Int32 × Mm)) (x3_19 : Int32) (σ_19 : Mm) : Option (Int32 × Mm) := (if x3_19 < (1000 : Int32) then (if (gI σ_19 3 1) = 0 then (if (gI σ_19 4 2) = (1 : Int32) then k56 σ_19 else cl (f_X6_readEveningLine b1 b2 σ_19) (fun _ σ47 => rec19 (x3_19 + (1 : Int32)) σ47)) else k56 σ_19) else k56 σ_19)
def f_X6_readEvening (b1 : Nat) (b2 : Nat) (σ : Mm) : Option (Int32 × Mm) := ck (isLines b1) (ck (isTown b2) (bn (pI σ b1 0 (0 : Int32)) (fun σ2 => bn (pI σ2 3 1 (0 : Int32)) (fun σ7 => cl (f_X8_restart σ7) (fun _ σ14 => jn (fun (σ_56 : Mm) => some ((gI σ_56 3 1), σ_56)) (fun k56 => lq2 (F_X6_readEvening_19 b1 b2 k56) 1000000 (0 : Int32) σ14))))))
set_option maxHeartbeats 4000000 in
set_option maxRecDepth 100000 in
theorem x_X6_readEvening (b1 : Nat) (b2 : Nat) (σ : Mm) : Con (wsOf SHC) yX6_readEvening cX6_readEvening 4 (some .int) 9 [.ref 3, .ref b1, .ref b2] σ (f_X6_readEvening b1 b2 σ) := by
  refine Con.of_X (by decide +kernel) (Nat.le_of_ble_eq_true rfl) ?_
  unfold f_X6_readEvening
  show X (wsOf SHC) RX6 cX6_readEvening 4 (some .int) 9 0 0 [(0, .ref 3), (1, .ref b1), (2, .ref b2)] [] σ _
  refine X_ck (fun b1_h => ?_)
  obtain ⟨b1_s0, b1_s1, b1_s2, b1_s3⟩ := knLines b1_h
  refine X_ck (fun b2_h => ?_)
  obtain ⟨b2_s0, b2_s1, b2_s2, b2_s3, b2_s4, b2_s5, b2_s6, b2_s7, b2_s8, b2_s9, b2_s10, b2_s11, b2_s12, b2_s13, b2_s14⟩ := knTown b2_h
  refine X_aload_n (pc := 0) (td kX6_readEvening 0 rfl) rfl 1 rfl ?_
  refine X_iconst (v := (0 : Int32)) (pc := 1) (td kX6_readEvening 1 rfl) (by decide) ?_
  refine X_putI (pc := 2) b1_s0 rfl fk_X6_63 rfl rfl (td kX6_readEvening 2 rfl) (fun σ2 => ?_)
  refine X_aload_n (pc := 5) (td kX6_readEvening 3 rfl) rfl 0 rfl ?_
  refine X_iconst (v := (0 : Int32)) (pc := 6) (td kX6_readEvening 4 rfl) (by decide) ?_
  refine X_putI (pc := 7) sC_3 rfl fk_X6_25 rfl rfl (td kX6_readEvening 5 rfl) (fun σ7 => ?_)
  refine X_aload_n (pc := 10) (td kX6_readEvening 6 rfl) rfl 0 rfl ?_
  refine X_getF (b := 4) (pc := 11) sC_3 rfl fk_X6_14 (td kX6_readEvening 7 rfl) ?_
  refine X_callv (pc := 14) (As := []) (st := []) sC_4 (x_X8_restart σ7) mkX8_restart lk_X6_29 (by omega) rfl rfl (Nat.le_of_ble_eq_true rfl) (td kX6_readEvening 8 rfl) (fun _ σ14 _ => ?_)
  refine X_iconst (v := (0 : Int32)) (pc := 17) (td kX6_readEvening 9 rfl) (by decide) ?_
  refine X_istore_n (L' := [(3, .int (0 : Int32)), (0, .ref 3), (1, .ref b1), (2, .ref b2)]) (pc := 18) (td kX6_readEvening 10 rfl) rfl (by decide) rfl ?_
  refine X_jn (P := fun k => ∀ (σ_56 : Mm), X (wsOf SHC) RX6 cX6_readEvening 4 (some .int) 9 0 56 [(0, .ref 3)] [] σ_56 (k σ_56)) (fun σ_56 => ?_) (fun k56 h56 => ?_)
  · refine X_aload_n (pc := 56) (td kX6_readEvening 28 rfl) rfl 0 rfl ?_
    refine X_getI (pc := 57) sC_3 rfl fk_X6_25 (td kX6_readEvening 29 rfl) ?_
    exact X_ret (pc := 60) (td kX6_readEvening 30 rfl) rfl
  · refine X_sub [1, 2, 3, 0] rfl ?_
    refine lq2_ind (P := fun x3_19 σ_19 E => X (wsOf SHC) RX6 cX6_readEvening 4 (some .int) 9 0 19 [(0, .ref 3), (1, .ref b1), (2, .ref b2), (3, .int x3_19)] [] σ_19 E) (fun _ _ => X_none) (fun rec19 hrec19 x3_19 σ_19 => ?_) _ _ _
    unfold F_X6_readEvening_19
    refine X_iload_n (pc := 19) (td kX6_readEvening 11 rfl) rfl 3 rfl ?_
    refine X_sipush (v := (1000 : Int32)) (pc := 20) (td kX6_readEvening 12 rfl) (by decide) ?_
    refine X_icmp_ge (pc := 23) (tgt := 56) (td kX6_readEvening 13 rfl) (by decide) (fun c_23 => ?_) (fun c_23 => ?_)
    · refine X_sub [0] rfl ?_
      exact h56 σ_19
    · refine X_aload_n (pc := 26) (td kX6_readEvening 14 rfl) rfl 0 rfl ?_
      refine X_getI (pc := 27) sC_3 rfl fk_X6_25 (td kX6_readEvening 15 rfl) ?_
      refine X_if_ne (pc := 30) (tgt := 56) (td kX6_readEvening 16 rfl) (by decide) (fun c_30 => ?_) (fun c_30 => ?_)
      · refine X_sub [0] rfl ?_
        exact h56 σ_19
      · refine X_aload_n (pc := 33) (td kX6_readEvening 17 rfl) rfl 0 rfl ?_
        refine X_getF (b := 4) (pc := 34) sC_3 rfl fk_X6_14 (td kX6_readEvening 18 rfl) ?_
        refine X_getI (pc := 37) sC_4 rfl fk_X6_34 (td kX6_readEvening 19 rfl) ?_
        refine X_iconst (v := (1 : Int32)) (pc := 40) (td kX6_readEvening 20 rfl) (by decide) ?_
        refine X_icmp_eq (pc := 41) (tgt := 56) (td kX6_readEvening 21 rfl) (by decide) (fun c_41 => ?_) (fun c_41 => ?_)
        · refine X_sub [0] rfl ?_
          exact h56 σ_19
        · refine X_aload_n (pc := 44) (td kX6_readEvening 22 rfl) rfl 0 rfl ?_
          refine X_aload_n (pc := 45) (td kX6_readEvening 23 rfl) rfl 1 rfl ?_
          refine X_aload_n (pc := 46) (td kX6_readEvening 24 rfl) rfl 2 rfl ?_
          refine X_callv (pc := 47) (As := [.ref b1, .ref b2]) (st := []) sC_3 (x_X6_readEveningLine b1 b2 σ_19) mkX6_readEveningLine lk_X6_68 (by omega) rfl rfl (Nat.le_of_ble_eq_true rfl) (td kX6_readEvening 25 rfl) (fun _ σ47 _ => ?_)
          refine X_iinc (v := (x3_19 + (1 : Int32))) (L' := [(3, .int (x3_19 + (1 : Int32))), (0, .ref 3), (1, .ref b1), (2, .ref b2)]) (pc := 50) (td kX6_readEvening 26 rfl) 3 rfl rfl (by decide) rfl ?_
          refine X_goto (pc := 53) (tgt := 19) (td kX6_readEvening 27 rfl) (by decide) ?_
          refine X_sub [1, 2, 3, 0] rfl ?_
          exact hrec19 (x3_19 + (1 : Int32)) σ47
def f_X6_readNumber (p1 : Int32) (σ : Mm) : Option (Int32 × Mm) := (if (gI σ 4 2) = (3 : Int32) then (if p1 < (gI σ 4 6) then cl (f_X6_wrong (4 : Int32) σ) (fun r32 σ32 => some ((-1 : Int32), σ32)) else bn (gI σ 4 6) (fun v2_45 => cl (f_X8_advance σ) (fun _ σ50 => some (v2_45, σ50)))) else cl (f_X6_wrong (1 : Int32) σ) (fun r13 σ13 => some ((-1 : Int32), σ13)))
set_option maxHeartbeats 4000000 in
set_option maxRecDepth 100000 in
theorem x_X6_readNumber (p1 : Int32) (σ : Mm) : Con (wsOf SHC) yX6_readNumber cX6_readNumber 3 (some .int) 6 [.ref 3, .int p1] σ (f_X6_readNumber p1 σ) := by
  refine Con.of_X (by decide +kernel) (Nat.le_of_ble_eq_true rfl) ?_
  unfold f_X6_readNumber
  show X (wsOf SHC) RX6 cX6_readNumber 3 (some .int) 6 0 0 [(0, .ref 3), (1, .int p1)] [] σ _
  refine X_aload_n (pc := 0) (td kX6_readNumber 0 rfl) rfl 0 rfl ?_
  refine X_getF (b := 4) (pc := 1) sC_3 rfl fk_X6_14 (td kX6_readNumber 1 rfl) ?_
  refine X_getI (pc := 4) sC_4 rfl fk_X6_34 (td kX6_readNumber 2 rfl) ?_
  refine X_iconst (v := (3 : Int32)) (pc := 7) (td kX6_readNumber 3 rfl) (by decide) ?_
  refine X_icmp_eq (pc := 8) (tgt := 19) (td kX6_readNumber 4 rfl) (by decide) (fun c_8 => ?_) (fun c_8 => ?_)
  · refine X_aload_n (pc := 19) (td kX6_readNumber 11 rfl) rfl 0 rfl ?_
    refine X_getF (b := 4) (pc := 20) sC_3 rfl fk_X6_14 (td kX6_readNumber 12 rfl) ?_
    refine X_getI (pc := 23) sC_4 rfl fk_X6_37 (td kX6_readNumber 13 rfl) ?_
    refine X_iload_n (pc := 26) (td kX6_readNumber 14 rfl) rfl 1 rfl ?_
    refine X_icmp_le (pc := 27) (tgt := 38) (td kX6_readNumber 15 rfl) (by decide) (fun c_27 => ?_) (fun c_27 => ?_)
    · refine X_aload_n (pc := 38) (td kX6_readNumber 22 rfl) rfl 0 rfl ?_
      refine X_getF (b := 4) (pc := 39) sC_3 rfl fk_X6_14 (td kX6_readNumber 23 rfl) ?_
      refine X_getI (pc := 42) sC_4 rfl fk_X6_37 (td kX6_readNumber 24 rfl) ?_
      refine X_bi (fun v2_45 => ?_)
      refine X_istore_n (L' := [(2, .int v2_45), (0, .ref 3), (1, .int p1)]) (pc := 45) (td kX6_readNumber 25 rfl) rfl (by decide) rfl ?_
      refine X_aload_n (pc := 46) (td kX6_readNumber 26 rfl) rfl 1 rfl ?_
      refine X_getF (b := 4) (pc := 47) sC_3 rfl fk_X6_14 (td kX6_readNumber 27 rfl) ?_
      refine X_callv (pc := 50) (As := []) (st := []) sC_4 (x_X8_advance σ) mkX8_advance lk_X6_78 (by omega) rfl rfl (Nat.le_of_ble_eq_true rfl) (td kX6_readNumber 28 rfl) (fun _ σ50 _ => ?_)
      refine X_iload_n (pc := 53) (td kX6_readNumber 29 rfl) rfl 0 rfl ?_
      exact X_ret (pc := 54) (td kX6_readNumber 30 rfl) rfl
    · refine X_aload_n (pc := 30) (td kX6_readNumber 16 rfl) rfl 0 rfl ?_
      refine X_iconst (v := (4 : Int32)) (pc := 31) (td kX6_readNumber 17 rfl) (by decide) ?_
      refine X_calli (pc := 32) (As := [.int (4 : Int32)]) (st := []) sC_3 (x_X6_wrong (4 : Int32) σ) mkX6_wrong lk_X6_56 (by omega) rfl rfl (Nat.le_of_ble_eq_true rfl) (td kX6_readNumber 18 rfl) (fun r32 σ32 _ hr32 => ?_)
      refine X_pop (pc := 35) (td kX6_readNumber 19 rfl) rfl ?_
      refine X_iconst (v := (-1 : Int32)) (pc := 36) (td kX6_readNumber 20 rfl) (by decide) ?_
      exact X_ret (pc := 37) (td kX6_readNumber 21 rfl) rfl
  · refine X_aload_n (pc := 11) (td kX6_readNumber 5 rfl) rfl 0 rfl ?_
    refine X_iconst (v := (1 : Int32)) (pc := 12) (td kX6_readNumber 6 rfl) (by decide) ?_
    refine X_calli (pc := 13) (As := [.int (1 : Int32)]) (st := []) sC_3 (x_X6_wrong (1 : Int32) σ) mkX6_wrong lk_X6_56 (by omega) rfl rfl (Nat.le_of_ble_eq_true rfl) (td kX6_readNumber 7 rfl) (fun r13 σ13 _ hr13 => ?_)
    refine X_pop (pc := 16) (td kX6_readNumber 8 rfl) rfl ?_
    refine X_iconst (v := (-1 : Int32)) (pc := 17) (td kX6_readNumber 9 rfl) (by decide) ?_
    exact X_ret (pc := 18) (td kX6_readNumber 10 rfl) rfl
def f_X6_readBoy (b1 : Nat) (σ : Mm) : Option (Int32 × Mm) := ck (isTown b1) ((if (gI σ b1 4) = 0 then cl (f_X8_advance σ) (fun _ σ18 => cl (f_X6_readNumber (99 : Int32) σ18) (fun r24 σ24 => (if r24 = (-1 : Int32) then some (0, σ24) else cl (f_X6_readSign (59 : Int32) σ24) (fun r36 σ36 => (if r36 = 0 then some (0, σ36) else bn (pI σ36 b1 3 r24) (fun σ44 => bn (pI σ44 b1 4 (1 : Int32)) (fun σ49 => some (0, σ49)))))))) else cl (f_X6_wrong (3 : Int32) σ) (fun r9 σ9 => some (0, σ9))))
set_option maxHeartbeats 4000000 in
set_option maxRecDepth 100000 in
theorem x_X6_readBoy (b1 : Nat) (σ : Mm) : Con (wsOf SHC) yX6_readBoy cX6_readBoy 3 none 7 [.ref 3, .ref b1] σ (f_X6_readBoy b1 σ) := by
  refine Con.of_X (by decide +kernel) (Nat.le_of_ble_eq_true rfl) ?_
  unfold f_X6_readBoy
  show X (wsOf SHC) RX6 cX6_readBoy 3 none 7 0 0 [(0, .ref 3), (1, .ref b1)] [] σ _
  refine X_ck (fun b1_h => ?_)
  obtain ⟨b1_s0, b1_s1, b1_s2, b1_s3, b1_s4, b1_s5, b1_s6, b1_s7, b1_s8, b1_s9, b1_s10, b1_s11, b1_s12, b1_s13, b1_s14⟩ := knTown b1_h
  refine X_aload_n (pc := 0) (td kX6_readBoy 0 rfl) rfl 1 rfl ?_
  refine X_getI (pc := 1) b1_s0 rfl fk_X6_137 (td kX6_readBoy 1 rfl) ?_
  refine X_if_eq (pc := 4) (tgt := 14) (td kX6_readBoy 2 rfl) (by decide) (fun c_4 => ?_) (fun c_4 => ?_)
  · refine X_aload_n (pc := 14) (td kX6_readBoy 8 rfl) rfl 0 rfl ?_
    refine X_getF (b := 4) (pc := 15) sC_3 rfl fk_X6_14 (td kX6_readBoy 9 rfl) ?_
    refine X_callv (pc := 18) (As := []) (st := []) sC_4 (x_X8_advance σ) mkX8_advance lk_X6_78 (by omega) rfl rfl (Nat.le_of_ble_eq_true rfl) (td kX6_readBoy 10 rfl) (fun _ σ18 _ => ?_)
    refine X_aload_n (pc := 21) (td kX6_readBoy 11 rfl) rfl 0 rfl ?_
    refine X_bipush (v := (99 : Int32)) (pc := 22) (td kX6_readBoy 12 rfl) (by decide) ?_
    refine X_calli (pc := 24) (As := [.int (99 : Int32)]) (st := []) sC_3 (x_X6_readNumber (99 : Int32) σ18) mkX6_readNumber lk_X6_118 (by omega) rfl rfl (Nat.le_of_ble_eq_true rfl) (td kX6_readBoy 13 rfl) (fun r24 σ24 _ hr24 => ?_)
    refine X_istore_n (L' := [(2, .int r24), (0, .ref 3), (1, .ref b1)]) (pc := 27) (td kX6_readBoy 14 rfl) rfl (by decide) rfl ?_
    refine X_iload_n (pc := 28) (td kX6_readBoy 15 rfl) rfl 0 rfl ?_
    refine X_iconst (v := (-1 : Int32)) (pc := 29) (td kX6_readBoy 16 rfl) (by decide) ?_
    refine X_icmp_eq (pc := 30) (tgt := 52) (td kX6_readBoy 17 rfl) (by decide) (fun c_30 => ?_) (fun c_30 => ?_)
    · exact X_retv (pc := 52) (td kX6_readBoy 28 rfl)
    · refine X_aload_n (pc := 33) (td kX6_readBoy 18 rfl) rfl 1 rfl ?_
      refine X_bipush (v := (59 : Int32)) (pc := 34) (td kX6_readBoy 19 rfl) (by decide) ?_
      refine X_calli (pc := 36) (As := [.int (59 : Int32)]) (st := []) sC_3 (x_X6_readSign (59 : Int32) σ24) mkX6_readSign lk_X6_89 (by omega) rfl rfl (Nat.le_of_ble_eq_true rfl) (td kX6_readBoy 20 rfl) (fun r36 σ36 _ hr36 => ?_)
      refine X_if_eq (pc := 39) (tgt := 52) (td kX6_readBoy 21 rfl) (by decide) (fun c_39 => ?_) (fun c_39 => ?_)
      · exact X_retv (pc := 52) (td kX6_readBoy 28 rfl)
      · refine X_aload_n (pc := 42) (td kX6_readBoy 22 rfl) rfl 2 rfl ?_
        refine X_iload_n (pc := 43) (td kX6_readBoy 23 rfl) rfl 0 rfl ?_
        refine X_putI (pc := 44) b1_s0 rfl fk_X6_141 rfl rfl (td kX6_readBoy 24 rfl) (fun σ44 => ?_)
        refine X_aload_n (pc := 47) (td kX6_readBoy 25 rfl) rfl 2 rfl ?_
        refine X_iconst (v := (1 : Int32)) (pc := 48) (td kX6_readBoy 26 rfl) (by decide) ?_
        refine X_putI (pc := 49) b1_s0 rfl fk_X6_137 rfl rfl (td kX6_readBoy 27 rfl) (fun σ49 => ?_)
        exact X_retv (pc := 52) (td kX6_readBoy 28 rfl)
  · refine X_aload_n (pc := 7) (td kX6_readBoy 3 rfl) rfl 0 rfl ?_
    refine X_iconst (v := (3 : Int32)) (pc := 8) (td kX6_readBoy 4 rfl) (by decide) ?_
    refine X_calli (pc := 9) (As := [.int (3 : Int32)]) (st := []) sC_3 (x_X6_wrong (3 : Int32) σ) mkX6_wrong lk_X6_56 (by omega) rfl rfl (Nat.le_of_ble_eq_true rfl) (td kX6_readBoy 5 rfl) (fun r9 σ9 _ hr9 => ?_)
    refine X_pop (pc := 12) (td kX6_readBoy 6 rfl) rfl ?_
    exact X_retv (pc := 13) (td kX6_readBoy 7 rfl)
def f_X6_readWord (p1 : Int32) (σ : Mm) : Option (Int32 × Mm) := cl (f_X8_isWord p1 σ) (fun r5 _ => (if r5 = 0 then cl (f_X6_wrong (1 : Int32) σ) (fun r13 σ13 => some (r13, σ13)) else cl (f_X8_advance σ) (fun _ σ21 => some ((1 : Int32), σ21))))
set_option maxHeartbeats 4000000 in
set_option maxRecDepth 100000 in
theorem x_X6_readWord (p1 : Int32) (σ : Mm) : Con (wsOf SHC) yX6_readWord cX6_readWord 2 (some .boolean) 6 [.ref 3, .int p1] σ (f_X6_readWord p1 σ) := by
  refine Con.of_X (by decide +kernel) (Nat.le_of_ble_eq_true rfl) ?_
  unfold f_X6_readWord
  show X (wsOf SHC) RX6 cX6_readWord 2 (some .boolean) 6 0 0 [(0, .ref 3), (1, .int p1)] [] σ _
  refine X_aload_n (pc := 0) (td kX6_readWord 0 rfl) rfl 0 rfl ?_
  refine X_getF (b := 4) (pc := 1) sC_3 rfl fk_X6_14 (td kX6_readWord 1 rfl) ?_
  refine X_iload_n (pc := 4) (td kX6_readWord 2 rfl) rfl 1 rfl ?_
  refine X_callip (pc := 5) (As := [.int p1]) (st := []) (p_X8_isWord p1 σ) sC_4 (x_X8_isWord p1 σ) mkX8_isWord lk_X6_168 (by omega) rfl rfl (Nat.le_of_ble_eq_true rfl) (td kX6_readWord 3 rfl) (fun r5 hr5 => ?_)
  refine X_if_ne (pc := 8) (tgt := 17) (td kX6_readWord 4 rfl) (by decide) (fun c_8 => ?_) (fun c_8 => ?_)
  · refine X_aload_n (pc := 17) (td kX6_readWord 9 rfl) rfl 0 rfl ?_
    refine X_getF (b := 4) (pc := 18) sC_3 rfl fk_X6_14 (td kX6_readWord 10 rfl) ?_
    refine X_callv (pc := 21) (As := []) (st := []) sC_4 (x_X8_advance σ) mkX8_advance lk_X6_78 (by omega) rfl rfl (Nat.le_of_ble_eq_true rfl) (td kX6_readWord 11 rfl) (fun _ σ21 _ => ?_)
    refine X_iconst (v := (1 : Int32)) (pc := 24) (td kX6_readWord 12 rfl) (by decide) ?_
    exact X_ret (pc := 25) (td kX6_readWord 13 rfl) rfl
  · refine X_aload_n (pc := 11) (td kX6_readWord 5 rfl) rfl 0 rfl ?_
    refine X_iconst (v := (1 : Int32)) (pc := 12) (td kX6_readWord 6 rfl) (by decide) ?_
    refine X_calli (pc := 13) (As := [.int (1 : Int32)]) (st := []) sC_3 (x_X6_wrong (1 : Int32) σ) mkX6_wrong lk_X6_56 (by omega) rfl rfl (Nat.le_of_ble_eq_true rfl) (td kX6_readWord 7 rfl) (fun r13 σ13 _ hr13 => ?_)
    exact X_ret (pc := 16) (td kX6_readWord 8 rfl) hr13
def J_X6_readLane_77 (b1 : Nat) (σ25 : Mm) (r25 : Int32) : Option (Int32 × Mm) := cl (f_X6_readPlaceName b1 σ25) (fun r79 σ79 => (if r79 = (-1 : Int32) then some (0, σ79) else cl (f_X6_readWord (2 : Int32) σ79) (fun r90 σ90 => (if r90 = 0 then some (0, σ90) else cl (f_X6_readNumber (20 : Int32) σ90) (fun r100 σ100 => (if r100 = (-1 : Int32) then some (0, σ100) else cl (f_X6_readSign (59 : Int32) σ100) (fun r114 σ114 => (if r114 = 0 then some (0, σ114) else cl (f_X9_addLane b1 r25 r79 r100 σ114) (fun _ σ125 => some (0, σ125))))))))))
def f_X6_readLane (b1 : Nat) (σ : Mm) : Option (Int32 × Mm) := ck (isTown b1) ((if (gI σ b1 1) < (8 : Int32) then cl (f_X8_advance σ) (fun _ σ20 => cl (f_X6_readPlaceName b1 σ20) (fun r25 σ25 => (if r25 = (-1 : Int32) then some (0, σ25) else cl (f_X6_isPlaceName b1 σ25) (fun r37 _ => jn (J_X6_readLane_77 b1 σ25 r25) (fun k77 => (if r37 = 0 then k77 else cl (f_X9_placeNamed b1 (gL σ25 4 5) σ25) (fun r51 _ => jn (cl (f_X6_wrong (3 : Int32) σ25) (fun r72 σ72 => some (0, σ72))) (fun k70 => (if r51 = r25 then k70 else cl (f_X9_laneBetween b1 r25 r51 σ25) (fun r63 _ => (if r63 = (-1 : Int32) then k77 else k70))))))))))) else cl (f_X6_wrong (5 : Int32) σ) (fun r11 σ11 => some (0, σ11))))
set_option maxHeartbeats 4000000 in
set_option maxRecDepth 100000 in
theorem x_X6_readLane (b1 : Nat) (σ : Mm) : Con (wsOf SHC) yX6_readLane cX6_readLane 5 none 8 [.ref 3, .ref b1] σ (f_X6_readLane b1 σ) := by
  refine Con.of_X (by decide +kernel) (Nat.le_of_ble_eq_true rfl) ?_
  unfold f_X6_readLane
  show X (wsOf SHC) RX6 cX6_readLane 5 none 8 0 0 [(0, .ref 3), (1, .ref b1)] [] σ _
  refine X_ck (fun b1_h => ?_)
  obtain ⟨b1_s0, b1_s1, b1_s2, b1_s3, b1_s4, b1_s5, b1_s6, b1_s7, b1_s8, b1_s9, b1_s10, b1_s11, b1_s12, b1_s13, b1_s14⟩ := knTown b1_h
  refine X_aload_n (pc := 0) (td kX6_readLane 0 rfl) rfl 1 rfl ?_
  refine X_getI (pc := 1) b1_s0 rfl fk_X6_97 (td kX6_readLane 1 rfl) ?_
  refine X_bipush (v := (8 : Int32)) (pc := 4) (td kX6_readLane 2 rfl) (by decide) ?_
  refine X_icmp_lt (pc := 6) (tgt := 16) (td kX6_readLane 3 rfl) (by decide) (fun c_6 => ?_) (fun c_6 => ?_)
  · refine X_aload_n (pc := 16) (td kX6_readLane 9 rfl) rfl 0 rfl ?_
    refine X_getF (b := 4) (pc := 17) sC_3 rfl fk_X6_14 (td kX6_readLane 10 rfl) ?_
    refine X_callv (pc := 20) (As := []) (st := []) sC_4 (x_X8_advance σ) mkX8_advance lk_X6_78 (by omega) rfl rfl (Nat.le_of_ble_eq_true rfl) (td kX6_readLane 11 rfl) (fun _ σ20 _ => ?_)
    refine X_aload_n (pc := 23) (td kX6_readLane 12 rfl) rfl 0 rfl ?_
    refine X_aload_n (pc := 24) (td kX6_readLane 13 rfl) rfl 1 rfl ?_
    refine X_calli (pc := 25) (As := [.ref b1]) (st := []) sC_3 (x_X6_readPlaceName b1 σ20) mkX6_readPlaceName lk_X6_100 (by omega) rfl rfl (Nat.le_of_ble_eq_true rfl) (td kX6_readLane 14 rfl) (fun r25 σ25 _ hr25 => ?_)
    refine X_istore_n (L' := [(2, .int r25), (0, .ref 3), (1, .ref b1)]) (pc := 28) (td kX6_readLane 15 rfl) rfl (by decide) rfl ?_
    refine X_iload_n (pc := 29) (td kX6_readLane 16 rfl) rfl 0 rfl ?_
    refine X_iconst (v := (-1 : Int32)) (pc := 30) (td kX6_readLane 17 rfl) (by decide) ?_
    refine X_icmp_ne (pc := 31) (tgt := 35) (td kX6_readLane 18 rfl) (by decide) (fun c_31 => ?_) (fun c_31 => ?_)
    · refine X_aload_n (pc := 35) (td kX6_readLane 20 rfl) rfl 1 rfl ?_
      refine X_aload_n (pc := 36) (td kX6_readLane 21 rfl) rfl 2 rfl ?_
      refine X_callip (pc := 37) (As := [.ref b1]) (st := []) (p_X6_isPlaceName b1 σ25) sC_3 (x_X6_isPlaceName b1 σ25) mkX6_isPlaceName lk_X6_104 (by omega) rfl rfl (Nat.le_of_ble_eq_true rfl) (td kX6_readLane 22 rfl) (fun r37 hr37 => ?_)
      refine X_jn (P := fun k => X (wsOf SHC) RX6 cX6_readLane 5 none 8 0 77 [(0, .ref 3), (1, .ref b1), (2, .int r25)] [] σ25 k) ?_ (fun k77 h77 => ?_)
      · unfold J_X6_readLane_77
        refine X_aload_n (pc := 77) (td kX6_readLane 44 rfl) rfl 0 rfl ?_
        refine X_aload_n (pc := 78) (td kX6_readLane 45 rfl) rfl 1 rfl ?_
        refine X_calli (pc := 79) (As := [.ref b1]) (st := []) sC_3 (x_X6_readPlaceName b1 σ25) mkX6_readPlaceName lk_X6_100 (by omega) rfl rfl (Nat.le_of_ble_eq_true rfl) (td kX6_readLane 46 rfl) (fun r79 σ79 _ hr79 => ?_)
        refine X_istore_n (L' := [(3, .int r79), (0, .ref 3), (1, .ref b1), (2, .int r25)]) (pc := 82) (td kX6_readLane 47 rfl) rfl (by decide) rfl ?_
        refine X_iload_n (pc := 83) (td kX6_readLane 48 rfl) rfl 0 rfl ?_
        refine X_iconst (v := (-1 : Int32)) (pc := 84) (td kX6_readLane 49 rfl) (by decide) ?_
        refine X_icmp_eq (pc := 85) (tgt := 96) (td kX6_readLane 50 rfl) (by decide) (fun c_85 => ?_) (fun c_85 => ?_)
        · exact X_retv (pc := 96) (td kX6_readLane 55 rfl)
        · refine X_aload_n (pc := 88) (td kX6_readLane 51 rfl) rfl 1 rfl ?_
          refine X_iconst (v := (2 : Int32)) (pc := 89) (td kX6_readLane 52 rfl) (by decide) ?_
          refine X_calli (pc := 90) (As := [.int (2 : Int32)]) (st := []) sC_3 (x_X6_readWord (2 : Int32) σ79) mkX6_readWord lk_X6_115 (by omega) rfl rfl (Nat.le_of_ble_eq_true rfl) (td kX6_readLane 53 rfl) (fun r90 σ90 _ hr90 => ?_)
          refine X_if_ne (pc := 93) (tgt := 97) (td kX6_readLane 54 rfl) (by decide) (fun c_93 => ?_) (fun c_93 => ?_)
          · refine X_aload_n (pc := 97) (td kX6_readLane 56 rfl) rfl 1 rfl ?_
            refine X_bipush (v := (20 : Int32)) (pc := 98) (td kX6_readLane 57 rfl) (by decide) ?_
            refine X_calli (pc := 100) (As := [.int (20 : Int32)]) (st := []) sC_3 (x_X6_readNumber (20 : Int32) σ90) mkX6_readNumber lk_X6_118 (by omega) rfl rfl (Nat.le_of_ble_eq_true rfl) (td kX6_readLane 58 rfl) (fun r100 σ100 _ hr100 => ?_)
            refine X_istore (L' := [(4, .int r100), (3, .int r79), (0, .ref 3), (1, .ref b1), (2, .int r25)]) (pc := 103) (td kX6_readLane 59 rfl) (by decide) rfl ?_
            refine X_iload (pc := 105) (td kX6_readLane 60 rfl) 0 rfl ?_
            refine X_iconst (v := (-1 : Int32)) (pc := 107) (td kX6_readLane 61 rfl) (by decide) ?_
            refine X_icmp_eq (pc := 108) (tgt := 128) (td kX6_readLane 62 rfl) (by decide) (fun c_108 => ?_) (fun c_108 => ?_)
            · exact X_retv (pc := 128) (td kX6_readLane 72 rfl)
            · refine X_aload_n (pc := 111) (td kX6_readLane 63 rfl) rfl 2 rfl ?_
              refine X_bipush (v := (59 : Int32)) (pc := 112) (td kX6_readLane 64 rfl) (by decide) ?_
              refine X_calli (pc := 114) (As := [.int (59 : Int32)]) (st := []) sC_3 (x_X6_readSign (59 : Int32) σ100) mkX6_readSign lk_X6_89 (by omega) rfl rfl (Nat.le_of_ble_eq_true rfl) (td kX6_readLane 65 rfl) (fun r114 σ114 _ hr114 => ?_)
              refine X_if_eq (pc := 117) (tgt := 128) (td kX6_readLane 66 rfl) (by decide) (fun c_117 => ?_) (fun c_117 => ?_)
              · exact X_retv (pc := 128) (td kX6_readLane 72 rfl)
              · refine X_aload_n (pc := 120) (td kX6_readLane 67 rfl) rfl 3 rfl ?_
                refine X_iload_n (pc := 121) (td kX6_readLane 68 rfl) rfl 4 rfl ?_
                refine X_iload_n (pc := 122) (td kX6_readLane 69 rfl) rfl 1 rfl ?_
                refine X_iload (pc := 123) (td kX6_readLane 70 rfl) 0 rfl ?_
                refine X_callv (pc := 125) (As := [.int r25, .int r79, .int r100]) (st := []) b1_s0 (x_X9_addLane b1 r25 r79 r100 σ114) mkX9_addLane lk_X6_122 (by omega) rfl rfl (Nat.le_of_ble_eq_true rfl) (td kX6_readLane 71 rfl) (fun _ σ125 _ => ?_)
                exact X_retv (pc := 128) (td kX6_readLane 72 rfl)
          · exact X_retv (pc := 96) (td kX6_readLane 55 rfl)
      · refine X_if_eq (pc := 40) (tgt := 77) (td kX6_readLane 23 rfl) (by decide) (fun c_40 => ?_) (fun c_40 => ?_)
        · refine X_sub [1, 2, 0] rfl ?_
          exact h77
        · refine X_aload_n (pc := 43) (td kX6_readLane 24 rfl) rfl 2 rfl ?_
          refine X_aload_n (pc := 44) (td kX6_readLane 25 rfl) rfl 1 rfl ?_
          refine X_getF (b := 4) (pc := 45) sC_3 rfl fk_X6_14 (td kX6_readLane 26 rfl) ?_
          refine X_getL (pc := 48) sC_4 rfl fk_X6_85 (td kX6_readLane 27 rfl) ?_
          refine X_callip (pc := 51) (As := [.long (gL σ25 4 5)]) (st := []) (p_X9_placeNamed b1 (gL σ25 4 5) σ25) b1_s0 (x_X9_placeNamed b1 (gL σ25 4 5) σ25) mkX9_placeNamed lk_X6_107 (by omega) rfl rfl (Nat.le_of_ble_eq_true rfl) (td kX6_readLane 28 rfl) (fun r51 hr51 => ?_)
          refine X_istore_n (L' := [(3, .int r51), (2, .int r25), (0, .ref 3), (1, .ref b1)]) (pc := 54) (td kX6_readLane 29 rfl) rfl (by decide) rfl ?_
          refine X_iload_n (pc := 55) (td kX6_readLane 30 rfl) rfl 0 rfl ?_
          refine X_iload_n (pc := 56) (td kX6_readLane 31 rfl) rfl 1 rfl ?_
          refine X_jn (P := fun k => X (wsOf SHC) RX6 cX6_readLane 5 none 8 0 70 [(0, .ref 3)] [] σ25 k) ?_ (fun k70 h70 => ?_)
          · refine X_aload_n (pc := 70) (td kX6_readLane 39 rfl) rfl 0 rfl ?_
            refine X_iconst (v := (3 : Int32)) (pc := 71) (td kX6_readLane 40 rfl) (by decide) ?_
            refine X_calli (pc := 72) (As := [.int (3 : Int32)]) (st := []) sC_3 (x_X6_wrong (3 : Int32) σ25) mkX6_wrong lk_X6_56 (by omega) rfl rfl (Nat.le_of_ble_eq_true rfl) (td kX6_readLane 41 rfl) (fun r72 σ72 _ hr72 => ?_)
            refine X_pop (pc := 75) (td kX6_readLane 42 rfl) rfl ?_
            exact X_retv (pc := 76) (td kX6_readLane 43 rfl)
          · refine X_icmp_eq (pc := 57) (tgt := 70) (td kX6_readLane 32 rfl) (by decide) (fun c_57 => ?_) (fun c_57 => ?_)
            · refine X_sub [2] rfl ?_
              exact h70
            · refine X_aload_n (pc := 60) (td kX6_readLane 33 rfl) rfl 3 rfl ?_
              refine X_iload_n (pc := 61) (td kX6_readLane 34 rfl) rfl 1 rfl ?_
              refine X_iload_n (pc := 62) (td kX6_readLane 35 rfl) rfl 0 rfl ?_
              refine X_callip (pc := 63) (As := [.int r25, .int r51]) (st := []) (p_X9_laneBetween b1 r25 r51 σ25) b1_s0 (x_X9_laneBetween b1 r25 r51 σ25) mkX9_laneBetween lk_X6_111 (by omega) rfl rfl (Nat.le_of_ble_eq_true rfl) (td kX6_readLane 36 rfl) (fun r63 hr63 => ?_)
              refine X_iconst (v := (-1 : Int32)) (pc := 66) (td kX6_readLane 37 rfl) (by decide) ?_
              refine X_icmp_eq (pc := 67) (tgt := 77) (td kX6_readLane 38 rfl) (by decide) (fun c_67 => ?_) (fun c_67 => ?_)
              · refine X_sub [2, 3, 1] rfl ?_
                exact h77
              · refine X_sub [2] rfl ?_
                exact h70
    · exact X_retv (pc := 34) (td kX6_readLane 19 rfl)
  · refine X_aload_n (pc := 9) (td kX6_readLane 4 rfl) rfl 0 rfl ?_
    refine X_iconst (v := (5 : Int32)) (pc := 10) (td kX6_readLane 5 rfl) (by decide) ?_
    refine X_calli (pc := 11) (As := [.int (5 : Int32)]) (st := []) sC_3 (x_X6_wrong (5 : Int32) σ) mkX6_wrong lk_X6_56 (by omega) rfl rfl (Nat.le_of_ble_eq_true rfl) (td kX6_readLane 6 rfl) (fun r11 σ11 _ hr11 => ?_)
    refine X_pop (pc := 14) (td kX6_readLane 7 rfl) rfl ?_
    exact X_retv (pc := 15) (td kX6_readLane 8 rfl)
def f_X6_operationHere (p1 : Int32) (σ : Mm) : Option (Int32 × Mm) := (if p1 = (0 : Int32) then cl (f_X8_isWord (17 : Int32) σ) (fun r34 _ => (if r34 = 0 then cl (f_X8_isWord (18 : Int32) σ) (fun r50 _ => (if r50 = 0 then some ((-1 : Int32), σ) else some ((2 : Int32), σ))) else some ((1 : Int32), σ))) else (if p1 = (1 : Int32) then cl (f_X8_isSign (60 : Int32) σ) (fun r68 _ => (if r68 = 0 then cl (f_X8_isSign (61 : Int32) σ) (fun r84 _ => (if r84 = 0 then some ((-1 : Int32), σ) else some ((4 : Int32), σ))) else some ((3 : Int32), σ))) else (if p1 = (2 : Int32) then cl (f_X8_isSign (43 : Int32) σ) (fun r102 _ => (if r102 = 0 then cl (f_X8_isSign (45 : Int32) σ) (fun r118 _ => (if r118 = 0 then some ((-1 : Int32), σ) else some ((6 : Int32), σ))) else some ((5 : Int32), σ))) else cl (f_X8_isSign (42 : Int32) σ) (fun r137 _ => (if r137 = 0 then some ((-1 : Int32), σ) else some ((7 : Int32), σ))))))
set_option maxHeartbeats 4000000 in
set_option maxRecDepth 100000 in
theorem x_X6_operationHere (p1 : Int32) (σ : Mm) : Con (wsOf SHC) yX6_operationHere cX6_operationHere 2 (some .int) 2 [.ref 3, .int p1] σ (f_X6_operationHere p1 σ) := by
  refine Con.of_X (by decide +kernel) (Nat.le_of_ble_eq_true rfl) ?_
  unfold f_X6_operationHere
  show X (wsOf SHC) RX6 cX6_operationHere 2 (some .int) 2 0 0 [(0, .ref 3), (1, .int p1)] [] σ _
  refine X_iload_n (pc := 0) (td kX6_operationHere 0 rfl) rfl 1 rfl ?_
  refine X_sp (fun c_1_0 => ?_) (fun c_1_0 => ?_)
  · refine X_swI (pc := 1) (tgt := 28) (td kX6_operationHere 1 rfl) c_1_0 (by decide) (by decide) rfl (by decide) ?_
    refine X_aload_n (pc := 28) (td kX6_operationHere 2 rfl) rfl 0 rfl ?_
    refine X_getF (b := 4) (pc := 29) sC_3 rfl fk_X6_14 (td kX6_operationHere 3 rfl) ?_
    refine X_bipush (v := (17 : Int32)) (pc := 32) (td kX6_operationHere 4 rfl) (by decide) ?_
    refine X_callip (pc := 34) (As := [.int (17 : Int32)]) (st := []) (p_X8_isWord (17 : Int32) σ) sC_4 (x_X8_isWord (17 : Int32) σ) mkX8_isWord lk_X6_168 (by omega) rfl rfl (Nat.le_of_ble_eq_true rfl) (td kX6_operationHere 5 rfl) (fun r34 hr34 => ?_)
    refine X_if_eq (pc := 37) (tgt := 44) (td kX6_operationHere 6 rfl) (by decide) (fun c_37 => ?_) (fun c_37 => ?_)
    · refine X_aload_n (pc := 44) (td kX6_operationHere 9 rfl) rfl 0 rfl ?_
      refine X_getF (b := 4) (pc := 45) sC_3 rfl fk_X6_14 (td kX6_operationHere 10 rfl) ?_
      refine X_bipush (v := (18 : Int32)) (pc := 48) (td kX6_operationHere 11 rfl) (by decide) ?_
      refine X_callip (pc := 50) (As := [.int (18 : Int32)]) (st := []) (p_X8_isWord (18 : Int32) σ) sC_4 (x_X8_isWord (18 : Int32) σ) mkX8_isWord lk_X6_168 (by omega) rfl rfl (Nat.le_of_ble_eq_true rfl) (td kX6_operationHere 12 rfl) (fun r50 hr50 => ?_)
      refine X_if_eq (pc := 53) (tgt := 60) (td kX6_operationHere 13 rfl) (by decide) (fun c_53 => ?_) (fun c_53 => ?_)
      · refine X_iconst (v := (-1 : Int32)) (pc := 60) (td kX6_operationHere 16 rfl) (by decide) ?_
        exact X_ret (pc := 61) (td kX6_operationHere 17 rfl) rfl
      · refine X_iconst (v := (2 : Int32)) (pc := 56) (td kX6_operationHere 14 rfl) (by decide) ?_
        refine X_goto (pc := 57) (tgt := 61) (td kX6_operationHere 15 rfl) (by decide) ?_
        exact X_ret (pc := 61) (td kX6_operationHere 17 rfl) rfl
    · refine X_iconst (v := (1 : Int32)) (pc := 40) (td kX6_operationHere 7 rfl) (by decide) ?_
      refine X_goto (pc := 41) (tgt := 61) (td kX6_operationHere 8 rfl) (by decide) ?_
      exact X_ret (pc := 61) (td kX6_operationHere 17 rfl) rfl
  · refine X_sp (fun c_1_1 => ?_) (fun c_1_1 => ?_)
    · refine X_swI (pc := 1) (tgt := 62) (td kX6_operationHere 1 rfl) c_1_1 (by decide) (by decide) rfl (by decide) ?_
      refine X_aload_n (pc := 62) (td kX6_operationHere 18 rfl) rfl 0 rfl ?_
      refine X_getF (b := 4) (pc := 63) sC_3 rfl fk_X6_14 (td kX6_operationHere 19 rfl) ?_
      refine X_bipush (v := (60 : Int32)) (pc := 66) (td kX6_operationHere 20 rfl) (by decide) ?_
      refine X_callip (pc := 68) (As := [.int (60 : Int32)]) (st := []) (p_X8_isSign (60 : Int32) σ) sC_4 (x_X8_isSign (60 : Int32) σ) mkX8_isSign lk_X6_171 (by omega) rfl rfl (Nat.le_of_ble_eq_true rfl) (td kX6_operationHere 21 rfl) (fun r68 hr68 => ?_)
      refine X_if_eq (pc := 71) (tgt := 78) (td kX6_operationHere 22 rfl) (by decide) (fun c_71 => ?_) (fun c_71 => ?_)
      · refine X_aload_n (pc := 78) (td kX6_operationHere 25 rfl) rfl 0 rfl ?_
        refine X_getF (b := 4) (pc := 79) sC_3 rfl fk_X6_14 (td kX6_operationHere 26 rfl) ?_
        refine X_bipush (v := (61 : Int32)) (pc := 82) (td kX6_operationHere 27 rfl) (by decide) ?_
        refine X_callip (pc := 84) (As := [.int (61 : Int32)]) (st := []) (p_X8_isSign (61 : Int32) σ) sC_4 (x_X8_isSign (61 : Int32) σ) mkX8_isSign lk_X6_171 (by omega) rfl rfl (Nat.le_of_ble_eq_true rfl) (td kX6_operationHere 28 rfl) (fun r84 hr84 => ?_)
        refine X_if_eq (pc := 87) (tgt := 94) (td kX6_operationHere 29 rfl) (by decide) (fun c_87 => ?_) (fun c_87 => ?_)
        · refine X_iconst (v := (-1 : Int32)) (pc := 94) (td kX6_operationHere 32 rfl) (by decide) ?_
          exact X_ret (pc := 95) (td kX6_operationHere 33 rfl) rfl
        · refine X_iconst (v := (4 : Int32)) (pc := 90) (td kX6_operationHere 30 rfl) (by decide) ?_
          refine X_goto (pc := 91) (tgt := 95) (td kX6_operationHere 31 rfl) (by decide) ?_
          exact X_ret (pc := 95) (td kX6_operationHere 33 rfl) rfl
      · refine X_iconst (v := (3 : Int32)) (pc := 74) (td kX6_operationHere 23 rfl) (by decide) ?_
        refine X_goto (pc := 75) (tgt := 95) (td kX6_operationHere 24 rfl) (by decide) ?_
        exact X_ret (pc := 95) (td kX6_operationHere 33 rfl) rfl
    · refine X_sp (fun c_1_2 => ?_) (fun c_1_2 => ?_)
      · refine X_swI (pc := 1) (tgt := 96) (td kX6_operationHere 1 rfl) c_1_2 (by decide) (by decide) rfl (by decide) ?_
        refine X_aload_n (pc := 96) (td kX6_operationHere 34 rfl) rfl 0 rfl ?_
        refine X_getF (b := 4) (pc := 97) sC_3 rfl fk_X6_14 (td kX6_operationHere 35 rfl) ?_
        refine X_bipush (v := (43 : Int32)) (pc := 100) (td kX6_operationHere 36 rfl) (by decide) ?_
        refine X_callip (pc := 102) (As := [.int (43 : Int32)]) (st := []) (p_X8_isSign (43 : Int32) σ) sC_4 (x_X8_isSign (43 : Int32) σ) mkX8_isSign lk_X6_171 (by omega) rfl rfl (Nat.le_of_ble_eq_true rfl) (td kX6_operationHere 37 rfl) (fun r102 hr102 => ?_)
        refine X_if_eq (pc := 105) (tgt := 112) (td kX6_operationHere 38 rfl) (by decide) (fun c_105 => ?_) (fun c_105 => ?_)
        · refine X_aload_n (pc := 112) (td kX6_operationHere 41 rfl) rfl 0 rfl ?_
          refine X_getF (b := 4) (pc := 113) sC_3 rfl fk_X6_14 (td kX6_operationHere 42 rfl) ?_
          refine X_bipush (v := (45 : Int32)) (pc := 116) (td kX6_operationHere 43 rfl) (by decide) ?_
          refine X_callip (pc := 118) (As := [.int (45 : Int32)]) (st := []) (p_X8_isSign (45 : Int32) σ) sC_4 (x_X8_isSign (45 : Int32) σ) mkX8_isSign lk_X6_171 (by omega) rfl rfl (Nat.le_of_ble_eq_true rfl) (td kX6_operationHere 44 rfl) (fun r118 hr118 => ?_)
          refine X_if_eq (pc := 121) (tgt := 129) (td kX6_operationHere 45 rfl) (by decide) (fun c_121 => ?_) (fun c_121 => ?_)
          · refine X_iconst (v := (-1 : Int32)) (pc := 129) (td kX6_operationHere 48 rfl) (by decide) ?_
            exact X_ret (pc := 130) (td kX6_operationHere 49 rfl) rfl
          · refine X_bipush (v := (6 : Int32)) (pc := 124) (td kX6_operationHere 46 rfl) (by decide) ?_
            refine X_goto (pc := 126) (tgt := 130) (td kX6_operationHere 47 rfl) (by decide) ?_
            exact X_ret (pc := 130) (td kX6_operationHere 49 rfl) rfl
        · refine X_iconst (v := (5 : Int32)) (pc := 108) (td kX6_operationHere 39 rfl) (by decide) ?_
          refine X_goto (pc := 109) (tgt := 130) (td kX6_operationHere 40 rfl) (by decide) ?_
          exact X_ret (pc := 130) (td kX6_operationHere 49 rfl) rfl
      · refine X_swO (pc := 1) (tgt := 131) (td kX6_operationHere 1 rfl) (by have z0 := tsw_ne (0) (by decide) c_1_0; have z1 := tsw_ne (1) (by decide) c_1_1; have z2 := tsw_ne (2) (by decide) c_1_2; omega) (by decide) ?_
        refine X_aload_n (pc := 131) (td kX6_operationHere 50 rfl) rfl 0 rfl ?_
        refine X_getF (b := 4) (pc := 132) sC_3 rfl fk_X6_14 (td kX6_operationHere 51 rfl) ?_
        refine X_bipush (v := (42 : Int32)) (pc := 135) (td kX6_operationHere 52 rfl) (by decide) ?_
        refine X_callip (pc := 137) (As := [.int (42 : Int32)]) (st := []) (p_X8_isSign (42 : Int32) σ) sC_4 (x_X8_isSign (42 : Int32) σ) mkX8_isSign lk_X6_171 (by omega) rfl rfl (Nat.le_of_ble_eq_true rfl) (td kX6_operationHere 53 rfl) (fun r137 hr137 => ?_)
        refine X_if_eq (pc := 140) (tgt := 148) (td kX6_operationHere 54 rfl) (by decide) (fun c_140 => ?_) (fun c_140 => ?_)
        · refine X_iconst (v := (-1 : Int32)) (pc := 148) (td kX6_operationHere 57 rfl) (by decide) ?_
          exact X_ret (pc := 149) (td kX6_operationHere 58 rfl) rfl
        · refine X_bipush (v := (7 : Int32)) (pc := 143) (td kX6_operationHere 55 rfl) (by decide) ?_
          refine X_goto (pc := 145) (tgt := 149) (td kX6_operationHere 56 rfl) (by decide) ?_
          exact X_ret (pc := 149) (td kX6_operationHere 58 rfl) rfl
set_option maxHeartbeats 4000000 in
theorem p_X6_operationHere (p1 : Int32) (σ : Mm) : Pu σ (f_X6_operationHere p1 σ) := by
  unfold f_X6_operationHere
  refine Pu_if ?_ ?_
  · refine Pu_cl (fun _ _ => ?_)
    refine Pu_if ?_ ?_
    · refine Pu_cl (fun _ _ => ?_)
      refine Pu_if ?_ ?_
      · exact Pu_some
      · exact Pu_some
    · exact Pu_some
  · refine Pu_if ?_ ?_
    · refine Pu_cl (fun _ _ => ?_)
      refine Pu_if ?_ ?_
      · refine Pu_cl (fun _ _ => ?_)
        refine Pu_if ?_ ?_
        · exact Pu_some
        · exact Pu_some
      · exact Pu_some
    · refine Pu_if ?_ ?_
      · refine Pu_cl (fun _ _ => ?_)
        refine Pu_if ?_ ?_
        · refine Pu_cl (fun _ _ => ?_)
          refine Pu_if ?_ ?_
          · exact Pu_some
          · exact Pu_some
        · exact Pu_some
      · refine Pu_cl (fun _ _ => ?_)
        refine Pu_if ?_ ?_
        · exact Pu_some
        · exact Pu_some

def F_X6_readLevel_29 (fr0 : Nat → Int32 → Int32 → Mm → Option (Int32 × Mm)) (b1 : Nat) (p2 : Int32) (p3 : Int32) (k95 : Mm → Option (Int32 × Mm)) (rec29 : Int32 → Mm → Option (Int32 × Mm)) (x4_29 : Int32) (σ_29 : Mm) : Option (Int32 × Mm) := (if x4_29 < (1000 : Int32) then cl (f_X6_operationHere p2 σ_29) (fun r39 _ => jn (some ((1 : Int32), σ_29)) (fun k60 => (if r39 = (-1 : Int32) then k60 else jn (cl (f_X8_advance σ_29) (fun _ σ66 => cl (fr0 b1 (p2 + (1 : Int32)) p3 σ66) (fun r75 σ75 => (if r75 = 0 then some ((0 : Int32), σ75) else cl (f_X1_add b1 r39 σ75) (fun _ σ86 => rec29 (x4_29 + (1 : Int32)) σ86))))) (fun k62 => (if p2 = (1 : Int32) then (if 0 < x4_29 then k60 else k62) else k62))))) else k95 σ_29)
def fb_X6_readLevel (fr0 : Nat → Int32 → Int32 → Mm → Option (Int32 × Mm)) (fr1 : Nat → Int32 → Mm → Option (Int32 × Mm)) (b1 : Nat) (p2 : Int32) (p3 : Int32) (σ : Mm) : Option (Int32 × Mm) := ck (isLaw b1) ((if p2 < (4 : Int32) then cl (fr0 b1 (p2 + (1 : Int32)) p3 σ) (fun r18 σ18 => (if r18 = 0 then some ((0 : Int32), σ18) else jn (fun (σ_95 : Mm) => some ((1 : Int32), σ_95)) (fun k95 => lq2 (F_X6_readLevel_29 fr0 b1 p2 p3 k95) 1000000 (0 : Int32) σ18))) else cl (fr1 b1 p3 σ) (fun r8 σ8 => some (r8, σ8))))
set_option maxHeartbeats 4000000 in
set_option maxRecDepth 100000 in
theorem xb_X6_readLevel (n : Nat) (fr0 : Nat → Int32 → Int32 → Mm → Option (Int32 × Mm)) (fr1 : Nat → Int32 → Mm → Option (Int32 × Mm)) (hr0 : ∀ (b1 : Nat) (p2 : Int32) (p3 : Int32) (σ : Mm), Con (wsOf SHC) yX6_readLevel cX6_readLevel 6 (some .boolean) (7 + n) [.ref 3, .ref b1, .int p2, .int p3] σ (fr0 b1 p2 p3 σ)) (hr1 : ∀ (b1 : Nat) (p2 : Int32) (σ : Mm), Con (wsOf SHC) yX6_readPart cX6_readPart 7 (some .boolean) (7 + n) [.ref 3, .ref b1, .int p2] σ (fr1 b1 p2 σ)) : ∀ (b1 : Nat) (p2 : Int32) (p3 : Int32) (σ : Mm), Con (wsOf SHC) yX6_readLevel cX6_readLevel 6 (some .boolean) (7 + (n + 1)) [.ref 3, .ref b1, .int p2, .int p3] σ (fb_X6_readLevel fr0 fr1 b1 p2 p3 σ) := by
  intro b1 p2 p3 σ
  refine Con.of_X (by decide +kernel) (Nat.le_of_ble_eq_true rfl) ?_
  unfold fb_X6_readLevel
  show X (wsOf SHC) RX6 cX6_readLevel 6 (some .boolean) (7 + (n + 1)) 0 0 [(0, .ref 3), (1, .ref b1), (2, .int p2), (3, .int p3)] [] σ _
  refine X_ck (fun b1_h => ?_)
  obtain ⟨b1_s0, b1_s1, b1_s2⟩ := knLaw b1_h
  refine X_iload_n (pc := 0) (td kX6_readLevel 0 rfl) rfl 2 rfl ?_
  refine X_iconst (v := (4 : Int32)) (pc := 1) (td kX6_readLevel 1 rfl) (by decide) ?_
  refine X_icmp_lt (pc := 2) (tgt := 12) (td kX6_readLevel 2 rfl) (by decide) (fun c_2 => ?_) (fun c_2 => ?_)
  · refine X_aload_n (pc := 12) (td kX6_readLevel 8 rfl) rfl 0 rfl ?_
    refine X_aload_n (pc := 13) (td kX6_readLevel 9 rfl) rfl 1 rfl ?_
    refine X_iload_n (pc := 14) (td kX6_readLevel 10 rfl) rfl 2 rfl ?_
    refine X_iconst (v := (1 : Int32)) (pc := 15) (td kX6_readLevel 11 rfl) (by decide) ?_
    refine X_iadd (pc := 16) (td kX6_readLevel 12 rfl) ?_
    refine X_iload_n (pc := 17) (td kX6_readLevel 13 rfl) rfl 3 rfl ?_
    refine X_calli (pc := 18) (As := [.ref b1, .int (p2 + (1 : Int32)), .int p3]) (st := []) sC_3 (hr0 b1 (p2 + (1 : Int32)) p3 σ) mkX6_readLevel lk_X6_153 (by omega) rfl rfl (Nat.le_of_ble_eq_true rfl) (td kX6_readLevel 14 rfl) (fun r18 σ18 _ hr18 => ?_)
    refine X_if_ne (pc := 21) (tgt := 26) (td kX6_readLevel 15 rfl) (by decide) (fun c_21 => ?_) (fun c_21 => ?_)
    · refine X_iconst (v := (0 : Int32)) (pc := 26) (td kX6_readLevel 18 rfl) (by decide) ?_
      refine X_istore (L' := [(4, .int (0 : Int32)), (0, .ref 3), (1, .ref b1), (2, .int p2), (3, .int p3)]) (pc := 27) (td kX6_readLevel 19 rfl) (by decide) rfl ?_
      refine X_jn (P := fun k => ∀ (σ_95 : Mm), X (wsOf SHC) RX6 cX6_readLevel 6 (some .boolean) (7 + (n + 1)) 0 95 [] [] σ_95 (k σ_95)) (fun σ_95 => ?_) (fun k95 h95 => ?_)
      · refine X_iconst (v := (1 : Int32)) (pc := 95) (td kX6_readLevel 55 rfl) (by decide) ?_
        exact X_ret (pc := 96) (td kX6_readLevel 56 rfl) rfl
      · refine X_sub [1, 2, 3, 4, 0] rfl ?_
        refine lq2_ind (P := fun x4_29 σ_29 E => X (wsOf SHC) RX6 cX6_readLevel 6 (some .boolean) (7 + (n + 1)) 0 29 [(0, .ref 3), (1, .ref b1), (2, .int p2), (3, .int p3), (4, .int x4_29)] [] σ_29 E) (fun _ _ => X_none) (fun rec29 hrec29 x4_29 σ_29 => ?_) _ _ _
        unfold F_X6_readLevel_29
        refine X_iload (pc := 29) (td kX6_readLevel 20 rfl) 4 rfl ?_
        refine X_sipush (v := (1000 : Int32)) (pc := 31) (td kX6_readLevel 21 rfl) (by decide) ?_
        refine X_icmp_ge (pc := 34) (tgt := 95) (td kX6_readLevel 22 rfl) (by decide) (fun c_34 => ?_) (fun c_34 => ?_)
        · refine X_sub [] rfl ?_
          exact h95 σ_29
        · refine X_aload_n (pc := 37) (td kX6_readLevel 23 rfl) rfl 0 rfl ?_
          refine X_iload_n (pc := 38) (td kX6_readLevel 24 rfl) rfl 2 rfl ?_
          refine X_callip (pc := 39) (As := [.int p2]) (st := []) (p_X6_operationHere p2 σ_29) sC_3 (x_X6_operationHere p2 σ_29) mkX6_operationHere lk_X6_161 (by omega) rfl rfl (Nat.le_of_ble_eq_true rfl) (td kX6_readLevel 25 rfl) (fun r39 hr39 => ?_)
          refine X_istore (L' := [(5, .int r39), (0, .ref 3), (1, .ref b1), (2, .int p2), (3, .int p3), (4, .int x4_29)]) (pc := 42) (td kX6_readLevel 26 rfl) (by decide) rfl ?_
          refine X_iload (pc := 44) (td kX6_readLevel 27 rfl) 0 rfl ?_
          refine X_iconst (v := (-1 : Int32)) (pc := 46) (td kX6_readLevel 28 rfl) (by decide) ?_
          refine X_jn (P := fun k => X (wsOf SHC) RX6 cX6_readLevel 6 (some .boolean) (7 + (n + 1)) 0 60 [] [] σ_29 k) ?_ (fun k60 h60 => ?_)
          · refine X_iconst (v := (1 : Int32)) (pc := 60) (td kX6_readLevel 35 rfl) (by decide) ?_
            exact X_ret (pc := 61) (td kX6_readLevel 36 rfl) rfl
          · refine X_icmp_eq (pc := 47) (tgt := 60) (td kX6_readLevel 29 rfl) (by decide) (fun c_47 => ?_) (fun c_47 => ?_)
            · refine X_sub [] rfl ?_
              exact h60
            · refine X_iload_n (pc := 50) (td kX6_readLevel 30 rfl) rfl 3 rfl ?_
              refine X_iconst (v := (1 : Int32)) (pc := 51) (td kX6_readLevel 31 rfl) (by decide) ?_
              refine X_jn (P := fun k => X (wsOf SHC) RX6 cX6_readLevel 6 (some .boolean) (7 + (n + 1)) 0 62 [(0, .ref 3), (1, .ref b1), (2, .int p2), (3, .int p3), (4, .int x4_29), (5, .int r39)] [] σ_29 k) ?_ (fun k62 h62 => ?_)
              · refine X_aload_n (pc := 62) (td kX6_readLevel 37 rfl) rfl 0 rfl ?_
                refine X_getF (b := 4) (pc := 63) sC_3 rfl fk_X6_14 (td kX6_readLevel 38 rfl) ?_
                refine X_callv (pc := 66) (As := []) (st := []) sC_4 (x_X8_advance σ_29) mkX8_advance lk_X6_78 (by omega) rfl rfl (Nat.le_of_ble_eq_true rfl) (td kX6_readLevel 39 rfl) (fun _ σ66 _ => ?_)
                refine X_aload_n (pc := 69) (td kX6_readLevel 40 rfl) rfl 0 rfl ?_
                refine X_aload_n (pc := 70) (td kX6_readLevel 41 rfl) rfl 1 rfl ?_
                refine X_iload_n (pc := 71) (td kX6_readLevel 42 rfl) rfl 2 rfl ?_
                refine X_iconst (v := (1 : Int32)) (pc := 72) (td kX6_readLevel 43 rfl) (by decide) ?_
                refine X_iadd (pc := 73) (td kX6_readLevel 44 rfl) ?_
                refine X_iload_n (pc := 74) (td kX6_readLevel 45 rfl) rfl 3 rfl ?_
                refine X_calli (pc := 75) (As := [.ref b1, .int (p2 + (1 : Int32)), .int p3]) (st := []) sC_3 (hr0 b1 (p2 + (1 : Int32)) p3 σ66) mkX6_readLevel lk_X6_153 (by omega) rfl rfl (Nat.le_of_ble_eq_true rfl) (td kX6_readLevel 46 rfl) (fun r75 σ75 _ hr75 => ?_)
                refine X_if_ne (pc := 78) (tgt := 83) (td kX6_readLevel 47 rfl) (by decide) (fun c_78 => ?_) (fun c_78 => ?_)
                · refine X_aload_n (pc := 83) (td kX6_readLevel 50 rfl) rfl 1 rfl ?_
                  refine X_iload (pc := 84) (td kX6_readLevel 51 rfl) 5 rfl ?_
                  refine X_callv (pc := 86) (As := [.int r39]) (st := []) b1_s0 (x_X1_add b1 r39 σ75) mkX1_add lk_X6_164 (by omega) rfl rfl (Nat.le_of_ble_eq_true rfl) (td kX6_readLevel 52 rfl) (fun _ σ86 _ => ?_)
                  refine X_iinc (v := (x4_29 + (1 : Int32))) (L' := [(4, .int (x4_29 + (1 : Int32))), (0, .ref 3), (1, .ref b1), (2, .int p2), (3, .int p3), (5, .int r39)]) (pc := 89) (td kX6_readLevel 53 rfl) 4 rfl rfl (by decide) rfl ?_
                  refine X_goto (pc := 92) (tgt := 29) (td kX6_readLevel 54 rfl) (by decide) ?_
                  refine X_sub [1, 2, 3, 4, 0] rfl ?_
                  exact hrec29 (x4_29 + (1 : Int32)) σ86
                · refine X_iconst (v := (0 : Int32)) (pc := 81) (td kX6_readLevel 48 rfl) (by decide) ?_
                  exact X_ret (pc := 82) (td kX6_readLevel 49 rfl) rfl
              · refine X_icmp_ne (pc := 52) (tgt := 62) (td kX6_readLevel 32 rfl) (by decide) (fun c_52 => ?_) (fun c_52 => ?_)
                · refine X_sub [1, 2, 3, 4, 5, 0] rfl ?_
                  exact h62
                · refine X_iload (pc := 55) (td kX6_readLevel 33 rfl) 5 rfl ?_
                  refine X_if_le (pc := 57) (tgt := 62) (td kX6_readLevel 34 rfl) (by decide) (fun c_57 => ?_) (fun c_57 => ?_)
                  · refine X_sub [1, 2, 3, 4, 5, 0] rfl ?_
                    exact h62
                  · refine X_sub [] rfl ?_
                    exact h60
    · refine X_iconst (v := (0 : Int32)) (pc := 24) (td kX6_readLevel 16 rfl) (by decide) ?_
      exact X_ret (pc := 25) (td kX6_readLevel 17 rfl) rfl
  · refine X_aload_n (pc := 5) (td kX6_readLevel 3 rfl) rfl 0 rfl ?_
    refine X_aload_n (pc := 6) (td kX6_readLevel 4 rfl) rfl 1 rfl ?_
    refine X_iload_n (pc := 7) (td kX6_readLevel 5 rfl) rfl 3 rfl ?_
    refine X_calli (pc := 8) (As := [.ref b1, .int p3]) (st := []) sC_3 (hr1 b1 p3 σ) mkX6_readPart lk_X6_157 (by omega) rfl rfl (Nat.le_of_ble_eq_true rfl) (td kX6_readLevel 6 rfl) (fun r8 σ8 _ hr8 => ?_)
    exact X_ret (pc := 11) (td kX6_readLevel 7 rfl) hr8
def J_X6_readPart_103 (fr0 : Nat → Int32 → Int32 → Mm → Option (Int32 × Mm)) (fr1 : Nat → Int32 → Mm → Option (Int32 × Mm)) (b1 : Nat) (p2 : Int32) (σ : Mm) (y0_40 : Int32) (r47 : Int32) (r58 : Int32) (v6_70 : Int32) : Option (Int32 × Mm) := (if p2 < (5 : Int32) then cl (f_X8_advance σ) (fun _ σ118 => (if r58 = 0 then (if r47 = 0 then jn (fun (y1_199 : Int32) => cl (f_X1_add b1 y1_199 σ118) (fun _ σ199 => some ((1 : Int32), σ199))) (fun k199 => (if y0_40 = 0 then k199 ((12 : Int32) + v6_70) else k199 (((8 : Int32) + v6_70) - (19 : Int32)))) else cl (fr1 b1 (p2 + (1 : Int32)) σ118) (fun r163 σ163 => (if r163 = 0 then some ((0 : Int32), σ163) else cl (f_X1_add b1 (0 : Int32) σ163) (fun _ σ173 => some ((1 : Int32), σ173))))) else cl (fr0 b1 (0 : Int32) (p2 + (1 : Int32)) σ118) (fun r132 σ132 => jn (fun (σ_151 : Mm) => some ((0 : Int32), σ_151)) (fun k151 => (if r132 = 0 then k151 σ132 else cl (f_X6_readSign (41 : Int32) σ132) (fun r141 σ141 => (if r141 = 0 then k151 σ141 else some ((1 : Int32), σ141)))))))) else cl (f_X6_wrong (5 : Int32) σ) (fun r110 σ110 => some (r110, σ110)))
def J_X6_readPart_40 (fr0 : Nat → Int32 → Int32 → Mm → Option (Int32 × Mm)) (fr1 : Nat → Int32 → Mm → Option (Int32 × Mm)) (b1 : Nat) (p2 : Int32) (σ : Mm) (y0_40 : Int32) : Option (Int32 × Mm) := cl (f_X8_isWord (16 : Int32) σ) (fun r47 _ => cl (f_X8_isSign (40 : Int32) σ) (fun r58 _ => bn (gI σ 4 6) (fun v6_70 => jn (J_X6_readPart_103 fr0 fr1 b1 p2 σ y0_40 r47 r58 v6_70) (fun k103 => (if y0_40 = 0 then (if r47 = 0 then (if r58 = 0 then (if (gI σ 4 2) = (3 : Int32) then k103 else cl (f_X6_wrong (1 : Int32) σ) (fun r99 σ99 => some (r99, σ99))) else k103) else k103) else k103)))))
def fb_X6_readPart (fr0 : Nat → Int32 → Int32 → Mm → Option (Int32 × Mm)) (fr1 : Nat → Int32 → Mm → Option (Int32 × Mm)) (b1 : Nat) (p2 : Int32) (σ : Mm) : Option (Int32 × Mm) := ck (isLaw b1) (jn (J_X6_readPart_40 fr0 fr1 b1 p2 σ) (fun k40 => jn (k40 (0 : Int32)) (fun k39 => (if (gI σ 4 2) = (2 : Int32) then (if (gI σ 4 6) < (19 : Int32) then k39 else (if (22 : Int32) < (gI σ 4 6) then k39 else k40 (1 : Int32))) else k39))))
set_option maxHeartbeats 4000000 in
set_option maxRecDepth 100000 in
theorem xb_X6_readPart (n : Nat) (fr0 : Nat → Int32 → Int32 → Mm → Option (Int32 × Mm)) (fr1 : Nat → Int32 → Mm → Option (Int32 × Mm)) (hr0 : ∀ (b1 : Nat) (p2 : Int32) (p3 : Int32) (σ : Mm), Con (wsOf SHC) yX6_readLevel cX6_readLevel 6 (some .boolean) (7 + n) [.ref 3, .ref b1, .int p2, .int p3] σ (fr0 b1 p2 p3 σ)) (hr1 : ∀ (b1 : Nat) (p2 : Int32) (σ : Mm), Con (wsOf SHC) yX6_readPart cX6_readPart 7 (some .boolean) (7 + n) [.ref 3, .ref b1, .int p2] σ (fr1 b1 p2 σ)) : ∀ (b1 : Nat) (p2 : Int32) (σ : Mm), Con (wsOf SHC) yX6_readPart cX6_readPart 7 (some .boolean) (7 + (n + 1)) [.ref 3, .ref b1, .int p2] σ (fb_X6_readPart fr0 fr1 b1 p2 σ) := by
  intro b1 p2 σ
  refine Con.of_X (by decide +kernel) (Nat.le_of_ble_eq_true rfl) ?_
  unfold fb_X6_readPart
  show X (wsOf SHC) RX6 cX6_readPart 7 (some .boolean) (7 + (n + 1)) 0 0 [(0, .ref 3), (1, .ref b1), (2, .int p2)] [] σ _
  refine X_ck (fun b1_h => ?_)
  obtain ⟨b1_s0, b1_s1, b1_s2⟩ := knLaw b1_h
  refine X_aload_n (pc := 0) (td kX6_readPart 0 rfl) rfl 0 rfl ?_
  refine X_getF (b := 4) (pc := 1) sC_3 rfl fk_X6_14 (td kX6_readPart 1 rfl) ?_
  refine X_getI (pc := 4) sC_4 rfl fk_X6_34 (td kX6_readPart 2 rfl) ?_
  refine X_iconst (v := (2 : Int32)) (pc := 7) (td kX6_readPart 3 rfl) (by decide) ?_
  refine X_jn (P := fun k => ∀ (y0_40 : Int32), X (wsOf SHC) RX6 cX6_readPart 7 (some .boolean) (7 + (n + 1)) 0 40 [(0, .ref 3), (1, .ref b1), (2, .int p2)] [.int y0_40] σ (k y0_40)) (fun y0_40 => ?_) (fun k40 h40 => ?_)
  · unfold J_X6_readPart_40
    refine X_istore_n (L' := [(3, .int y0_40), (0, .ref 3), (1, .ref b1), (2, .int p2)]) (pc := 40) (td kX6_readPart 18 rfl) rfl (by decide) rfl ?_
    refine X_aload_n (pc := 41) (td kX6_readPart 19 rfl) rfl 1 rfl ?_
    refine X_getF (b := 4) (pc := 42) sC_3 rfl fk_X6_14 (td kX6_readPart 20 rfl) ?_
    refine X_bipush (v := (16 : Int32)) (pc := 45) (td kX6_readPart 21 rfl) (by decide) ?_
    refine X_callip (pc := 47) (As := [.int (16 : Int32)]) (st := []) (p_X8_isWord (16 : Int32) σ) sC_4 (x_X8_isWord (16 : Int32) σ) mkX8_isWord lk_X6_168 (by omega) rfl rfl (Nat.le_of_ble_eq_true rfl) (td kX6_readPart 22 rfl) (fun r47 hr47 => ?_)
    refine X_istore (L' := [(4, .int r47), (3, .int y0_40), (0, .ref 3), (1, .ref b1), (2, .int p2)]) (pc := 50) (td kX6_readPart 23 rfl) (by decide) rfl ?_
    refine X_aload_n (pc := 52) (td kX6_readPart 24 rfl) rfl 2 rfl ?_
    refine X_getF (b := 4) (pc := 53) sC_3 rfl fk_X6_14 (td kX6_readPart 25 rfl) ?_
    refine X_bipush (v := (40 : Int32)) (pc := 56) (td kX6_readPart 26 rfl) (by decide) ?_
    refine X_callip (pc := 58) (As := [.int (40 : Int32)]) (st := []) (p_X8_isSign (40 : Int32) σ) sC_4 (x_X8_isSign (40 : Int32) σ) mkX8_isSign lk_X6_171 (by omega) rfl rfl (Nat.le_of_ble_eq_true rfl) (td kX6_readPart 27 rfl) (fun r58 hr58 => ?_)
    refine X_istore (L' := [(5, .int r58), (4, .int r47), (3, .int y0_40), (0, .ref 3), (1, .ref b1), (2, .int p2)]) (pc := 61) (td kX6_readPart 28 rfl) (by decide) rfl ?_
    refine X_aload_n (pc := 63) (td kX6_readPart 29 rfl) rfl 3 rfl ?_
    refine X_getF (b := 4) (pc := 64) sC_3 rfl fk_X6_14 (td kX6_readPart 30 rfl) ?_
    refine X_getI (pc := 67) sC_4 rfl fk_X6_37 (td kX6_readPart 31 rfl) ?_
    refine X_bi (fun v6_70 => ?_)
    refine X_istore (L' := [(6, .int v6_70), (5, .int r58), (4, .int r47), (3, .int y0_40), (0, .ref 3), (1, .ref b1), (2, .int p2)]) (pc := 70) (td kX6_readPart 32 rfl) (by decide) rfl ?_
    refine X_iload_n (pc := 72) (td kX6_readPart 33 rfl) rfl 3 rfl ?_
    refine X_jn (P := fun k => X (wsOf SHC) RX6 cX6_readPart 7 (some .boolean) (7 + (n + 1)) 0 103 [(0, .ref 3), (1, .ref b1), (2, .int p2), (3, .int y0_40), (4, .int r47), (5, .int r58), (6, .int v6_70)] [] σ k) ?_ (fun k103 h103 => ?_)
    · unfold J_X6_readPart_103
      refine X_iload_n (pc := 103) (td kX6_readPart 48 rfl) rfl 2 rfl ?_
      refine X_iconst (v := (5 : Int32)) (pc := 104) (td kX6_readPart 49 rfl) (by decide) ?_
      refine X_icmp_lt (pc := 105) (tgt := 114) (td kX6_readPart 50 rfl) (by decide) (fun c_105 => ?_) (fun c_105 => ?_)
      · refine X_aload_n (pc := 114) (td kX6_readPart 55 rfl) rfl 0 rfl ?_
        refine X_getF (b := 4) (pc := 115) sC_3 rfl fk_X6_14 (td kX6_readPart 56 rfl) ?_
        refine X_callv (pc := 118) (As := []) (st := []) sC_4 (x_X8_advance σ) mkX8_advance lk_X6_78 (by omega) rfl rfl (Nat.le_of_ble_eq_true rfl) (td kX6_readPart 57 rfl) (fun _ σ118 _ => ?_)
        refine X_iload (pc := 121) (td kX6_readPart 58 rfl) 5 rfl ?_
        refine X_if_eq (pc := 123) (tgt := 153) (td kX6_readPart 59 rfl) (by decide) (fun c_123 => ?_) (fun c_123 => ?_)
        · refine X_iload (pc := 153) (td kX6_readPart 76 rfl) 4 rfl ?_
          refine X_if_eq (pc := 155) (tgt := 178) (td kX6_readPart 77 rfl) (by decide) (fun c_155 => ?_) (fun c_155 => ?_)
          · refine X_aload_n (pc := 178) (td kX6_readPart 92 rfl) rfl 1 rfl ?_
            refine X_iload_n (pc := 179) (td kX6_readPart 93 rfl) rfl 3 rfl ?_
            refine X_jn (P := fun k => ∀ (y1_199 : Int32), X (wsOf SHC) RX6 cX6_readPart 7 (some .boolean) (7 + (n + 1)) 0 199 [] [.int y1_199, .ref b1] σ118 (k y1_199)) (fun y1_199 => ?_) (fun k199 h199 => ?_)
            · refine X_callv (pc := 199) (As := [.int y1_199]) (st := []) b1_s0 (x_X1_add b1 y1_199 σ118) mkX1_add lk_X6_164 (by omega) rfl rfl (Nat.le_of_ble_eq_true rfl) (td kX6_readPart 104 rfl) (fun _ σ199 _ => ?_)
              refine X_iconst (v := (1 : Int32)) (pc := 202) (td kX6_readPart 105 rfl) (by decide) ?_
              exact X_ret (pc := 203) (td kX6_readPart 106 rfl) rfl
            · refine X_if_eq (pc := 180) (tgt := 194) (td kX6_readPart 94 rfl) (by decide) (fun c_180 => ?_) (fun c_180 => ?_)
              · refine X_bipush (v := (12 : Int32)) (pc := 194) (td kX6_readPart 101 rfl) (by decide) ?_
                refine X_iload (pc := 196) (td kX6_readPart 102 rfl) 6 rfl ?_
                refine X_iadd (pc := 198) (td kX6_readPart 103 rfl) ?_
                refine X_sub [] rfl ?_
                exact h199 ((12 : Int32) + v6_70)
              · refine X_bipush (v := (8 : Int32)) (pc := 183) (td kX6_readPart 95 rfl) (by decide) ?_
                refine X_iload (pc := 185) (td kX6_readPart 96 rfl) 6 rfl ?_
                refine X_iadd (pc := 187) (td kX6_readPart 97 rfl) ?_
                refine X_bipush (v := (19 : Int32)) (pc := 188) (td kX6_readPart 98 rfl) (by decide) ?_
                refine X_isub (pc := 190) (td kX6_readPart 99 rfl) ?_
                refine X_goto (pc := 191) (tgt := 199) (td kX6_readPart 100 rfl) (by decide) ?_
                refine X_sub [] rfl ?_
                exact h199 (((8 : Int32) + v6_70) - (19 : Int32))
          · refine X_aload_n (pc := 158) (td kX6_readPart 78 rfl) rfl 0 rfl ?_
            refine X_aload_n (pc := 159) (td kX6_readPart 79 rfl) rfl 1 rfl ?_
            refine X_iload_n (pc := 160) (td kX6_readPart 80 rfl) rfl 2 rfl ?_
            refine X_iconst (v := (1 : Int32)) (pc := 161) (td kX6_readPart 81 rfl) (by decide) ?_
            refine X_iadd (pc := 162) (td kX6_readPart 82 rfl) ?_
            refine X_calli (pc := 163) (As := [.ref b1, .int (p2 + (1 : Int32))]) (st := []) sC_3 (hr1 b1 (p2 + (1 : Int32)) σ118) mkX6_readPart lk_X6_157 (by omega) rfl rfl (Nat.le_of_ble_eq_true rfl) (td kX6_readPart 83 rfl) (fun r163 σ163 _ hr163 => ?_)
            refine X_if_ne (pc := 166) (tgt := 171) (td kX6_readPart 84 rfl) (by decide) (fun c_166 => ?_) (fun c_166 => ?_)
            · refine X_aload_n (pc := 171) (td kX6_readPart 87 rfl) rfl 1 rfl ?_
              refine X_iconst (v := (0 : Int32)) (pc := 172) (td kX6_readPart 88 rfl) (by decide) ?_
              refine X_callv (pc := 173) (As := [.int (0 : Int32)]) (st := []) b1_s0 (x_X1_add b1 (0 : Int32) σ163) mkX1_add lk_X6_164 (by omega) rfl rfl (Nat.le_of_ble_eq_true rfl) (td kX6_readPart 89 rfl) (fun _ σ173 _ => ?_)
              refine X_iconst (v := (1 : Int32)) (pc := 176) (td kX6_readPart 90 rfl) (by decide) ?_
              exact X_ret (pc := 177) (td kX6_readPart 91 rfl) rfl
            · refine X_iconst (v := (0 : Int32)) (pc := 169) (td kX6_readPart 85 rfl) (by decide) ?_
              exact X_ret (pc := 170) (td kX6_readPart 86 rfl) rfl
        · refine X_aload_n (pc := 126) (td kX6_readPart 60 rfl) rfl 0 rfl ?_
          refine X_aload_n (pc := 127) (td kX6_readPart 61 rfl) rfl 1 rfl ?_
          refine X_iconst (v := (0 : Int32)) (pc := 128) (td kX6_readPart 62 rfl) (by decide) ?_
          refine X_iload_n (pc := 129) (td kX6_readPart 63 rfl) rfl 2 rfl ?_
          refine X_iconst (v := (1 : Int32)) (pc := 130) (td kX6_readPart 64 rfl) (by decide) ?_
          refine X_iadd (pc := 131) (td kX6_readPart 65 rfl) ?_
          refine X_calli (pc := 132) (As := [.ref b1, .int (0 : Int32), .int (p2 + (1 : Int32))]) (st := []) sC_3 (hr0 b1 (0 : Int32) (p2 + (1 : Int32)) σ118) mkX6_readLevel lk_X6_153 (by omega) rfl rfl (Nat.le_of_ble_eq_true rfl) (td kX6_readPart 66 rfl) (fun r132 σ132 _ hr132 => ?_)
          refine X_jn (P := fun k => ∀ (σ_151 : Mm), X (wsOf SHC) RX6 cX6_readPart 7 (some .boolean) (7 + (n + 1)) 0 151 [] [] σ_151 (k σ_151)) (fun σ_151 => ?_) (fun k151 h151 => ?_)
          · refine X_iconst (v := (0 : Int32)) (pc := 151) (td kX6_readPart 74 rfl) (by decide) ?_
            exact X_ret (pc := 152) (td kX6_readPart 75 rfl) rfl
          · refine X_if_eq (pc := 135) (tgt := 151) (td kX6_readPart 67 rfl) (by decide) (fun c_135 => ?_) (fun c_135 => ?_)
            · refine X_sub [] rfl ?_
              exact h151 σ132
            · refine X_aload_n (pc := 138) (td kX6_readPart 68 rfl) rfl 0 rfl ?_
              refine X_bipush (v := (41 : Int32)) (pc := 139) (td kX6_readPart 69 rfl) (by decide) ?_
              refine X_calli (pc := 141) (As := [.int (41 : Int32)]) (st := []) sC_3 (x_X6_readSign (41 : Int32) σ132) mkX6_readSign lk_X6_89 (by omega) rfl rfl (Nat.le_of_ble_eq_true rfl) (td kX6_readPart 70 rfl) (fun r141 σ141 _ hr141 => ?_)
              refine X_if_eq (pc := 144) (tgt := 151) (td kX6_readPart 71 rfl) (by decide) (fun c_144 => ?_) (fun c_144 => ?_)
              · refine X_sub [] rfl ?_
                exact h151 σ141
              · refine X_iconst (v := (1 : Int32)) (pc := 147) (td kX6_readPart 72 rfl) (by decide) ?_
                refine X_goto (pc := 148) (tgt := 152) (td kX6_readPart 73 rfl) (by decide) ?_
                exact X_ret (pc := 152) (td kX6_readPart 75 rfl) rfl
      · refine X_aload_n (pc := 108) (td kX6_readPart 51 rfl) rfl 0 rfl ?_
        refine X_iconst (v := (5 : Int32)) (pc := 109) (td kX6_readPart 52 rfl) (by decide) ?_
        refine X_calli (pc := 110) (As := [.int (5 : Int32)]) (st := []) sC_3 (x_X6_wrong (5 : Int32) σ) mkX6_wrong lk_X6_56 (by omega) rfl rfl (Nat.le_of_ble_eq_true rfl) (td kX6_readPart 53 rfl) (fun r110 σ110 _ hr110 => ?_)
        exact X_ret (pc := 113) (td kX6_readPart 54 rfl) hr110
    · refine X_if_ne (pc := 73) (tgt := 103) (td kX6_readPart 34 rfl) (by decide) (fun c_73 => ?_) (fun c_73 => ?_)
      · refine X_sub [4, 5, 6, 3, 2, 1, 0] rfl ?_
        exact h103
      · refine X_iload (pc := 76) (td kX6_readPart 35 rfl) 2 rfl ?_
        refine X_if_ne (pc := 78) (tgt := 103) (td kX6_readPart 36 rfl) (by decide) (fun c_78 => ?_) (fun c_78 => ?_)
        · refine X_sub [4, 5, 6, 3, 2, 1, 0] rfl ?_
          exact h103
        · refine X_iload (pc := 81) (td kX6_readPart 37 rfl) 1 rfl ?_
          refine X_if_ne (pc := 83) (tgt := 103) (td kX6_readPart 38 rfl) (by decide) (fun c_83 => ?_) (fun c_83 => ?_)
          · refine X_sub [4, 5, 6, 3, 2, 1, 0] rfl ?_
            exact h103
          · refine X_aload_n (pc := 86) (td kX6_readPart 39 rfl) rfl 4 rfl ?_
            refine X_getF (b := 4) (pc := 87) sC_3 rfl fk_X6_14 (td kX6_readPart 40 rfl) ?_
            refine X_getI (pc := 90) sC_4 rfl fk_X6_34 (td kX6_readPart 41 rfl) ?_
            refine X_iconst (v := (3 : Int32)) (pc := 93) (td kX6_readPart 42 rfl) (by decide) ?_
            refine X_icmp_eq (pc := 94) (tgt := 103) (td kX6_readPart 43 rfl) (by decide) (fun c_94 => ?_) (fun c_94 => ?_)
            · refine X_sub [4, 5, 6, 3, 2, 1, 0] rfl ?_
              exact h103
            · refine X_aload_n (pc := 97) (td kX6_readPart 44 rfl) rfl 4 rfl ?_
              refine X_iconst (v := (1 : Int32)) (pc := 98) (td kX6_readPart 45 rfl) (by decide) ?_
              refine X_calli (pc := 99) (As := [.int (1 : Int32)]) (st := []) sC_3 (x_X6_wrong (1 : Int32) σ) mkX6_wrong lk_X6_56 (by omega) rfl rfl (Nat.le_of_ble_eq_true rfl) (td kX6_readPart 46 rfl) (fun r99 σ99 _ hr99 => ?_)
              exact X_ret (pc := 102) (td kX6_readPart 47 rfl) hr99
  · refine X_jn (P := fun k => X (wsOf SHC) RX6 cX6_readPart 7 (some .boolean) (7 + (n + 1)) 0 39 [(0, .ref 3), (1, .ref b1), (2, .int p2)] [] σ k) ?_ (fun k39 h39 => ?_)
    · refine X_iconst (v := (0 : Int32)) (pc := 39) (td kX6_readPart 17 rfl) (by decide) ?_
      exact h40 (0 : Int32)
    · refine X_icmp_ne (pc := 8) (tgt := 39) (td kX6_readPart 4 rfl) (by decide) (fun c_8 => ?_) (fun c_8 => ?_)
      · exact h39
      · refine X_aload_n (pc := 11) (td kX6_readPart 5 rfl) rfl 0 rfl ?_
        refine X_getF (b := 4) (pc := 12) sC_3 rfl fk_X6_14 (td kX6_readPart 6 rfl) ?_
        refine X_getI (pc := 15) sC_4 rfl fk_X6_37 (td kX6_readPart 7 rfl) ?_
        refine X_bipush (v := (19 : Int32)) (pc := 18) (td kX6_readPart 8 rfl) (by decide) ?_
        refine X_icmp_lt (pc := 20) (tgt := 39) (td kX6_readPart 9 rfl) (by decide) (fun c_20 => ?_) (fun c_20 => ?_)
        · exact h39
        · refine X_aload_n (pc := 23) (td kX6_readPart 10 rfl) rfl 0 rfl ?_
          refine X_getF (b := 4) (pc := 24) sC_3 rfl fk_X6_14 (td kX6_readPart 11 rfl) ?_
          refine X_getI (pc := 27) sC_4 rfl fk_X6_37 (td kX6_readPart 12 rfl) ?_
          refine X_bipush (v := (22 : Int32)) (pc := 30) (td kX6_readPart 13 rfl) (by decide) ?_
          refine X_icmp_gt (pc := 32) (tgt := 39) (td kX6_readPart 14 rfl) (by decide) (fun c_32 => ?_) (fun c_32 => ?_)
          · exact h39
          · refine X_iconst (v := (1 : Int32)) (pc := 35) (td kX6_readPart 15 rfl) (by decide) ?_
            refine X_goto (pc := 36) (tgt := 40) (td kX6_readPart 16 rfl) (by decide) ?_
            exact h40 (1 : Int32)
def fLP : Nat → (Nat → Int32 → Int32 → Mm → Option (Int32 × Mm)) × (Nat → Int32 → Mm → Option (Int32 × Mm))
  | 0 => (fun _ _ _ _ => none, fun _ _ _ => none)
  | n + 1 => (fb_X6_readLevel ((fLP n).1) ((fLP n).2), fb_X6_readPart ((fLP n).1) ((fLP n).2))
theorem xfLP : ∀ n, (∀ (b1 : Nat) (p2 : Int32) (p3 : Int32) (σ : Mm), Con (wsOf SHC) yX6_readLevel cX6_readLevel 6 (some .boolean) (7 + n) [.ref 3, .ref b1, .int p2, .int p3] σ ((fLP n).1 b1 p2 p3 σ)) ∧ (∀ (b1 : Nat) (p2 : Int32) (σ : Mm), Con (wsOf SHC) yX6_readPart cX6_readPart 7 (some .boolean) (7 + n) [.ref 3, .ref b1, .int p2] σ ((fLP n).2 b1 p2 σ))
  | 0 => ⟨fun _ _ _ _ _ _ _ _ _ _ _ h => (by cases h) , fun _ _ _ _ _ _ _ _ _ _ h => (by cases h)⟩
  | n + 1 => ⟨xb_X6_readLevel n _ _ (xfLP n).1 (xfLP n).2, xb_X6_readPart n _ _ (xfLP n).1 (xfLP n).2⟩
def f_X6_readLevel (b1 : Nat) (p2 : Int32) (p3 : Int32) (σ : Mm) : Option (Int32 × Mm) := (fLP 48).1 b1 p2 p3 σ
theorem x_X6_readLevel (b1 : Nat) (p2 : Int32) (p3 : Int32) (σ : Mm) : Con (wsOf SHC) yX6_readLevel cX6_readLevel 6 (some .boolean) 55 [.ref 3, .ref b1, .int p2, .int p3] σ (f_X6_readLevel b1 p2 p3 σ) := (xfLP 48).1 b1 p2 p3 σ
def f_X6_readPart (b1 : Nat) (p2 : Int32) (σ : Mm) : Option (Int32 × Mm) := (fLP 48).2 b1 p2 σ
theorem x_X6_readPart (b1 : Nat) (p2 : Int32) (σ : Mm) : Con (wsOf SHC) yX6_readPart cX6_readPart 7 (some .boolean) 55 [.ref 3, .ref b1, .int p2] σ (f_X6_readPart b1 p2 σ) := (xfLP 48).2 b1 p2 σ
def f_X6_readLaw (b1 : Nat) (σ : Mm) : Option (Int32 × Mm) := ck (isTown b1) ((if 0 < (gI σ (b1 + 1) 2) then cl (f_X6_wrong (3 : Int32) σ) (fun r12 σ12 => some (0, σ12)) else cl (f_X8_advance σ) (fun _ σ21 => cl (f_X6_readLevel (b1 + 1) (0 : Int32) (0 : Int32) σ21) (fun r31 σ31 => (if r31 = 0 then some (0, σ31) else cl (f_X6_readSign (59 : Int32) σ31) (fun r40 σ40 => some (0, σ40)))))))
set_option maxHeartbeats 4000000 in
set_option maxRecDepth 100000 in
theorem x_X6_readLaw (b1 : Nat) (σ : Mm) : Con (wsOf SHC) yX6_readLaw cX6_readLaw 2 none 56 [.ref 3, .ref b1] σ (f_X6_readLaw b1 σ) := by
  refine Con.of_X (by decide +kernel) (Nat.le_of_ble_eq_true rfl) ?_
  unfold f_X6_readLaw
  show X (wsOf SHC) RX6 cX6_readLaw 2 none 56 0 0 [(0, .ref 3), (1, .ref b1)] [] σ _
  refine X_ck (fun b1_h => ?_)
  obtain ⟨b1_s0, b1_s1, b1_s2, b1_s3, b1_s4, b1_s5, b1_s6, b1_s7, b1_s8, b1_s9, b1_s10, b1_s11, b1_s12, b1_s13, b1_s14⟩ := knTown b1_h
  refine X_aload_n (pc := 0) (td kX6_readLaw 0 rfl) rfl 1 rfl ?_
  refine X_getF (b := (b1 + 1)) (pc := 1) b1_s0 rfl fk_X6_144 (td kX6_readLaw 1 rfl) ?_
  refine X_getI (pc := 4) b1_s1 rfl fk_X6_148 (td kX6_readLaw 2 rfl) ?_
  refine X_if_le (pc := 7) (tgt := 17) (td kX6_readLaw 3 rfl) (by decide) (fun c_7 => ?_) (fun c_7 => ?_)
  · refine X_aload_n (pc := 17) (td kX6_readLaw 9 rfl) rfl 0 rfl ?_
    refine X_getF (b := 4) (pc := 18) sC_3 rfl fk_X6_14 (td kX6_readLaw 10 rfl) ?_
    refine X_callv (pc := 21) (As := []) (st := []) sC_4 (x_X8_advance σ) mkX8_advance lk_X6_78 (by omega) rfl rfl (Nat.le_of_ble_eq_true rfl) (td kX6_readLaw 11 rfl) (fun _ σ21 _ => ?_)
    refine X_aload_n (pc := 24) (td kX6_readLaw 12 rfl) rfl 0 rfl ?_
    refine X_aload_n (pc := 25) (td kX6_readLaw 13 rfl) rfl 1 rfl ?_
    refine X_getF (b := (b1 + 1)) (pc := 26) b1_s0 rfl fk_X6_144 (td kX6_readLaw 14 rfl) ?_
    refine X_iconst (v := (0 : Int32)) (pc := 29) (td kX6_readLaw 15 rfl) (by decide) ?_
    refine X_iconst (v := (0 : Int32)) (pc := 30) (td kX6_readLaw 16 rfl) (by decide) ?_
    refine X_calli (pc := 31) (As := [.ref (b1 + 1), .int (0 : Int32), .int (0 : Int32)]) (st := []) sC_3 (x_X6_readLevel (b1 + 1) (0 : Int32) (0 : Int32) σ21) mkX6_readLevel lk_X6_153 (by omega) rfl rfl (Nat.le_of_ble_eq_true rfl) (td kX6_readLaw 17 rfl) (fun r31 σ31 _ hr31 => ?_)
    refine X_if_eq (pc := 34) (tgt := 44) (td kX6_readLaw 18 rfl) (by decide) (fun c_34 => ?_) (fun c_34 => ?_)
    · exact X_retv (pc := 44) (td kX6_readLaw 23 rfl)
    · refine X_aload_n (pc := 37) (td kX6_readLaw 19 rfl) rfl 0 rfl ?_
      refine X_bipush (v := (59 : Int32)) (pc := 38) (td kX6_readLaw 20 rfl) (by decide) ?_
      refine X_calli (pc := 40) (As := [.int (59 : Int32)]) (st := []) sC_3 (x_X6_readSign (59 : Int32) σ31) mkX6_readSign lk_X6_89 (by omega) rfl rfl (Nat.le_of_ble_eq_true rfl) (td kX6_readLaw 21 rfl) (fun r40 σ40 _ hr40 => ?_)
      refine X_pop (pc := 43) (td kX6_readLaw 22 rfl) rfl ?_
      exact X_retv (pc := 44) (td kX6_readLaw 23 rfl)
  · refine X_aload_n (pc := 10) (td kX6_readLaw 4 rfl) rfl 0 rfl ?_
    refine X_iconst (v := (3 : Int32)) (pc := 11) (td kX6_readLaw 5 rfl) (by decide) ?_
    refine X_calli (pc := 12) (As := [.int (3 : Int32)]) (st := []) sC_3 (x_X6_wrong (3 : Int32) σ) mkX6_wrong lk_X6_56 (by omega) rfl rfl (Nat.le_of_ble_eq_true rfl) (td kX6_readLaw 6 rfl) (fun r12 σ12 _ hr12 => ?_)
    refine X_pop (pc := 15) (td kX6_readLaw 7 rfl) rfl ?_
    exact X_retv (pc := 16) (td kX6_readLaw 8 rfl)
def f_X6_isNewName (b1 : Nat) (σ : Mm) : Option (Int32 × Mm) := ck (isTown b1) (cl (f_X8_isName σ) (fun r4 _ => (if r4 = 0 then cl (f_X6_wrong (1 : Int32) σ) (fun r12 σ12 => some (r12, σ12)) else cl (f_X9_placeNamed b1 (gL σ 4 5) σ) (fun r24 _ => jn (cl (f_X6_wrong (3 : Int32) σ) (fun r48 σ48 => some (r48, σ48))) (fun k46 => (if r24 = (-1 : Int32) then cl (f_X9_walkerNamed b1 (gL σ 4 5) σ) (fun r39 _ => (if r39 = (-1 : Int32) then some ((1 : Int32), σ) else k46)) else k46))))))
set_option maxHeartbeats 4000000 in
set_option maxRecDepth 100000 in
theorem x_X6_isNewName (b1 : Nat) (σ : Mm) : Con (wsOf SHC) yX6_isNewName cX6_isNewName 2 (some .boolean) 2 [.ref 3, .ref b1] σ (f_X6_isNewName b1 σ) := by
  refine Con.of_X (by decide +kernel) (Nat.le_of_ble_eq_true rfl) ?_
  unfold f_X6_isNewName
  show X (wsOf SHC) RX6 cX6_isNewName 2 (some .boolean) 2 0 0 [(0, .ref 3), (1, .ref b1)] [] σ _
  refine X_ck (fun b1_h => ?_)
  obtain ⟨b1_s0, b1_s1, b1_s2, b1_s3, b1_s4, b1_s5, b1_s6, b1_s7, b1_s8, b1_s9, b1_s10, b1_s11, b1_s12, b1_s13, b1_s14⟩ := knTown b1_h
  refine X_aload_n (pc := 0) (td kX6_isNewName 0 rfl) rfl 0 rfl ?_
  refine X_getF (b := 4) (pc := 1) sC_3 rfl fk_X6_14 (td kX6_isNewName 1 rfl) ?_
  refine X_callip (pc := 4) (As := []) (st := []) (p_X8_isName σ) sC_4 (x_X8_isName σ) mkX8_isName lk_X6_179 (by omega) rfl rfl (Nat.le_of_ble_eq_true rfl) (td kX6_isNewName 2 rfl) (fun r4 hr4 => ?_)
  refine X_if_ne (pc := 7) (tgt := 16) (td kX6_isNewName 3 rfl) (by decide) (fun c_7 => ?_) (fun c_7 => ?_)
  · refine X_aload_n (pc := 16) (td kX6_isNewName 8 rfl) rfl 1 rfl ?_
    refine X_aload_n (pc := 17) (td kX6_isNewName 9 rfl) rfl 0 rfl ?_
    refine X_getF (b := 4) (pc := 18) sC_3 rfl fk_X6_14 (td kX6_isNewName 10 rfl) ?_
    refine X_getL (pc := 21) sC_4 rfl fk_X6_85 (td kX6_isNewName 11 rfl) ?_
    refine X_callip (pc := 24) (As := [.long (gL σ 4 5)]) (st := []) (p_X9_placeNamed b1 (gL σ 4 5) σ) b1_s0 (x_X9_placeNamed b1 (gL σ 4 5) σ) mkX9_placeNamed lk_X6_107 (by omega) rfl rfl (Nat.le_of_ble_eq_true rfl) (td kX6_isNewName 12 rfl) (fun r24 hr24 => ?_)
    refine X_iconst (v := (-1 : Int32)) (pc := 27) (td kX6_isNewName 13 rfl) (by decide) ?_
    refine X_jn (P := fun k => X (wsOf SHC) RX6 cX6_isNewName 2 (some .boolean) 2 0 46 [(0, .ref 3)] [] σ k) ?_ (fun k46 h46 => ?_)
    · refine X_aload_n (pc := 46) (td kX6_isNewName 22 rfl) rfl 0 rfl ?_
      refine X_iconst (v := (3 : Int32)) (pc := 47) (td kX6_isNewName 23 rfl) (by decide) ?_
      refine X_calli (pc := 48) (As := [.int (3 : Int32)]) (st := []) sC_3 (x_X6_wrong (3 : Int32) σ) mkX6_wrong lk_X6_56 (by omega) rfl rfl (Nat.le_of_ble_eq_true rfl) (td kX6_isNewName 24 rfl) (fun r48 σ48 _ hr48 => ?_)
      exact X_ret (pc := 51) (td kX6_isNewName 25 rfl) hr48
    · refine X_icmp_ne (pc := 28) (tgt := 46) (td kX6_isNewName 14 rfl) (by decide) (fun c_28 => ?_) (fun c_28 => ?_)
      · refine X_sub [0] rfl ?_
        exact h46
      · refine X_aload_n (pc := 31) (td kX6_isNewName 15 rfl) rfl 1 rfl ?_
        refine X_aload_n (pc := 32) (td kX6_isNewName 16 rfl) rfl 0 rfl ?_
        refine X_getF (b := 4) (pc := 33) sC_3 rfl fk_X6_14 (td kX6_isNewName 17 rfl) ?_
        refine X_getL (pc := 36) sC_4 rfl fk_X6_85 (td kX6_isNewName 18 rfl) ?_
        refine X_callip (pc := 39) (As := [.long (gL σ 4 5)]) (st := []) (p_X9_walkerNamed b1 (gL σ 4 5) σ) b1_s0 (x_X9_walkerNamed b1 (gL σ 4 5) σ) mkX9_walkerNamed lk_X6_183 (by omega) rfl rfl (Nat.le_of_ble_eq_true rfl) (td kX6_isNewName 19 rfl) (fun r39 hr39 => ?_)
        refine X_iconst (v := (-1 : Int32)) (pc := 42) (td kX6_isNewName 20 rfl) (by decide) ?_
        refine X_icmp_eq (pc := 43) (tgt := 52) (td kX6_isNewName 21 rfl) (by decide) (fun c_43 => ?_) (fun c_43 => ?_)
        · refine X_iconst (v := (1 : Int32)) (pc := 52) (td kX6_isNewName 26 rfl) (by decide) ?_
          exact X_ret (pc := 53) (td kX6_isNewName 27 rfl) rfl
        · refine X_sub [0] rfl ?_
          exact h46
  · refine X_aload_n (pc := 10) (td kX6_isNewName 4 rfl) rfl 0 rfl ?_
    refine X_iconst (v := (1 : Int32)) (pc := 11) (td kX6_isNewName 5 rfl) (by decide) ?_
    refine X_calli (pc := 12) (As := [.int (1 : Int32)]) (st := []) sC_3 (x_X6_wrong (1 : Int32) σ) mkX6_wrong lk_X6_56 (by omega) rfl rfl (Nat.le_of_ble_eq_true rfl) (td kX6_isNewName 6 rfl) (fun r12 σ12 _ hr12 => ?_)
    exact X_ret (pc := 15) (td kX6_isNewName 7 rfl) hr12
def f_X6_readPlace (b1 : Nat) (σ : Mm) : Option (Int32 × Mm) := ck (isTown b1) ((if (gI σ b1 0) < (6 : Int32) then cl (f_X8_advance σ) (fun _ σ20 => cl (f_X6_isNewName b1 σ20) (fun r25 σ25 => (if r25 = 0 then some (0, σ25) else bn (gL σ25 4 5) (fun v2_39 => cl (f_X8_advance σ25) (fun _ σ44 => cl (f_X6_readSign (59 : Int32) σ44) (fun r50 σ50 => (if r50 = 0 then some (0, σ50) else cl (f_X9_addPlace b1 v2_39 σ50) (fun _ σ58 => some (0, σ58))))))))) else cl (f_X6_wrong (5 : Int32) σ) (fun r11 σ11 => some (0, σ11))))
set_option maxHeartbeats 4000000 in
set_option maxRecDepth 100000 in
theorem x_X6_readPlace (b1 : Nat) (σ : Mm) : Con (wsOf SHC) yX6_readPlace cX6_readPlace 4 none 7 [.ref 3, .ref b1] σ (f_X6_readPlace b1 σ) := by
  refine Con.of_X (by decide +kernel) (Nat.le_of_ble_eq_true rfl) ?_
  unfold f_X6_readPlace
  show X (wsOf SHC) RX6 cX6_readPlace 4 none 7 0 0 [(0, .ref 3), (1, .ref b1)] [] σ _
  refine X_ck (fun b1_h => ?_)
  obtain ⟨b1_s0, b1_s1, b1_s2, b1_s3, b1_s4, b1_s5, b1_s6, b1_s7, b1_s8, b1_s9, b1_s10, b1_s11, b1_s12, b1_s13, b1_s14⟩ := knTown b1_h
  refine X_aload_n (pc := 0) (td kX6_readPlace 0 rfl) rfl 1 rfl ?_
  refine X_getI (pc := 1) b1_s0 rfl fk_X6_75 (td kX6_readPlace 1 rfl) ?_
  refine X_bipush (v := (6 : Int32)) (pc := 4) (td kX6_readPlace 2 rfl) (by decide) ?_
  refine X_icmp_lt (pc := 6) (tgt := 16) (td kX6_readPlace 3 rfl) (by decide) (fun c_6 => ?_) (fun c_6 => ?_)
  · refine X_aload_n (pc := 16) (td kX6_readPlace 9 rfl) rfl 0 rfl ?_
    refine X_getF (b := 4) (pc := 17) sC_3 rfl fk_X6_14 (td kX6_readPlace 10 rfl) ?_
    refine X_callv (pc := 20) (As := []) (st := []) sC_4 (x_X8_advance σ) mkX8_advance lk_X6_78 (by omega) rfl rfl (Nat.le_of_ble_eq_true rfl) (td kX6_readPlace 11 rfl) (fun _ σ20 _ => ?_)
    refine X_aload_n (pc := 23) (td kX6_readPlace 12 rfl) rfl 0 rfl ?_
    refine X_aload_n (pc := 24) (td kX6_readPlace 13 rfl) rfl 1 rfl ?_
    refine X_calli (pc := 25) (As := [.ref b1]) (st := []) sC_3 (x_X6_isNewName b1 σ20) mkX6_isNewName lk_X6_81 (by omega) rfl rfl (Nat.le_of_ble_eq_true rfl) (td kX6_readPlace 14 rfl) (fun r25 σ25 _ hr25 => ?_)
    refine X_if_ne (pc := 28) (tgt := 32) (td kX6_readPlace 15 rfl) (by decide) (fun c_28 => ?_) (fun c_28 => ?_)
    · refine X_aload_n (pc := 32) (td kX6_readPlace 17 rfl) rfl 0 rfl ?_
      refine X_getF (b := 4) (pc := 33) sC_3 rfl fk_X6_14 (td kX6_readPlace 18 rfl) ?_
      refine X_getL (pc := 36) sC_4 rfl fk_X6_85 (td kX6_readPlace 19 rfl) ?_
      refine X_bl (fun v2_39 => ?_)
      refine X_lstore_n (L' := [(2, .long v2_39), (0, .ref 3), (1, .ref b1)]) (pc := 39) (td kX6_readPlace 20 rfl) rfl (by decide) rfl ?_
      refine X_aload_n (pc := 40) (td kX6_readPlace 21 rfl) rfl 1 rfl ?_
      refine X_getF (b := 4) (pc := 41) sC_3 rfl fk_X6_14 (td kX6_readPlace 22 rfl) ?_
      refine X_callv (pc := 44) (As := []) (st := []) sC_4 (x_X8_advance σ25) mkX8_advance lk_X6_78 (by omega) rfl rfl (Nat.le_of_ble_eq_true rfl) (td kX6_readPlace 23 rfl) (fun _ σ44 _ => ?_)
      refine X_aload_n (pc := 47) (td kX6_readPlace 24 rfl) rfl 1 rfl ?_
      refine X_bipush (v := (59 : Int32)) (pc := 48) (td kX6_readPlace 25 rfl) (by decide) ?_
      refine X_calli (pc := 50) (As := [.int (59 : Int32)]) (st := []) sC_3 (x_X6_readSign (59 : Int32) σ44) mkX6_readSign lk_X6_89 (by omega) rfl rfl (Nat.le_of_ble_eq_true rfl) (td kX6_readPlace 26 rfl) (fun r50 σ50 _ hr50 => ?_)
      refine X_if_eq (pc := 53) (tgt := 61) (td kX6_readPlace 27 rfl) (by decide) (fun c_53 => ?_) (fun c_53 => ?_)
      · exact X_retv (pc := 61) (td kX6_readPlace 31 rfl)
      · refine X_aload_n (pc := 56) (td kX6_readPlace 28 rfl) rfl 2 rfl ?_
        refine X_lload_n (pc := 57) (td kX6_readPlace 29 rfl) rfl 0 rfl ?_
        refine X_callv (pc := 58) (As := [.long v2_39]) (st := []) b1_s0 (x_X9_addPlace b1 v2_39 σ50) mkX9_addPlace lk_X6_93 (by omega) rfl rfl (Nat.le_of_ble_eq_true rfl) (td kX6_readPlace 30 rfl) (fun _ σ58 _ => ?_)
        exact X_retv (pc := 61) (td kX6_readPlace 31 rfl)
    · exact X_retv (pc := 31) (td kX6_readPlace 16 rfl)
  · refine X_aload_n (pc := 9) (td kX6_readPlace 4 rfl) rfl 0 rfl ?_
    refine X_iconst (v := (5 : Int32)) (pc := 10) (td kX6_readPlace 5 rfl) (by decide) ?_
    refine X_calli (pc := 11) (As := [.int (5 : Int32)]) (st := []) sC_3 (x_X6_wrong (5 : Int32) σ) mkX6_wrong lk_X6_56 (by omega) rfl rfl (Nat.le_of_ble_eq_true rfl) (td kX6_readPlace 6 rfl) (fun r11 σ11 _ hr11 => ?_)
    refine X_pop (pc := 14) (td kX6_readPlace 7 rfl) rfl ?_
    exact X_retv (pc := 15) (td kX6_readPlace 8 rfl)
def f_X6_readKind (σ : Mm) : Option (Int32 × Mm) := jn (cl (f_X6_wrong (1 : Int32) σ) (fun r37 σ37 => some ((-1 : Int32), σ37))) (fun k35 => (if (gI σ 4 2) = (2 : Int32) then (if (gI σ 4 6) < (12 : Int32) then k35 else (if (15 : Int32) < (gI σ 4 6) then k35 else bn ((gI σ 4 6) - (12 : Int32)) (fun v1_53 => cl (f_X8_advance σ) (fun _ σ58 => some (v1_53, σ58))))) else k35))
set_option maxHeartbeats 4000000 in
set_option maxRecDepth 100000 in
theorem x_X6_readKind (σ : Mm) : Con (wsOf SHC) yX6_readKind cX6_readKind 2 (some .int) 6 [.ref 3] σ (f_X6_readKind σ) := by
  refine Con.of_X (by decide +kernel) (Nat.le_of_ble_eq_true rfl) ?_
  unfold f_X6_readKind
  show X (wsOf SHC) RX6 cX6_readKind 2 (some .int) 6 0 0 [(0, .ref 3)] [] σ _
  refine X_aload_n (pc := 0) (td kX6_readKind 0 rfl) rfl 0 rfl ?_
  refine X_getF (b := 4) (pc := 1) sC_3 rfl fk_X6_14 (td kX6_readKind 1 rfl) ?_
  refine X_getI (pc := 4) sC_4 rfl fk_X6_34 (td kX6_readKind 2 rfl) ?_
  refine X_iconst (v := (2 : Int32)) (pc := 7) (td kX6_readKind 3 rfl) (by decide) ?_
  refine X_jn (P := fun k => X (wsOf SHC) RX6 cX6_readKind 2 (some .int) 6 0 35 [(0, .ref 3)] [] σ k) ?_ (fun k35 h35 => ?_)
  · refine X_aload_n (pc := 35) (td kX6_readKind 15 rfl) rfl 0 rfl ?_
    refine X_iconst (v := (1 : Int32)) (pc := 36) (td kX6_readKind 16 rfl) (by decide) ?_
    refine X_calli (pc := 37) (As := [.int (1 : Int32)]) (st := []) sC_3 (x_X6_wrong (1 : Int32) σ) mkX6_wrong lk_X6_56 (by omega) rfl rfl (Nat.le_of_ble_eq_true rfl) (td kX6_readKind 17 rfl) (fun r37 σ37 _ hr37 => ?_)
    refine X_pop (pc := 40) (td kX6_readKind 18 rfl) rfl ?_
    refine X_iconst (v := (-1 : Int32)) (pc := 41) (td kX6_readKind 19 rfl) (by decide) ?_
    exact X_ret (pc := 42) (td kX6_readKind 20 rfl) rfl
  · refine X_icmp_ne (pc := 8) (tgt := 35) (td kX6_readKind 4 rfl) (by decide) (fun c_8 => ?_) (fun c_8 => ?_)
    · exact h35
    · refine X_aload_n (pc := 11) (td kX6_readKind 5 rfl) rfl 0 rfl ?_
      refine X_getF (b := 4) (pc := 12) sC_3 rfl fk_X6_14 (td kX6_readKind 6 rfl) ?_
      refine X_getI (pc := 15) sC_4 rfl fk_X6_37 (td kX6_readKind 7 rfl) ?_
      refine X_bipush (v := (12 : Int32)) (pc := 18) (td kX6_readKind 8 rfl) (by decide) ?_
      refine X_icmp_lt (pc := 20) (tgt := 35) (td kX6_readKind 9 rfl) (by decide) (fun c_20 => ?_) (fun c_20 => ?_)
      · exact h35
      · refine X_aload_n (pc := 23) (td kX6_readKind 10 rfl) rfl 0 rfl ?_
        refine X_getF (b := 4) (pc := 24) sC_3 rfl fk_X6_14 (td kX6_readKind 11 rfl) ?_
        refine X_getI (pc := 27) sC_4 rfl fk_X6_37 (td kX6_readKind 12 rfl) ?_
        refine X_bipush (v := (15 : Int32)) (pc := 30) (td kX6_readKind 13 rfl) (by decide) ?_
        refine X_icmp_le (pc := 32) (tgt := 43) (td kX6_readKind 14 rfl) (by decide) (fun c_32 => ?_) (fun c_32 => ?_)
        · refine X_aload_n (pc := 43) (td kX6_readKind 21 rfl) rfl 0 rfl ?_
          refine X_getF (b := 4) (pc := 44) sC_3 rfl fk_X6_14 (td kX6_readKind 22 rfl) ?_
          refine X_getI (pc := 47) sC_4 rfl fk_X6_37 (td kX6_readKind 23 rfl) ?_
          refine X_bipush (v := (12 : Int32)) (pc := 50) (td kX6_readKind 24 rfl) (by decide) ?_
          refine X_isub (pc := 52) (td kX6_readKind 25 rfl) ?_
          refine X_bi (fun v1_53 => ?_)
          refine X_istore_n (L' := [(1, .int v1_53), (0, .ref 3)]) (pc := 53) (td kX6_readKind 26 rfl) rfl (by decide) rfl ?_
          refine X_aload_n (pc := 54) (td kX6_readKind 27 rfl) rfl 1 rfl ?_
          refine X_getF (b := 4) (pc := 55) sC_3 rfl fk_X6_14 (td kX6_readKind 28 rfl) ?_
          refine X_callv (pc := 58) (As := []) (st := []) sC_4 (x_X8_advance σ) mkX8_advance lk_X6_78 (by omega) rfl rfl (Nat.le_of_ble_eq_true rfl) (td kX6_readKind 29 rfl) (fun _ σ58 _ => ?_)
          refine X_iload_n (pc := 61) (td kX6_readKind 30 rfl) rfl 0 rfl ?_
          exact X_ret (pc := 62) (td kX6_readKind 31 rfl) rfl
        · exact h35
def f_X6_readWalker (b1 : Nat) (σ : Mm) : Option (Int32 × Mm) := ck (isTown b1) ((if (gI σ b1 2) < (6 : Int32) then cl (f_X8_advance σ) (fun _ σ20 => cl (f_X6_isNewName b1 σ20) (fun r25 σ25 => (if r25 = 0 then some (0, σ25) else bn (gL σ25 4 5) (fun v2_39 => cl (f_X8_advance σ25) (fun _ σ44 => cl (f_X6_readKind σ44) (fun r48 σ48 => (if r48 = (-1 : Int32) then some (0, σ48) else cl (f_X6_readWord (4 : Int32) σ48) (fun r61 σ61 => (if r61 = 0 then some (0, σ61) else cl (f_X6_readPlaceName b1 σ61) (fun r70 σ70 => (if r70 = (-1 : Int32) then some (0, σ70) else cl (f_X6_readWord (5 : Int32) σ70) (fun r83 σ83 => (if r83 = 0 then some (0, σ83) else cl (f_X6_readPlaceName b1 σ83) (fun r92 σ92 => (if r92 = (-1 : Int32) then some (0, σ92) else cl (f_X6_readWord (6 : Int32) σ92) (fun r106 σ106 => (if r106 = 0 then some (0, σ106) else cl (f_X6_readNumber (30 : Int32) σ106) (fun r116 σ116 => (if r116 = (-1 : Int32) then some (0, σ116) else cl (f_X6_readSign (59 : Int32) σ116) (fun r130 σ130 => (if r130 = 0 then some (0, σ130) else cl (f_X9_addWalker b1 v2_39 r48 r70 r92 r116 σ130) (fun _ σ146 => some (0, σ146))))))))))))))))))))))) else cl (f_X6_wrong (5 : Int32) σ) (fun r11 σ11 => some (0, σ11))))
set_option maxHeartbeats 4000000 in
set_option maxRecDepth 100000 in
theorem x_X6_readWalker (b1 : Nat) (σ : Mm) : Con (wsOf SHC) yX6_readWalker cX6_readWalker 8 none 8 [.ref 3, .ref b1] σ (f_X6_readWalker b1 σ) := by
  refine Con.of_X (by decide +kernel) (Nat.le_of_ble_eq_true rfl) ?_
  unfold f_X6_readWalker
  show X (wsOf SHC) RX6 cX6_readWalker 8 none 8 0 0 [(0, .ref 3), (1, .ref b1)] [] σ _
  refine X_ck (fun b1_h => ?_)
  obtain ⟨b1_s0, b1_s1, b1_s2, b1_s3, b1_s4, b1_s5, b1_s6, b1_s7, b1_s8, b1_s9, b1_s10, b1_s11, b1_s12, b1_s13, b1_s14⟩ := knTown b1_h
  refine X_aload_n (pc := 0) (td kX6_readWalker 0 rfl) rfl 1 rfl ?_
  refine X_getI (pc := 1) b1_s0 rfl fk_X6_126 (td kX6_readWalker 1 rfl) ?_
  refine X_bipush (v := (6 : Int32)) (pc := 4) (td kX6_readWalker 2 rfl) (by decide) ?_
  refine X_icmp_lt (pc := 6) (tgt := 16) (td kX6_readWalker 3 rfl) (by decide) (fun c_6 => ?_) (fun c_6 => ?_)
  · refine X_aload_n (pc := 16) (td kX6_readWalker 9 rfl) rfl 0 rfl ?_
    refine X_getF (b := 4) (pc := 17) sC_3 rfl fk_X6_14 (td kX6_readWalker 10 rfl) ?_
    refine X_callv (pc := 20) (As := []) (st := []) sC_4 (x_X8_advance σ) mkX8_advance lk_X6_78 (by omega) rfl rfl (Nat.le_of_ble_eq_true rfl) (td kX6_readWalker 11 rfl) (fun _ σ20 _ => ?_)
    refine X_aload_n (pc := 23) (td kX6_readWalker 12 rfl) rfl 0 rfl ?_
    refine X_aload_n (pc := 24) (td kX6_readWalker 13 rfl) rfl 1 rfl ?_
    refine X_calli (pc := 25) (As := [.ref b1]) (st := []) sC_3 (x_X6_isNewName b1 σ20) mkX6_isNewName lk_X6_81 (by omega) rfl rfl (Nat.le_of_ble_eq_true rfl) (td kX6_readWalker 14 rfl) (fun r25 σ25 _ hr25 => ?_)
    refine X_if_ne (pc := 28) (tgt := 32) (td kX6_readWalker 15 rfl) (by decide) (fun c_28 => ?_) (fun c_28 => ?_)
    · refine X_aload_n (pc := 32) (td kX6_readWalker 17 rfl) rfl 0 rfl ?_
      refine X_getF (b := 4) (pc := 33) sC_3 rfl fk_X6_14 (td kX6_readWalker 18 rfl) ?_
      refine X_getL (pc := 36) sC_4 rfl fk_X6_85 (td kX6_readWalker 19 rfl) ?_
      refine X_bl (fun v2_39 => ?_)
      refine X_lstore_n (L' := [(2, .long v2_39), (0, .ref 3), (1, .ref b1)]) (pc := 39) (td kX6_readWalker 20 rfl) rfl (by decide) rfl ?_
      refine X_aload_n (pc := 40) (td kX6_readWalker 21 rfl) rfl 1 rfl ?_
      refine X_getF (b := 4) (pc := 41) sC_3 rfl fk_X6_14 (td kX6_readWalker 22 rfl) ?_
      refine X_callv (pc := 44) (As := []) (st := []) sC_4 (x_X8_advance σ25) mkX8_advance lk_X6_78 (by omega) rfl rfl (Nat.le_of_ble_eq_true rfl) (td kX6_readWalker 23 rfl) (fun _ σ44 _ => ?_)
      refine X_aload_n (pc := 47) (td kX6_readWalker 24 rfl) rfl 1 rfl ?_
      refine X_calli (pc := 48) (As := []) (st := []) sC_3 (x_X6_readKind σ44) mkX6_readKind lk_X6_129 (by omega) rfl rfl (Nat.le_of_ble_eq_true rfl) (td kX6_readWalker 25 rfl) (fun r48 σ48 _ hr48 => ?_)
      refine X_istore (L' := [(4, .int r48), (2, .long v2_39), (0, .ref 3), (1, .ref b1)]) (pc := 51) (td kX6_readWalker 26 rfl) (by decide) rfl ?_
      refine X_iload (pc := 53) (td kX6_readWalker 27 rfl) 0 rfl ?_
      refine X_iconst (v := (-1 : Int32)) (pc := 55) (td kX6_readWalker 28 rfl) (by decide) ?_
      refine X_icmp_eq (pc := 56) (tgt := 67) (td kX6_readWalker 29 rfl) (by decide) (fun c_56 => ?_) (fun c_56 => ?_)
      · exact X_retv (pc := 67) (td kX6_readWalker 34 rfl)
      · refine X_aload_n (pc := 59) (td kX6_readWalker 30 rfl) rfl 2 rfl ?_
        refine X_iconst (v := (4 : Int32)) (pc := 60) (td kX6_readWalker 31 rfl) (by decide) ?_
        refine X_calli (pc := 61) (As := [.int (4 : Int32)]) (st := []) sC_3 (x_X6_readWord (4 : Int32) σ48) mkX6_readWord lk_X6_115 (by omega) rfl rfl (Nat.le_of_ble_eq_true rfl) (td kX6_readWalker 32 rfl) (fun r61 σ61 _ hr61 => ?_)
        refine X_if_ne (pc := 64) (tgt := 68) (td kX6_readWalker 33 rfl) (by decide) (fun c_64 => ?_) (fun c_64 => ?_)
        · refine X_aload_n (pc := 68) (td kX6_readWalker 35 rfl) rfl 2 rfl ?_
          refine X_aload_n (pc := 69) (td kX6_readWalker 36 rfl) rfl 3 rfl ?_
          refine X_calli (pc := 70) (As := [.ref b1]) (st := []) sC_3 (x_X6_readPlaceName b1 σ61) mkX6_readPlaceName lk_X6_100 (by omega) rfl rfl (Nat.le_of_ble_eq_true rfl) (td kX6_readWalker 37 rfl) (fun r70 σ70 _ hr70 => ?_)
          refine X_istore (L' := [(5, .int r70), (4, .int r48), (2, .long v2_39), (0, .ref 3), (1, .ref b1)]) (pc := 73) (td kX6_readWalker 38 rfl) (by decide) rfl ?_
          refine X_iload (pc := 75) (td kX6_readWalker 39 rfl) 0 rfl ?_
          refine X_iconst (v := (-1 : Int32)) (pc := 77) (td kX6_readWalker 40 rfl) (by decide) ?_
          refine X_icmp_eq (pc := 78) (tgt := 89) (td kX6_readWalker 41 rfl) (by decide) (fun c_78 => ?_) (fun c_78 => ?_)
          · exact X_retv (pc := 89) (td kX6_readWalker 46 rfl)
          · refine X_aload_n (pc := 81) (td kX6_readWalker 42 rfl) rfl 3 rfl ?_
            refine X_iconst (v := (5 : Int32)) (pc := 82) (td kX6_readWalker 43 rfl) (by decide) ?_
            refine X_calli (pc := 83) (As := [.int (5 : Int32)]) (st := []) sC_3 (x_X6_readWord (5 : Int32) σ70) mkX6_readWord lk_X6_115 (by omega) rfl rfl (Nat.le_of_ble_eq_true rfl) (td kX6_readWalker 44 rfl) (fun r83 σ83 _ hr83 => ?_)
            refine X_if_ne (pc := 86) (tgt := 90) (td kX6_readWalker 45 rfl) (by decide) (fun c_86 => ?_) (fun c_86 => ?_)
            · refine X_aload_n (pc := 90) (td kX6_readWalker 47 rfl) rfl 3 rfl ?_
              refine X_aload_n (pc := 91) (td kX6_readWalker 48 rfl) rfl 4 rfl ?_
              refine X_calli (pc := 92) (As := [.ref b1]) (st := []) sC_3 (x_X6_readPlaceName b1 σ83) mkX6_readPlaceName lk_X6_100 (by omega) rfl rfl (Nat.le_of_ble_eq_true rfl) (td kX6_readWalker 49 rfl) (fun r92 σ92 _ hr92 => ?_)
              refine X_istore (L' := [(6, .int r92), (5, .int r70), (4, .int r48), (2, .long v2_39), (0, .ref 3), (1, .ref b1)]) (pc := 95) (td kX6_readWalker 50 rfl) (by decide) rfl ?_
              refine X_iload (pc := 97) (td kX6_readWalker 51 rfl) 0 rfl ?_
              refine X_iconst (v := (-1 : Int32)) (pc := 99) (td kX6_readWalker 52 rfl) (by decide) ?_
              refine X_icmp_eq (pc := 100) (tgt := 112) (td kX6_readWalker 53 rfl) (by decide) (fun c_100 => ?_) (fun c_100 => ?_)
              · exact X_retv (pc := 112) (td kX6_readWalker 58 rfl)
              · refine X_aload_n (pc := 103) (td kX6_readWalker 54 rfl) rfl 4 rfl ?_
                refine X_bipush (v := (6 : Int32)) (pc := 104) (td kX6_readWalker 55 rfl) (by decide) ?_
                refine X_calli (pc := 106) (As := [.int (6 : Int32)]) (st := []) sC_3 (x_X6_readWord (6 : Int32) σ92) mkX6_readWord lk_X6_115 (by omega) rfl rfl (Nat.le_of_ble_eq_true rfl) (td kX6_readWalker 56 rfl) (fun r106 σ106 _ hr106 => ?_)
                refine X_if_ne (pc := 109) (tgt := 113) (td kX6_readWalker 57 rfl) (by decide) (fun c_109 => ?_) (fun c_109 => ?_)
                · refine X_aload_n (pc := 113) (td kX6_readWalker 59 rfl) rfl 4 rfl ?_
                  refine X_bipush (v := (30 : Int32)) (pc := 114) (td kX6_readWalker 60 rfl) (by decide) ?_
                  refine X_calli (pc := 116) (As := [.int (30 : Int32)]) (st := []) sC_3 (x_X6_readNumber (30 : Int32) σ106) mkX6_readNumber lk_X6_118 (by omega) rfl rfl (Nat.le_of_ble_eq_true rfl) (td kX6_readWalker 61 rfl) (fun r116 σ116 _ hr116 => ?_)
                  refine X_istore (L' := [(7, .int r116), (6, .int r92), (5, .int r70), (4, .int r48), (2, .long v2_39), (0, .ref 3), (1, .ref b1)]) (pc := 119) (td kX6_readWalker 62 rfl) (by decide) rfl ?_
                  refine X_iload (pc := 121) (td kX6_readWalker 63 rfl) 0 rfl ?_
                  refine X_iconst (v := (-1 : Int32)) (pc := 123) (td kX6_readWalker 64 rfl) (by decide) ?_
                  refine X_icmp_eq (pc := 124) (tgt := 149) (td kX6_readWalker 65 rfl) (by decide) (fun c_124 => ?_) (fun c_124 => ?_)
                  · exact X_retv (pc := 149) (td kX6_readWalker 77 rfl)
                  · refine X_aload_n (pc := 127) (td kX6_readWalker 66 rfl) rfl 5 rfl ?_
                    refine X_bipush (v := (59 : Int32)) (pc := 128) (td kX6_readWalker 67 rfl) (by decide) ?_
                    refine X_calli (pc := 130) (As := [.int (59 : Int32)]) (st := []) sC_3 (x_X6_readSign (59 : Int32) σ116) mkX6_readSign lk_X6_89 (by omega) rfl rfl (Nat.le_of_ble_eq_true rfl) (td kX6_readWalker 68 rfl) (fun r130 σ130 _ hr130 => ?_)
                    refine X_if_eq (pc := 133) (tgt := 149) (td kX6_readWalker 69 rfl) (by decide) (fun c_133 => ?_) (fun c_133 => ?_)
                    · exact X_retv (pc := 149) (td kX6_readWalker 77 rfl)
                    · refine X_aload_n (pc := 136) (td kX6_readWalker 70 rfl) rfl 6 rfl ?_
                      refine X_lload_n (pc := 137) (td kX6_readWalker 71 rfl) rfl 4 rfl ?_
                      refine X_iload (pc := 138) (td kX6_readWalker 72 rfl) 3 rfl ?_
                      refine X_iload (pc := 140) (td kX6_readWalker 73 rfl) 2 rfl ?_
                      refine X_iload (pc := 142) (td kX6_readWalker 74 rfl) 1 rfl ?_
                      refine X_iload (pc := 144) (td kX6_readWalker 75 rfl) 0 rfl ?_
                      refine X_callv (pc := 146) (As := [.long v2_39, .int r48, .int r70, .int r92, .int r116]) (st := []) b1_s0 (x_X9_addWalker b1 v2_39 r48 r70 r92 r116 σ130) mkX9_addWalker lk_X6_133 (by omega) rfl rfl (Nat.le_of_ble_eq_true rfl) (td kX6_readWalker 76 rfl) (fun _ σ146 _ => ?_)
                      exact X_retv (pc := 149) (td kX6_readWalker 77 rfl)
                · exact X_retv (pc := 112) (td kX6_readWalker 58 rfl)
            · exact X_retv (pc := 89) (td kX6_readWalker 46 rfl)
        · exact X_retv (pc := 67) (td kX6_readWalker 34 rfl)
    · exact X_retv (pc := 31) (td kX6_readWalker 16 rfl)
  · refine X_aload_n (pc := 9) (td kX6_readWalker 4 rfl) rfl 0 rfl ?_
    refine X_iconst (v := (5 : Int32)) (pc := 10) (td kX6_readWalker 5 rfl) (by decide) ?_
    refine X_calli (pc := 11) (As := [.int (5 : Int32)]) (st := []) sC_3 (x_X6_wrong (5 : Int32) σ) mkX6_wrong lk_X6_56 (by omega) rfl rfl (Nat.le_of_ble_eq_true rfl) (td kX6_readWalker 6 rfl) (fun r11 σ11 _ hr11 => ?_)
    refine X_pop (pc := 14) (td kX6_readWalker 7 rfl) rfl ?_
    exact X_retv (pc := 15) (td kX6_readWalker 8 rfl)
def J_X6_readTown_65 (b1 : Nat) (rec18 : Int32 → Mm → Option (Int32 × Mm)) (x2_18 : Int32) (σ_18 : Mm) (y0_65 : Int32) : Option (Int32 × Mm) := jn (fun (σ_158 : Mm) => rec18 (x2_18 + (1 : Int32)) σ_158) (fun k158 => jn (cl (f_X6_wrong (1 : Int32) σ_18) (fun r154 σ154 => k158 σ154)) (fun k152 => (if y0_65 = (0 : Int32) then cl (f_X6_readPlace b1 σ_18) (fun _ σ114 => k158 σ114) else (if y0_65 = (1 : Int32) then cl (f_X6_readLane b1 σ_18) (fun _ σ122 => k158 σ122) else (if y0_65 = (2 : Int32) then cl (f_X6_readLaw b1 σ_18) (fun _ σ146 => k158 σ146) else (if y0_65 = (3 : Int32) then cl (f_X6_readWalker b1 σ_18) (fun _ σ130 => k158 σ130) else (if y0_65 = (4 : Int32) then k152 else (if y0_65 = (5 : Int32) then k152 else (if y0_65 = (6 : Int32) then k152 else (if y0_65 = (7 : Int32) then cl (f_X6_readBoy b1 σ_18) (fun _ σ138 => k158 σ138) else k152))))))))))
def F_X6_readTown_18 (b1 : Nat) (k164 : Mm → Option (Int32 × Mm)) (rec18 : Int32 → Mm → Option (Int32 × Mm)) (x2_18 : Int32) (σ_18 : Mm) : Option (Int32 × Mm) := (if x2_18 < (1000 : Int32) then (if (gI σ_18 3 1) = 0 then (if (gI σ_18 4 2) = (1 : Int32) then k164 σ_18 else jn (J_X6_readTown_65 b1 rec18 x2_18 σ_18) (fun k65 => (if (gI σ_18 4 2) = (2 : Int32) then k65 (gI σ_18 4 6) else k65 (-1 : Int32)))) else k164 σ_18) else k164 σ_18)
def f_X6_readTown (b1 : Nat) (σ : Mm) : Option (Int32 × Mm) := ck (isTown b1) (cl (f_X9_empty b1 σ) (fun _ σ1 => bn (pI σ1 3 1 (0 : Int32)) (fun σ6 => cl (f_X8_restart σ6) (fun _ σ13 => jn (fun (σ_164 : Mm) => jn (fun (σ_175 : Mm) => some ((gI σ_175 3 1), σ_175)) (fun k175 => (if (gI σ_164 3 1) = 0 then cl (f_X9_findWays b1 σ_164) (fun _ σ172 => k175 σ172) else k175 σ_164))) (fun k164 => lq2 (F_X6_readTown_18 b1 k164) 1000000 (0 : Int32) σ13)))))
set_option maxHeartbeats 4000000 in
set_option maxRecDepth 100000 in
theorem x_X6_readTown (b1 : Nat) (σ : Mm) : Con (wsOf SHC) yX6_readTown cX6_readTown 3 (some .int) 57 [.ref 3, .ref b1] σ (f_X6_readTown b1 σ) := by
  refine Con.of_X (by decide +kernel) (Nat.le_of_ble_eq_true rfl) ?_
  unfold f_X6_readTown
  show X (wsOf SHC) RX6 cX6_readTown 3 (some .int) 57 0 0 [(0, .ref 3), (1, .ref b1)] [] σ _
  refine X_ck (fun b1_h => ?_)
  obtain ⟨b1_s0, b1_s1, b1_s2, b1_s3, b1_s4, b1_s5, b1_s6, b1_s7, b1_s8, b1_s9, b1_s10, b1_s11, b1_s12, b1_s13, b1_s14⟩ := knTown b1_h
  refine X_aload_n (pc := 0) (td kX6_readTown 0 rfl) rfl 1 rfl ?_
  refine X_callv (pc := 1) (As := []) (st := []) b1_s0 (x_X9_empty b1 σ) mkX9_empty lk_X6_20 (by omega) rfl rfl (Nat.le_of_ble_eq_true rfl) (td kX6_readTown 1 rfl) (fun _ σ1 _ => ?_)
  refine X_aload_n (pc := 4) (td kX6_readTown 2 rfl) rfl 0 rfl ?_
  refine X_iconst (v := (0 : Int32)) (pc := 5) (td kX6_readTown 3 rfl) (by decide) ?_
  refine X_putI (pc := 6) sC_3 rfl fk_X6_25 rfl rfl (td kX6_readTown 4 rfl) (fun σ6 => ?_)
  refine X_aload_n (pc := 9) (td kX6_readTown 5 rfl) rfl 0 rfl ?_
  refine X_getF (b := 4) (pc := 10) sC_3 rfl fk_X6_14 (td kX6_readTown 6 rfl) ?_
  refine X_callv (pc := 13) (As := []) (st := []) sC_4 (x_X8_restart σ6) mkX8_restart lk_X6_29 (by omega) rfl rfl (Nat.le_of_ble_eq_true rfl) (td kX6_readTown 7 rfl) (fun _ σ13 _ => ?_)
  refine X_iconst (v := (0 : Int32)) (pc := 16) (td kX6_readTown 8 rfl) (by decide) ?_
  refine X_istore_n (L' := [(2, .int (0 : Int32)), (0, .ref 3), (1, .ref b1)]) (pc := 17) (td kX6_readTown 9 rfl) rfl (by decide) rfl ?_
  refine X_jn (P := fun k => ∀ (σ_164 : Mm), X (wsOf SHC) RX6 cX6_readTown 3 (some .int) 57 0 164 [(0, .ref 3), (1, .ref b1)] [] σ_164 (k σ_164)) (fun σ_164 => ?_) (fun k164 h164 => ?_)
  · refine X_aload_n (pc := 164) (td kX6_readTown 58 rfl) rfl 0 rfl ?_
    refine X_getI (pc := 165) sC_3 rfl fk_X6_25 (td kX6_readTown 59 rfl) ?_
    refine X_jn (P := fun k => ∀ (σ_175 : Mm), X (wsOf SHC) RX6 cX6_readTown 3 (some .int) 57 0 175 [(0, .ref 3)] [] σ_175 (k σ_175)) (fun σ_175 => ?_) (fun k175 h175 => ?_)
    · refine X_aload_n (pc := 175) (td kX6_readTown 63 rfl) rfl 0 rfl ?_
      refine X_getI (pc := 176) sC_3 rfl fk_X6_25 (td kX6_readTown 64 rfl) ?_
      exact X_ret (pc := 179) (td kX6_readTown 65 rfl) rfl
    · refine X_if_ne (pc := 168) (tgt := 175) (td kX6_readTown 60 rfl) (by decide) (fun c_168 => ?_) (fun c_168 => ?_)
      · refine X_sub [0] rfl ?_
        exact h175 σ_164
      · refine X_aload_n (pc := 171) (td kX6_readTown 61 rfl) rfl 1 rfl ?_
        refine X_callv (pc := 172) (As := []) (st := []) b1_s0 (x_X9_findWays b1 σ_164) mkX9_findWays lk_X6_60 (by omega) rfl rfl (Nat.le_of_ble_eq_true rfl) (td kX6_readTown 62 rfl) (fun _ σ172 _ => ?_)
        refine X_sub [0] rfl ?_
        exact h175 σ172
  · refine X_sub [1, 2, 0] rfl ?_
    refine lq2_ind (P := fun x2_18 σ_18 E => X (wsOf SHC) RX6 cX6_readTown 3 (some .int) 57 0 18 [(0, .ref 3), (1, .ref b1), (2, .int x2_18)] [] σ_18 E) (fun _ _ => X_none) (fun rec18 hrec18 x2_18 σ_18 => ?_) _ _ _
    unfold F_X6_readTown_18
    refine X_iload_n (pc := 18) (td kX6_readTown 10 rfl) rfl 2 rfl ?_
    refine X_sipush (v := (1000 : Int32)) (pc := 19) (td kX6_readTown 11 rfl) (by decide) ?_
    refine X_icmp_ge (pc := 22) (tgt := 164) (td kX6_readTown 12 rfl) (by decide) (fun c_22 => ?_) (fun c_22 => ?_)
    · refine X_sub [0, 1] rfl ?_
      exact h164 σ_18
    · refine X_aload_n (pc := 25) (td kX6_readTown 13 rfl) rfl 0 rfl ?_
      refine X_getI (pc := 26) sC_3 rfl fk_X6_25 (td kX6_readTown 14 rfl) ?_
      refine X_if_ne (pc := 29) (tgt := 164) (td kX6_readTown 15 rfl) (by decide) (fun c_29 => ?_) (fun c_29 => ?_)
      · refine X_sub [0, 1] rfl ?_
        exact h164 σ_18
      · refine X_aload_n (pc := 32) (td kX6_readTown 16 rfl) rfl 0 rfl ?_
        refine X_getF (b := 4) (pc := 33) sC_3 rfl fk_X6_14 (td kX6_readTown 17 rfl) ?_
        refine X_getI (pc := 36) sC_4 rfl fk_X6_34 (td kX6_readTown 18 rfl) ?_
        refine X_iconst (v := (1 : Int32)) (pc := 39) (td kX6_readTown 19 rfl) (by decide) ?_
        refine X_icmp_eq (pc := 40) (tgt := 164) (td kX6_readTown 20 rfl) (by decide) (fun c_40 => ?_) (fun c_40 => ?_)
        · refine X_sub [0, 1] rfl ?_
          exact h164 σ_18
        · refine X_aload_n (pc := 43) (td kX6_readTown 21 rfl) rfl 0 rfl ?_
          refine X_getF (b := 4) (pc := 44) sC_3 rfl fk_X6_14 (td kX6_readTown 22 rfl) ?_
          refine X_getI (pc := 47) sC_4 rfl fk_X6_34 (td kX6_readTown 23 rfl) ?_
          refine X_iconst (v := (2 : Int32)) (pc := 50) (td kX6_readTown 24 rfl) (by decide) ?_
          refine X_jn (P := fun k => ∀ (y0_65 : Int32), X (wsOf SHC) RX6 cX6_readTown 3 (some .int) 57 0 65 [(0, .ref 3), (1, .ref b1), (2, .int x2_18)] [.int y0_65] σ_18 (k y0_65)) (fun y0_65 => ?_) (fun k65 h65 => ?_)
          · unfold J_X6_readTown_65
            refine X_jn (P := fun k => ∀ (σ_158 : Mm), X (wsOf SHC) RX6 cX6_readTown 3 (some .int) 57 0 158 [(0, .ref 3), (1, .ref b1), (2, .int x2_18)] [] σ_158 (k σ_158)) (fun σ_158 => ?_) (fun k158 h158 => ?_)
            · refine X_iinc (v := (x2_18 + (1 : Int32))) (L' := [(2, .int (x2_18 + (1 : Int32))), (0, .ref 3), (1, .ref b1)]) (pc := 158) (td kX6_readTown 56 rfl) 2 rfl rfl (by decide) rfl ?_
              refine X_goto (pc := 161) (tgt := 18) (td kX6_readTown 57 rfl) (by decide) ?_
              refine X_sub [1, 2, 0] rfl ?_
              exact hrec18 (x2_18 + (1 : Int32)) σ_158
            · refine X_jn (P := fun k => X (wsOf SHC) RX6 cX6_readTown 3 (some .int) 57 0 152 [(0, .ref 3), (1, .ref b1), (2, .int x2_18)] [] σ_18 k) ?_ (fun k152 h152 => ?_)
              · refine X_aload_n (pc := 152) (td kX6_readTown 52 rfl) rfl 0 rfl ?_
                refine X_iconst (v := (1 : Int32)) (pc := 153) (td kX6_readTown 53 rfl) (by decide) ?_
                refine X_calli (pc := 154) (As := [.int (1 : Int32)]) (st := []) sC_3 (x_X6_wrong (1 : Int32) σ_18) mkX6_wrong lk_X6_56 (by omega) rfl rfl (Nat.le_of_ble_eq_true rfl) (td kX6_readTown 54 rfl) (fun r154 σ154 _ hr154 => ?_)
                refine X_pop (pc := 157) (td kX6_readTown 55 rfl) rfl ?_
                exact h158 σ154
              · refine X_sp (fun c_65_0 => ?_) (fun c_65_0 => ?_)
                · refine X_swI (pc := 65) (tgt := 112) (td kX6_readTown 31 rfl) c_65_0 (by decide) (by decide) rfl (by decide) ?_
                  refine X_aload_n (pc := 112) (td kX6_readTown 32 rfl) rfl 0 rfl ?_
                  refine X_aload_n (pc := 113) (td kX6_readTown 33 rfl) rfl 1 rfl ?_
                  refine X_callv (pc := 114) (As := [.ref b1]) (st := []) sC_3 (x_X6_readPlace b1 σ_18) mkX6_readPlace lk_X6_40 (by omega) rfl rfl (Nat.le_of_ble_eq_true rfl) (td kX6_readTown 34 rfl) (fun _ σ114 _ => ?_)
                  refine X_goto (pc := 117) (tgt := 158) (td kX6_readTown 35 rfl) (by decide) ?_
                  exact h158 σ114
                · refine X_sp (fun c_65_1 => ?_) (fun c_65_1 => ?_)
                  · refine X_swI (pc := 65) (tgt := 120) (td kX6_readTown 31 rfl) c_65_1 (by decide) (by decide) rfl (by decide) ?_
                    refine X_aload_n (pc := 120) (td kX6_readTown 36 rfl) rfl 0 rfl ?_
                    refine X_aload_n (pc := 121) (td kX6_readTown 37 rfl) rfl 1 rfl ?_
                    refine X_callv (pc := 122) (As := [.ref b1]) (st := []) sC_3 (x_X6_readLane b1 σ_18) mkX6_readLane lk_X6_44 (by omega) rfl rfl (Nat.le_of_ble_eq_true rfl) (td kX6_readTown 38 rfl) (fun _ σ122 _ => ?_)
                    refine X_goto (pc := 125) (tgt := 158) (td kX6_readTown 39 rfl) (by decide) ?_
                    exact h158 σ122
                  · refine X_sp (fun c_65_2 => ?_) (fun c_65_2 => ?_)
                    · refine X_swI (pc := 65) (tgt := 144) (td kX6_readTown 31 rfl) c_65_2 (by decide) (by decide) rfl (by decide) ?_
                      refine X_aload_n (pc := 144) (td kX6_readTown 48 rfl) rfl 0 rfl ?_
                      refine X_aload_n (pc := 145) (td kX6_readTown 49 rfl) rfl 1 rfl ?_
                      refine X_callv (pc := 146) (As := [.ref b1]) (st := []) sC_3 (x_X6_readLaw b1 σ_18) mkX6_readLaw lk_X6_53 (by omega) rfl rfl (Nat.le_of_ble_eq_true rfl) (td kX6_readTown 50 rfl) (fun _ σ146 _ => ?_)
                      refine X_goto (pc := 149) (tgt := 158) (td kX6_readTown 51 rfl) (by decide) ?_
                      exact h158 σ146
                    · refine X_sp (fun c_65_3 => ?_) (fun c_65_3 => ?_)
                      · refine X_swI (pc := 65) (tgt := 128) (td kX6_readTown 31 rfl) c_65_3 (by decide) (by decide) rfl (by decide) ?_
                        refine X_aload_n (pc := 128) (td kX6_readTown 40 rfl) rfl 0 rfl ?_
                        refine X_aload_n (pc := 129) (td kX6_readTown 41 rfl) rfl 1 rfl ?_
                        refine X_callv (pc := 130) (As := [.ref b1]) (st := []) sC_3 (x_X6_readWalker b1 σ_18) mkX6_readWalker lk_X6_47 (by omega) rfl rfl (Nat.le_of_ble_eq_true rfl) (td kX6_readTown 42 rfl) (fun _ σ130 _ => ?_)
                        refine X_goto (pc := 133) (tgt := 158) (td kX6_readTown 43 rfl) (by decide) ?_
                        exact h158 σ130
                      · refine X_sp (fun c_65_4 => ?_) (fun c_65_4 => ?_)
                        · refine X_swI (pc := 65) (tgt := 152) (td kX6_readTown 31 rfl) c_65_4 (by decide) (by decide) rfl (by decide) ?_
                          exact h152
                        · refine X_sp (fun c_65_5 => ?_) (fun c_65_5 => ?_)
                          · refine X_swI (pc := 65) (tgt := 152) (td kX6_readTown 31 rfl) c_65_5 (by decide) (by decide) rfl (by decide) ?_
                            exact h152
                          · refine X_sp (fun c_65_6 => ?_) (fun c_65_6 => ?_)
                            · refine X_swI (pc := 65) (tgt := 152) (td kX6_readTown 31 rfl) c_65_6 (by decide) (by decide) rfl (by decide) ?_
                              exact h152
                            · refine X_sp (fun c_65_7 => ?_) (fun c_65_7 => ?_)
                              · refine X_swI (pc := 65) (tgt := 136) (td kX6_readTown 31 rfl) c_65_7 (by decide) (by decide) rfl (by decide) ?_
                                refine X_aload_n (pc := 136) (td kX6_readTown 44 rfl) rfl 0 rfl ?_
                                refine X_aload_n (pc := 137) (td kX6_readTown 45 rfl) rfl 1 rfl ?_
                                refine X_callv (pc := 138) (As := [.ref b1]) (st := []) sC_3 (x_X6_readBoy b1 σ_18) mkX6_readBoy lk_X6_50 (by omega) rfl rfl (Nat.le_of_ble_eq_true rfl) (td kX6_readTown 46 rfl) (fun _ σ138 _ => ?_)
                                refine X_goto (pc := 141) (tgt := 158) (td kX6_readTown 47 rfl) (by decide) ?_
                                exact h158 σ138
                              · refine X_swO (pc := 65) (tgt := 152) (td kX6_readTown 31 rfl) (by have z0 := tsw_ne (0) (by decide) c_65_0; have z1 := tsw_ne (1) (by decide) c_65_1; have z2 := tsw_ne (2) (by decide) c_65_2; have z3 := tsw_ne (3) (by decide) c_65_3; have z4 := tsw_ne (4) (by decide) c_65_4; have z5 := tsw_ne (5) (by decide) c_65_5; have z6 := tsw_ne (6) (by decide) c_65_6; have z7 := tsw_ne (7) (by decide) c_65_7; omega) (by decide) ?_
                                exact h152
          · refine X_icmp_ne (pc := 51) (tgt := 64) (td kX6_readTown 25 rfl) (by decide) (fun c_51 => ?_) (fun c_51 => ?_)
            · refine X_iconst (v := (-1 : Int32)) (pc := 64) (td kX6_readTown 30 rfl) (by decide) ?_
              exact h65 (-1 : Int32)
            · refine X_aload_n (pc := 54) (td kX6_readTown 26 rfl) rfl 0 rfl ?_
              refine X_getF (b := 4) (pc := 55) sC_3 rfl fk_X6_14 (td kX6_readTown 27 rfl) ?_
              refine X_getI (pc := 58) sC_4 rfl fk_X6_37 (td kX6_readTown 28 rfl) ?_
              refine X_goto (pc := 61) (tgt := 65) (td kX6_readTown 29 rfl) (by decide) ?_
              exact h65 (gI σ_18 4 6)
