def f_X4_isHome (a0 : Nat) (b1 : Nat) (p2 : Int32) (σ : Mm) : Option (Int32 × Mm) := ck (isNight a0) (ck (isTown b1) (ck (inb p2 6) (ck (inb p2 6) (cl (f_X9_firstLane b1 (gI σ (a0 + 2) p2.toNatClampNeg) (gI σ (a0 + 3) p2.toNatClampNeg) σ) (fun r13 _ => (if r13 = (-1 : Int32) then some ((1 : Int32), σ) else some ((0 : Int32), σ)))))))
set_option maxHeartbeats 4000000 in
set_option maxRecDepth 100000 in
theorem x_X4_isHome (a0 : Nat) (b1 : Nat) (p2 : Int32) (σ : Mm) : Con (wsOf SHC) yX4_isHome cX4_isHome 3 (some .boolean) 2 [.ref a0, .ref b1, .int p2] σ (f_X4_isHome a0 b1 p2 σ) := by
  refine Con.of_X (by decide +kernel) (Nat.le_of_ble_eq_true rfl) ?_
  unfold f_X4_isHome
  show X (wsOf SHC) RX4 cX4_isHome 3 (some .boolean) 2 0 0 [(0, .ref a0), (1, .ref b1), (2, .int p2)] [] σ _
  refine X_ck (fun a0_h => ?_)
  obtain ⟨a0_s0, a0_s1, a0_s2, a0_s3, a0_s4, a0_s5, a0_s6⟩ := knNight a0_h
  refine X_ck (fun b1_h => ?_)
  obtain ⟨b1_s0, b1_s1, b1_s2, b1_s3, b1_s4, b1_s5, b1_s6, b1_s7, b1_s8, b1_s9, b1_s10, b1_s11, b1_s12, b1_s13, b1_s14⟩ := knTown b1_h
  refine X_aload_n (pc := 0) (td kX4_isHome 0 rfl) rfl 1 rfl ?_
  refine X_aload_n (pc := 1) (td kX4_isHome 1 rfl) rfl 0 rfl ?_
  refine X_getF (b := (a0 + 2)) (pc := 2) a0_s0 rfl fk_X4_15 (td kX4_isHome 2 rfl) ?_
  refine X_iload_n (pc := 5) (td kX4_isHome 3 rfl) rfl 2 rfl ?_
  refine X_iald (pc := 6) a0_s2 (td kX4_isHome 4 rfl) ?_
  refine X_aload_n (pc := 7) (td kX4_isHome 5 rfl) rfl 0 rfl ?_
  refine X_getF (b := (a0 + 3)) (pc := 8) a0_s0 rfl fk_X4_18 (td kX4_isHome 6 rfl) ?_
  refine X_iload_n (pc := 11) (td kX4_isHome 7 rfl) rfl 2 rfl ?_
  refine X_iald (pc := 12) a0_s3 (td kX4_isHome 8 rfl) ?_
  refine X_callip (pc := 13) (As := [.int (gI σ (a0 + 2) p2.toNatClampNeg), .int (gI σ (a0 + 3) p2.toNatClampNeg)]) (st := []) (p_X9_firstLane b1 (gI σ (a0 + 2) p2.toNatClampNeg) (gI σ (a0 + 3) p2.toNatClampNeg) σ) b1_s0 (x_X9_firstLane b1 (gI σ (a0 + 2) p2.toNatClampNeg) (gI σ (a0 + 3) p2.toNatClampNeg) σ) mkX9_firstLane lk_X4_60 (by omega) rfl rfl (Nat.le_of_ble_eq_true rfl) (td kX4_isHome 9 rfl) (fun r13 hr13 => ?_)
  refine X_iconst (v := (-1 : Int32)) (pc := 16) (td kX4_isHome 10 rfl) (by decide) ?_
  refine X_icmp_ne (pc := 17) (tgt := 24) (td kX4_isHome 11 rfl) (by decide) (fun c_17 => ?_) (fun c_17 => ?_)
  · refine X_iconst (v := (0 : Int32)) (pc := 24) (td kX4_isHome 14 rfl) (by decide) ?_
    exact X_ret (pc := 25) (td kX4_isHome 15 rfl) rfl
  · refine X_iconst (v := (1 : Int32)) (pc := 20) (td kX4_isHome 12 rfl) (by decide) ?_
    refine X_goto (pc := 21) (tgt := 25) (td kX4_isHome 13 rfl) (by decide) ?_
    exact X_ret (pc := 25) (td kX4_isHome 15 rfl) rfl
set_option maxHeartbeats 4000000 in
theorem p_X4_isHome (a0 : Nat) (b1 : Nat) (p2 : Int32) (σ : Mm) : Pu σ (f_X4_isHome a0 b1 p2 σ) := by
  unfold f_X4_isHome
  refine Pu_ck ?_
  refine Pu_ck ?_
  refine Pu_ck ?_
  refine Pu_ck ?_
  refine Pu_cl (fun _ _ => ?_)
  refine Pu_if ?_ ?_
  · exact Pu_some
  · exact Pu_some
def f_X4_isOut (a0 : Nat) (b1 : Nat) (p2 : Int32) (σ : Mm) : Option (Int32 × Mm) := ck (isNight a0) (ck (isTown b1) (ck (inb p2 6) (jn (some ((0 : Int32), σ)) (fun k26 => (if (gI σ a0 0) < (gI σ (a0 + 4) p2.toNatClampNeg) then k26 else cl (f_X4_isHome a0 b1 p2 σ) (fun r16 _ => (if r16 = 0 then some ((1 : Int32), σ) else k26)))))))
set_option maxHeartbeats 4000000 in
set_option maxRecDepth 100000 in
theorem x_X4_isOut (a0 : Nat) (b1 : Nat) (p2 : Int32) (σ : Mm) : Con (wsOf SHC) yX4_isOut cX4_isOut 3 (some .boolean) 3 [.ref a0, .ref b1, .int p2] σ (f_X4_isOut a0 b1 p2 σ) := by
  refine Con.of_X (by decide +kernel) (Nat.le_of_ble_eq_true rfl) ?_
  unfold f_X4_isOut
  show X (wsOf SHC) RX4 cX4_isOut 3 (some .boolean) 3 0 0 [(0, .ref a0), (1, .ref b1), (2, .int p2)] [] σ _
  refine X_ck (fun a0_h => ?_)
  obtain ⟨a0_s0, a0_s1, a0_s2, a0_s3, a0_s4, a0_s5, a0_s6⟩ := knNight a0_h
  refine X_ck (fun b1_h => ?_)
  obtain ⟨b1_s0, b1_s1, b1_s2, b1_s3, b1_s4, b1_s5, b1_s6, b1_s7, b1_s8, b1_s9, b1_s10, b1_s11, b1_s12, b1_s13, b1_s14⟩ := knTown b1_h
  refine X_aload_n (pc := 0) (td kX4_isOut 0 rfl) rfl 0 rfl ?_
  refine X_getI (pc := 1) a0_s0 rfl fk_X4_30 (td kX4_isOut 1 rfl) ?_
  refine X_aload_n (pc := 4) (td kX4_isOut 2 rfl) rfl 0 rfl ?_
  refine X_getF (b := (a0 + 4)) (pc := 5) a0_s0 rfl fk_X4_21 (td kX4_isOut 3 rfl) ?_
  refine X_iload_n (pc := 8) (td kX4_isOut 4 rfl) rfl 2 rfl ?_
  refine X_iald (pc := 9) a0_s4 (td kX4_isOut 5 rfl) ?_
  refine X_jn (P := fun k => X (wsOf SHC) RX4 cX4_isOut 3 (some .boolean) 3 0 26 [] [] σ k) ?_ (fun k26 h26 => ?_)
  · refine X_iconst (v := (0 : Int32)) (pc := 26) (td kX4_isOut 14 rfl) (by decide) ?_
    exact X_ret (pc := 27) (td kX4_isOut 15 rfl) rfl
  · refine X_icmp_lt (pc := 10) (tgt := 26) (td kX4_isOut 6 rfl) (by decide) (fun c_10 => ?_) (fun c_10 => ?_)
    · refine X_sub [] rfl ?_
      exact h26
    · refine X_aload_n (pc := 13) (td kX4_isOut 7 rfl) rfl 0 rfl ?_
      refine X_aload_n (pc := 14) (td kX4_isOut 8 rfl) rfl 1 rfl ?_
      refine X_iload_n (pc := 15) (td kX4_isOut 9 rfl) rfl 2 rfl ?_
      refine X_callip (pc := 16) (As := [.ref b1, .int p2]) (st := []) (p_X4_isHome a0 b1 p2 σ) a0_s0 (x_X4_isHome a0 b1 p2 σ) mkX4_isHome lk_X4_64 (by omega) rfl rfl (Nat.le_of_ble_eq_true rfl) (td kX4_isOut 10 rfl) (fun r16 hr16 => ?_)
      refine X_if_ne (pc := 19) (tgt := 26) (td kX4_isOut 11 rfl) (by decide) (fun c_19 => ?_) (fun c_19 => ?_)
      · refine X_sub [] rfl ?_
        exact h26
      · refine X_iconst (v := (1 : Int32)) (pc := 22) (td kX4_isOut 12 rfl) (by decide) ?_
        refine X_goto (pc := 23) (tgt := 27) (td kX4_isOut 13 rfl) (by decide) ?_
        exact X_ret (pc := 27) (td kX4_isOut 15 rfl) rfl
set_option maxHeartbeats 4000000 in
theorem p_X4_isOut (a0 : Nat) (b1 : Nat) (p2 : Int32) (σ : Mm) : Pu σ (f_X4_isOut a0 b1 p2 σ) := by
  unfold f_X4_isOut
  refine Pu_ck ?_
  refine Pu_ck ?_
  refine Pu_ck ?_
  refine Pu_jn (fun k => Pu σ (k)) ?_ (fun k26 h26 => ?_)
  · exact Pu_some
  · refine Pu_if ?_ ?_
    · exact h26
    · refine Pu_cl (fun _ _ => ?_)
      refine Pu_if ?_ ?_
      · exact Pu_some
      · exact h26
def f_X4_placeOf (a0 : Nat) (b1 : Nat) (p2 : Int32) (σ : Mm) : Option (Int32 × Mm) := ck (isNight a0) (ck (isTown b1) (ck (inb p2 6) (bn (gI σ (a0 + 2) p2.toNatClampNeg) (fun v3_6 => ck (inb p2 6) ((if (gI σ (a0 + 5) p2.toNatClampNeg) = (1 : Int32) then ck (inb p2 6) (cl (f_X9_firstLane b1 v3_6 (gI σ (a0 + 3) p2.toNatClampNeg) σ) (fun r26 _ => cl (f_X9_otherEnd b1 r26 v3_6 σ) (fun r30 _ => some (r30, σ)))) else some (v3_6, σ)))))))
set_option maxHeartbeats 4000000 in
set_option maxRecDepth 100000 in
theorem x_X4_placeOf (a0 : Nat) (b1 : Nat) (p2 : Int32) (σ : Mm) : Con (wsOf SHC) yX4_placeOf cX4_placeOf 4 (some .int) 3 [.ref a0, .ref b1, .int p2] σ (f_X4_placeOf a0 b1 p2 σ) := by
  refine Con.of_X (by decide +kernel) (Nat.le_of_ble_eq_true rfl) ?_
  unfold f_X4_placeOf
  show X (wsOf SHC) RX4 cX4_placeOf 4 (some .int) 3 0 0 [(0, .ref a0), (1, .ref b1), (2, .int p2)] [] σ _
  refine X_ck (fun a0_h => ?_)
  obtain ⟨a0_s0, a0_s1, a0_s2, a0_s3, a0_s4, a0_s5, a0_s6⟩ := knNight a0_h
  refine X_ck (fun b1_h => ?_)
  obtain ⟨b1_s0, b1_s1, b1_s2, b1_s3, b1_s4, b1_s5, b1_s6, b1_s7, b1_s8, b1_s9, b1_s10, b1_s11, b1_s12, b1_s13, b1_s14⟩ := knTown b1_h
  refine X_aload_n (pc := 0) (td kX4_placeOf 0 rfl) rfl 0 rfl ?_
  refine X_getF (b := (a0 + 2)) (pc := 1) a0_s0 rfl fk_X4_15 (td kX4_placeOf 1 rfl) ?_
  refine X_iload_n (pc := 4) (td kX4_placeOf 2 rfl) rfl 2 rfl ?_
  refine X_iald (pc := 5) a0_s2 (td kX4_placeOf 3 rfl) ?_
  refine X_bi (fun v3_6 => ?_)
  refine X_istore_n (L' := [(3, .int v3_6), (0, .ref a0), (1, .ref b1), (2, .int p2)]) (pc := 6) (td kX4_placeOf 4 rfl) rfl (by decide) rfl ?_
  refine X_aload_n (pc := 7) (td kX4_placeOf 5 rfl) rfl 1 rfl ?_
  refine X_getF (b := (a0 + 5)) (pc := 8) a0_s0 rfl fk_X4_24 (td kX4_placeOf 6 rfl) ?_
  refine X_iload_n (pc := 11) (td kX4_placeOf 7 rfl) rfl 3 rfl ?_
  refine X_iald (pc := 12) a0_s5 (td kX4_placeOf 8 rfl) ?_
  refine X_iconst (v := (1 : Int32)) (pc := 13) (td kX4_placeOf 9 rfl) (by decide) ?_
  refine X_icmp_ne (pc := 14) (tgt := 36) (td kX4_placeOf 10 rfl) (by decide) (fun c_14 => ?_) (fun c_14 => ?_)
  · refine X_iload_n (pc := 36) (td kX4_placeOf 22 rfl) rfl 0 rfl ?_
    exact X_ret (pc := 37) (td kX4_placeOf 23 rfl) rfl
  · refine X_aload_n (pc := 17) (td kX4_placeOf 11 rfl) rfl 2 rfl ?_
    refine X_aload_n (pc := 18) (td kX4_placeOf 12 rfl) rfl 2 rfl ?_
    refine X_iload_n (pc := 19) (td kX4_placeOf 13 rfl) rfl 0 rfl ?_
    refine X_aload_n (pc := 20) (td kX4_placeOf 14 rfl) rfl 1 rfl ?_
    refine X_getF (b := (a0 + 3)) (pc := 21) a0_s0 rfl fk_X4_18 (td kX4_placeOf 15 rfl) ?_
    refine X_iload_n (pc := 24) (td kX4_placeOf 16 rfl) rfl 3 rfl ?_
    refine X_iald (pc := 25) a0_s3 (td kX4_placeOf 17 rfl) ?_
    refine X_callip (pc := 26) (As := [.int v3_6, .int (gI σ (a0 + 3) p2.toNatClampNeg)]) (st := [.ref b1]) (p_X9_firstLane b1 v3_6 (gI σ (a0 + 3) p2.toNatClampNeg) σ) b1_s0 (x_X9_firstLane b1 v3_6 (gI σ (a0 + 3) p2.toNatClampNeg) σ) mkX9_firstLane lk_X4_60 (by omega) rfl rfl (Nat.le_of_ble_eq_true rfl) (td kX4_placeOf 18 rfl) (fun r26 hr26 => ?_)
    refine X_iload_n (pc := 29) (td kX4_placeOf 19 rfl) rfl 0 rfl ?_
    refine X_callip (pc := 30) (As := [.int r26, .int v3_6]) (st := []) (p_X9_otherEnd b1 r26 v3_6 σ) b1_s0 (x_X9_otherEnd b1 r26 v3_6 σ) mkX9_otherEnd lk_X4_71 (by omega) rfl rfl (Nat.le_of_ble_eq_true rfl) (td kX4_placeOf 20 rfl) (fun r30 hr30 => ?_)
    refine X_goto (pc := 33) (tgt := 37) (td kX4_placeOf 21 rfl) (by decide) ?_
    exact X_ret (pc := 37) (td kX4_placeOf 23 rfl) rfl
set_option maxHeartbeats 4000000 in
theorem p_X4_placeOf (a0 : Nat) (b1 : Nat) (p2 : Int32) (σ : Mm) : Pu σ (f_X4_placeOf a0 b1 p2 σ) := by
  unfold f_X4_placeOf
  refine Pu_ck ?_
  refine Pu_ck ?_
  refine Pu_ck ?_
  refine Pu_bn (fun _ => ?_)
  refine Pu_ck ?_
  refine Pu_if ?_ ?_
  · refine Pu_ck ?_
    refine Pu_cl (fun _ _ => ?_)
    refine Pu_cl (fun _ _ => ?_)
    exact Pu_some
  · exact Pu_some
def f_X4_copyFrom (a0 : Nat) (b1 : Nat) (σ : Mm) : Option (Int32 × Mm) := ck (isNight a0) (ck (isNight b1) (bn (pI σ a0 0 (gI σ b1 0)) (fun σ5 => bn (pI σ5 a0 1 (gI σ5 b1 1)) (fun σ13 => bn (pI σ13 a0 2 (gI σ13 b1 2)) (fun σ21 => bn (pC σ21 (b1 + 1) 0 (a0 + 1) 0 8) (fun σ36 => bn (pC σ36 (b1 + 2) 0 (a0 + 2) 0 6) (fun σ51 => bn (pC σ51 (b1 + 3) 0 (a0 + 3) 0 6) (fun σ66 => bn (pC σ66 (b1 + 4) 0 (a0 + 4) 0 6) (fun σ81 => bn (pC σ81 (b1 + 5) 0 (a0 + 5) 0 6) (fun σ96 => some (0, σ96)))))))))))
set_option maxHeartbeats 4000000 in
set_option maxRecDepth 100000 in
theorem x_X4_copyFrom (a0 : Nat) (b1 : Nat) (σ : Mm) : Con (wsOf SHC) yX4_copyFrom cX4_copyFrom 2 none 1 [.ref a0, .ref b1] σ (f_X4_copyFrom a0 b1 σ) := by
  refine Con.of_X (by decide +kernel) (Nat.le_of_ble_eq_true rfl) ?_
  unfold f_X4_copyFrom
  show X (wsOf SHC) RX4 cX4_copyFrom 2 none 1 0 0 [(0, .ref a0), (1, .ref b1)] [] σ _
  refine X_ck (fun a0_h => ?_)
  obtain ⟨a0_s0, a0_s1, a0_s2, a0_s3, a0_s4, a0_s5, a0_s6⟩ := knNight a0_h
  refine X_ck (fun b1_h => ?_)
  obtain ⟨b1_s0, b1_s1, b1_s2, b1_s3, b1_s4, b1_s5, b1_s6⟩ := knNight b1_h
  refine X_aload_n (pc := 0) (td kX4_copyFrom 0 rfl) rfl 0 rfl ?_
  refine X_aload_n (pc := 1) (td kX4_copyFrom 1 rfl) rfl 1 rfl ?_
  refine X_getI (pc := 2) b1_s0 rfl fk_X4_30 (td kX4_copyFrom 2 rfl) ?_
  refine X_putI (pc := 5) a0_s0 rfl fk_X4_30 rfl rfl (td kX4_copyFrom 3 rfl) (fun σ5 => ?_)
  refine X_aload_n (pc := 8) (td kX4_copyFrom 4 rfl) rfl 0 rfl ?_
  refine X_aload_n (pc := 9) (td kX4_copyFrom 5 rfl) rfl 1 rfl ?_
  refine X_getI (pc := 10) b1_s0 rfl fk_X4_34 (td kX4_copyFrom 6 rfl) ?_
  refine X_putI (pc := 13) a0_s0 rfl fk_X4_34 rfl rfl (td kX4_copyFrom 7 rfl) (fun σ13 => ?_)
  refine X_aload_n (pc := 16) (td kX4_copyFrom 8 rfl) rfl 0 rfl ?_
  refine X_aload_n (pc := 17) (td kX4_copyFrom 9 rfl) rfl 1 rfl ?_
  refine X_getI (pc := 18) b1_s0 rfl fk_X4_37 (td kX4_copyFrom 10 rfl) ?_
  refine X_putI (pc := 21) a0_s0 rfl fk_X4_37 rfl rfl (td kX4_copyFrom 11 rfl) (fun σ21 => ?_)
  refine X_aload_n (pc := 24) (td kX4_copyFrom 12 rfl) rfl 1 rfl ?_
  refine X_getF (b := (b1 + 1)) (pc := 25) b1_s0 rfl fk_X4_9 (td kX4_copyFrom 13 rfl) ?_
  refine X_iconst (v := (0 : Int32)) (pc := 28) (td kX4_copyFrom 14 rfl) (by decide) ?_
  refine X_aload_n (pc := 29) (td kX4_copyFrom 15 rfl) rfl 0 rfl ?_
  refine X_getF (b := (a0 + 1)) (pc := 30) a0_s0 rfl fk_X4_9 (td kX4_copyFrom 16 rfl) ?_
  refine X_iconst (v := (0 : Int32)) (pc := 33) (td kX4_copyFrom 17 rfl) (by decide) ?_
  refine X_bipush (v := (8 : Int32)) (pc := 34) (td kX4_copyFrom 18 rfl) (by decide) ?_
  refine X_acpy (pc := 36) 0 (fun _ => rfl) rfl rfl b1_s1 a0_s1 (by decide) (by decide) (by decide) (by decide) (by decide) (fun _ _ => rfl) lm_X4_54 (by omega) (Nat.le_of_ble_eq_true rfl) (td kX4_copyFrom 19 rfl) (fun σ36 => ?_)
  refine X_aload_n (pc := 39) (td kX4_copyFrom 20 rfl) rfl 1 rfl ?_
  refine X_getF (b := (b1 + 2)) (pc := 40) b1_s0 rfl fk_X4_15 (td kX4_copyFrom 21 rfl) ?_
  refine X_iconst (v := (0 : Int32)) (pc := 43) (td kX4_copyFrom 22 rfl) (by decide) ?_
  refine X_aload_n (pc := 44) (td kX4_copyFrom 23 rfl) rfl 0 rfl ?_
  refine X_getF (b := (a0 + 2)) (pc := 45) a0_s0 rfl fk_X4_15 (td kX4_copyFrom 24 rfl) ?_
  refine X_iconst (v := (0 : Int32)) (pc := 48) (td kX4_copyFrom 25 rfl) (by decide) ?_
  refine X_bipush (v := (6 : Int32)) (pc := 49) (td kX4_copyFrom 26 rfl) (by decide) ?_
  refine X_acpy (pc := 51) 0 (fun _ => rfl) rfl rfl b1_s2 a0_s2 (by decide) (by decide) (by decide) (by decide) (by decide) (fun _ _ => rfl) lm_X4_54 (by omega) (Nat.le_of_ble_eq_true rfl) (td kX4_copyFrom 27 rfl) (fun σ51 => ?_)
  refine X_aload_n (pc := 54) (td kX4_copyFrom 28 rfl) rfl 1 rfl ?_
  refine X_getF (b := (b1 + 3)) (pc := 55) b1_s0 rfl fk_X4_18 (td kX4_copyFrom 29 rfl) ?_
  refine X_iconst (v := (0 : Int32)) (pc := 58) (td kX4_copyFrom 30 rfl) (by decide) ?_
  refine X_aload_n (pc := 59) (td kX4_copyFrom 31 rfl) rfl 0 rfl ?_
  refine X_getF (b := (a0 + 3)) (pc := 60) a0_s0 rfl fk_X4_18 (td kX4_copyFrom 32 rfl) ?_
  refine X_iconst (v := (0 : Int32)) (pc := 63) (td kX4_copyFrom 33 rfl) (by decide) ?_
  refine X_bipush (v := (6 : Int32)) (pc := 64) (td kX4_copyFrom 34 rfl) (by decide) ?_
  refine X_acpy (pc := 66) 0 (fun _ => rfl) rfl rfl b1_s3 a0_s3 (by decide) (by decide) (by decide) (by decide) (by decide) (fun _ _ => rfl) lm_X4_54 (by omega) (Nat.le_of_ble_eq_true rfl) (td kX4_copyFrom 35 rfl) (fun σ66 => ?_)
  refine X_aload_n (pc := 69) (td kX4_copyFrom 36 rfl) rfl 1 rfl ?_
  refine X_getF (b := (b1 + 4)) (pc := 70) b1_s0 rfl fk_X4_21 (td kX4_copyFrom 37 rfl) ?_
  refine X_iconst (v := (0 : Int32)) (pc := 73) (td kX4_copyFrom 38 rfl) (by decide) ?_
  refine X_aload_n (pc := 74) (td kX4_copyFrom 39 rfl) rfl 0 rfl ?_
  refine X_getF (b := (a0 + 4)) (pc := 75) a0_s0 rfl fk_X4_21 (td kX4_copyFrom 40 rfl) ?_
  refine X_iconst (v := (0 : Int32)) (pc := 78) (td kX4_copyFrom 41 rfl) (by decide) ?_
  refine X_bipush (v := (6 : Int32)) (pc := 79) (td kX4_copyFrom 42 rfl) (by decide) ?_
  refine X_acpy (pc := 81) 0 (fun _ => rfl) rfl rfl b1_s4 a0_s4 (by decide) (by decide) (by decide) (by decide) (by decide) (fun _ _ => rfl) lm_X4_54 (by omega) (Nat.le_of_ble_eq_true rfl) (td kX4_copyFrom 43 rfl) (fun σ81 => ?_)
  refine X_aload_n (pc := 84) (td kX4_copyFrom 44 rfl) rfl 1 rfl ?_
  refine X_getF (b := (b1 + 5)) (pc := 85) b1_s0 rfl fk_X4_24 (td kX4_copyFrom 45 rfl) ?_
  refine X_iconst (v := (0 : Int32)) (pc := 88) (td kX4_copyFrom 46 rfl) (by decide) ?_
  refine X_aload_n (pc := 89) (td kX4_copyFrom 47 rfl) rfl 0 rfl ?_
  refine X_getF (b := (a0 + 5)) (pc := 90) a0_s0 rfl fk_X4_24 (td kX4_copyFrom 48 rfl) ?_
  refine X_iconst (v := (0 : Int32)) (pc := 93) (td kX4_copyFrom 49 rfl) (by decide) ?_
  refine X_bipush (v := (6 : Int32)) (pc := 94) (td kX4_copyFrom 50 rfl) (by decide) ?_
  refine X_acpy (pc := 96) 0 (fun _ => rfl) rfl rfl b1_s5 a0_s5 (by decide) (by decide) (by decide) (by decide) (by decide) (fun _ _ => rfl) lm_X4_54 (by omega) (Nat.le_of_ble_eq_true rfl) (td kX4_copyFrom 51 rfl) (fun σ96 => ?_)
  exact X_retv (pc := 99) (td kX4_copyFrom 52 rfl)
def F_X4_homeBits_4 (a0 : Nat) (b1 : Nat) (σ : Mm) (k33 : Int32 → Option (Int32 × Mm)) (rec4 : Int32 → Int32 → Option (Int32 × Mm)) (x2_4 : Int32) (x3_4 : Int32) : Option (Int32 × Mm) := (if x3_4 < (gI σ b1 2) then cl (f_X4_isHome a0 b1 x3_4 σ) (fun r15 _ => jn (fun (x2_27 : Int32) => rec4 x2_27 (x3_4 + (1 : Int32))) (fun k27 => (if r15 = 0 then k27 x2_4 else bn (x2_4 ||| ((1 : Int32) <<< (x3_4 &&& 31))) (fun v2_26 => k27 v2_26)))) else k33 x2_4)
def f_X4_homeBits (a0 : Nat) (b1 : Nat) (σ : Mm) : Option (Int32 × Mm) := ck (isNight a0) (ck (isTown b1) (jn (fun (x2_33 : Int32) => some (x2_33, σ)) (fun k33 => lq2 (F_X4_homeBits_4 a0 b1 σ k33) 1000000 (0 : Int32) (0 : Int32))))
set_option maxHeartbeats 4000000 in
set_option maxRecDepth 100000 in
theorem x_X4_homeBits (a0 : Nat) (b1 : Nat) (σ : Mm) : Con (wsOf SHC) yX4_homeBits cX4_homeBits 4 (some .int) 3 [.ref a0, .ref b1] σ (f_X4_homeBits a0 b1 σ) := by
  refine Con.of_X (by decide +kernel) (Nat.le_of_ble_eq_true rfl) ?_
  unfold f_X4_homeBits
  show X (wsOf SHC) RX4 cX4_homeBits 4 (some .int) 3 0 0 [(0, .ref a0), (1, .ref b1)] [] σ _
  refine X_ck (fun a0_h => ?_)
  obtain ⟨a0_s0, a0_s1, a0_s2, a0_s3, a0_s4, a0_s5, a0_s6⟩ := knNight a0_h
  refine X_ck (fun b1_h => ?_)
  obtain ⟨b1_s0, b1_s1, b1_s2, b1_s3, b1_s4, b1_s5, b1_s6, b1_s7, b1_s8, b1_s9, b1_s10, b1_s11, b1_s12, b1_s13, b1_s14⟩ := knTown b1_h
  refine X_iconst (v := (0 : Int32)) (pc := 0) (td kX4_homeBits 0 rfl) (by decide) ?_
  refine X_istore_n (L' := [(2, .int (0 : Int32)), (0, .ref a0), (1, .ref b1)]) (pc := 1) (td kX4_homeBits 1 rfl) rfl (by decide) rfl ?_
  refine X_iconst (v := (0 : Int32)) (pc := 2) (td kX4_homeBits 2 rfl) (by decide) ?_
  refine X_istore_n (L' := [(3, .int (0 : Int32)), (2, .int (0 : Int32)), (0, .ref a0), (1, .ref b1)]) (pc := 3) (td kX4_homeBits 3 rfl) rfl (by decide) rfl ?_
  refine X_jn (P := fun k => ∀ (x2_33 : Int32), X (wsOf SHC) RX4 cX4_homeBits 4 (some .int) 3 0 33 [(2, .int x2_33)] [] σ (k x2_33)) (fun x2_33 => ?_) (fun k33 h33 => ?_)
  · refine X_iload_n (pc := 33) (td kX4_homeBits 21 rfl) rfl 0 rfl ?_
    exact X_ret (pc := 34) (td kX4_homeBits 22 rfl) rfl
  · refine X_sub [2, 3, 1, 0] rfl ?_
    refine lq2_ind (P := fun x2_4 x3_4 E => X (wsOf SHC) RX4 cX4_homeBits 4 (some .int) 3 0 4 [(0, .ref a0), (1, .ref b1), (2, .int x2_4), (3, .int x3_4)] [] σ E) (fun _ _ => X_none) (fun rec4 hrec4 x2_4 x3_4 => ?_) _ _ _
    unfold F_X4_homeBits_4
    refine X_iload_n (pc := 4) (td kX4_homeBits 4 rfl) rfl 3 rfl ?_
    refine X_aload_n (pc := 5) (td kX4_homeBits 5 rfl) rfl 1 rfl ?_
    refine X_getI (pc := 6) b1_s0 rfl fk_X4_40 (td kX4_homeBits 6 rfl) ?_
    refine X_icmp_ge (pc := 9) (tgt := 33) (td kX4_homeBits 7 rfl) (by decide) (fun c_9 => ?_) (fun c_9 => ?_)
    · refine X_sub [2] rfl ?_
      exact h33 x2_4
    · refine X_aload_n (pc := 12) (td kX4_homeBits 8 rfl) rfl 0 rfl ?_
      refine X_aload_n (pc := 13) (td kX4_homeBits 9 rfl) rfl 1 rfl ?_
      refine X_iload_n (pc := 14) (td kX4_homeBits 10 rfl) rfl 3 rfl ?_
      refine X_callip (pc := 15) (As := [.ref b1, .int x3_4]) (st := []) (p_X4_isHome a0 b1 x3_4 σ) a0_s0 (x_X4_isHome a0 b1 x3_4 σ) mkX4_isHome lk_X4_64 (by omega) rfl rfl (Nat.le_of_ble_eq_true rfl) (td kX4_homeBits 11 rfl) (fun r15 hr15 => ?_)
      refine X_jn (P := fun k => ∀ (x2_27 : Int32), X (wsOf SHC) RX4 cX4_homeBits 4 (some .int) 3 0 27 [(0, .ref a0), (1, .ref b1), (2, .int x2_27), (3, .int x3_4)] [] σ (k x2_27)) (fun x2_27 => ?_) (fun k27 h27 => ?_)
      · refine X_iinc (v := (x3_4 + (1 : Int32))) (L' := [(3, .int (x3_4 + (1 : Int32))), (0, .ref a0), (1, .ref b1), (2, .int x2_27)]) (pc := 27) (td kX4_homeBits 19 rfl) 3 rfl rfl (by decide) rfl ?_
        refine X_goto (pc := 30) (tgt := 4) (td kX4_homeBits 20 rfl) (by decide) ?_
        refine X_sub [1, 2, 3, 0] rfl ?_
        exact hrec4 x2_27 (x3_4 + (1 : Int32))
      · refine X_if_eq (pc := 18) (tgt := 27) (td kX4_homeBits 12 rfl) (by decide) (fun c_18 => ?_) (fun c_18 => ?_)
        · exact h27 x2_4
        · refine X_iload_n (pc := 21) (td kX4_homeBits 13 rfl) rfl 2 rfl ?_
          refine X_iconst (v := (1 : Int32)) (pc := 22) (td kX4_homeBits 14 rfl) (by decide) ?_
          refine X_iload_n (pc := 23) (td kX4_homeBits 15 rfl) rfl 3 rfl ?_
          refine X_ishl (pc := 24) (td kX4_homeBits 16 rfl) ?_
          refine X_ior (pc := 25) (td kX4_homeBits 17 rfl) ?_
          refine X_bi (fun v2_26 => ?_)
          refine X_istore_n (L' := [(2, .int v2_26), (0, .ref a0), (1, .ref b1), (3, .int x3_4)]) (pc := 26) (td kX4_homeBits 18 rfl) rfl (by decide) rfl ?_
          refine X_sub [1, 2, 0, 3] rfl ?_
          exact h27 v2_26
set_option maxHeartbeats 4000000 in
theorem p_X4_homeBits (a0 : Nat) (b1 : Nat) (σ : Mm) : Pu σ (f_X4_homeBits a0 b1 σ) := by
  unfold f_X4_homeBits
  refine Pu_ck ?_
  refine Pu_ck ?_
  refine Pu_jn (fun k => ∀ (x2_33 : Int32), Pu σ (k x2_33)) (fun x2_33 => ?_) (fun k33 h33 => ?_)
  · exact Pu_some
  · refine lq2_ind (P := fun _ _ E => Pu σ E) (fun _ _ => Pu_none) (fun rec4 hrec4 x2_4 x3_4 => ?_) _ _ _
    unfold F_X4_homeBits_4
    refine Pu_if ?_ ?_
    · refine Pu_cl (fun _ _ => ?_)
      refine Pu_jn (fun k => ∀ (x2_27 : Int32), Pu σ (k x2_27)) (fun x2_27 => ?_) (fun k27 h27 => ?_)
      · exact hrec4 _ _
      · refine Pu_if ?_ ?_
        · exact h27 _
        · refine Pu_bn (fun _ => ?_)
          exact h27 _
    · exact h33 _
def F_X4_isAllHome_2 (a0 : Nat) (b1 : Nat) (σ : Mm) (k27 : Option (Int32 × Mm)) (rec2 : Int32 → Option (Int32 × Mm)) (x2_2 : Int32) : Option (Int32 × Mm) := (if x2_2 < (gI σ b1 2) then cl (f_X4_isHome a0 b1 x2_2 σ) (fun r13 _ => (if r13 = 0 then some ((0 : Int32), σ) else rec2 (x2_2 + (1 : Int32)))) else k27)
def f_X4_isAllHome (a0 : Nat) (b1 : Nat) (σ : Mm) : Option (Int32 × Mm) := ck (isNight a0) (ck (isTown b1) (jn (some ((1 : Int32), σ)) (fun k27 => lq1 (F_X4_isAllHome_2 a0 b1 σ k27) 1000000 (0 : Int32))))
set_option maxHeartbeats 4000000 in
set_option maxRecDepth 100000 in
theorem x_X4_isAllHome (a0 : Nat) (b1 : Nat) (σ : Mm) : Con (wsOf SHC) yX4_isAllHome cX4_isAllHome 3 (some .boolean) 3 [.ref a0, .ref b1] σ (f_X4_isAllHome a0 b1 σ) := by
  refine Con.of_X (by decide +kernel) (Nat.le_of_ble_eq_true rfl) ?_
  unfold f_X4_isAllHome
  show X (wsOf SHC) RX4 cX4_isAllHome 3 (some .boolean) 3 0 0 [(0, .ref a0), (1, .ref b1)] [] σ _
  refine X_ck (fun a0_h => ?_)
  obtain ⟨a0_s0, a0_s1, a0_s2, a0_s3, a0_s4, a0_s5, a0_s6⟩ := knNight a0_h
  refine X_ck (fun b1_h => ?_)
  obtain ⟨b1_s0, b1_s1, b1_s2, b1_s3, b1_s4, b1_s5, b1_s6, b1_s7, b1_s8, b1_s9, b1_s10, b1_s11, b1_s12, b1_s13, b1_s14⟩ := knTown b1_h
  refine X_iconst (v := (0 : Int32)) (pc := 0) (td kX4_isAllHome 0 rfl) (by decide) ?_
  refine X_istore_n (L' := [(2, .int (0 : Int32)), (0, .ref a0), (1, .ref b1)]) (pc := 1) (td kX4_isAllHome 1 rfl) rfl (by decide) rfl ?_
  refine X_jn (P := fun k => X (wsOf SHC) RX4 cX4_isAllHome 3 (some .boolean) 3 0 27 [] [] σ k) ?_ (fun k27 h27 => ?_)
  · refine X_iconst (v := (1 : Int32)) (pc := 27) (td kX4_isAllHome 15 rfl) (by decide) ?_
    exact X_ret (pc := 28) (td kX4_isAllHome 16 rfl) rfl
  · refine X_sub [1, 2, 0] rfl ?_
    refine lq1_ind (P := fun x2_2 E => X (wsOf SHC) RX4 cX4_isAllHome 3 (some .boolean) 3 0 2 [(0, .ref a0), (1, .ref b1), (2, .int x2_2)] [] σ E) (fun _ => X_none) (fun rec2 hrec2 x2_2 => ?_) _ _
    unfold F_X4_isAllHome_2
    refine X_iload_n (pc := 2) (td kX4_isAllHome 2 rfl) rfl 2 rfl ?_
    refine X_aload_n (pc := 3) (td kX4_isAllHome 3 rfl) rfl 1 rfl ?_
    refine X_getI (pc := 4) b1_s0 rfl fk_X4_40 (td kX4_isAllHome 4 rfl) ?_
    refine X_icmp_ge (pc := 7) (tgt := 27) (td kX4_isAllHome 5 rfl) (by decide) (fun c_7 => ?_) (fun c_7 => ?_)
    · refine X_sub [] rfl ?_
      exact h27
    · refine X_aload_n (pc := 10) (td kX4_isAllHome 6 rfl) rfl 0 rfl ?_
      refine X_aload_n (pc := 11) (td kX4_isAllHome 7 rfl) rfl 1 rfl ?_
      refine X_iload_n (pc := 12) (td kX4_isAllHome 8 rfl) rfl 2 rfl ?_
      refine X_callip (pc := 13) (As := [.ref b1, .int x2_2]) (st := []) (p_X4_isHome a0 b1 x2_2 σ) a0_s0 (x_X4_isHome a0 b1 x2_2 σ) mkX4_isHome lk_X4_64 (by omega) rfl rfl (Nat.le_of_ble_eq_true rfl) (td kX4_isAllHome 9 rfl) (fun r13 hr13 => ?_)
      refine X_if_ne (pc := 16) (tgt := 21) (td kX4_isAllHome 10 rfl) (by decide) (fun c_16 => ?_) (fun c_16 => ?_)
      · refine X_iinc (v := (x2_2 + (1 : Int32))) (L' := [(2, .int (x2_2 + (1 : Int32))), (0, .ref a0), (1, .ref b1)]) (pc := 21) (td kX4_isAllHome 13 rfl) 2 rfl rfl (by decide) rfl ?_
        refine X_goto (pc := 24) (tgt := 2) (td kX4_isAllHome 14 rfl) (by decide) ?_
        refine X_sub [1, 2, 0] rfl ?_
        exact hrec2 (x2_2 + (1 : Int32))
      · refine X_iconst (v := (0 : Int32)) (pc := 19) (td kX4_isAllHome 11 rfl) (by decide) ?_
        exact X_ret (pc := 20) (td kX4_isAllHome 12 rfl) rfl
set_option maxHeartbeats 4000000 in
theorem p_X4_isAllHome (a0 : Nat) (b1 : Nat) (σ : Mm) : Pu σ (f_X4_isAllHome a0 b1 σ) := by
  unfold f_X4_isAllHome
  refine Pu_ck ?_
  refine Pu_ck ?_
  refine Pu_jn (fun k => Pu σ (k)) ?_ (fun k27 h27 => ?_)
  · exact Pu_some
  · refine lq1_ind (P := fun _ E => Pu σ E) (fun _ => Pu_none) (fun rec2 hrec2 x2_2 => ?_) _ _
    unfold F_X4_isAllHome_2
    refine Pu_if ?_ ?_
    · refine Pu_cl (fun _ _ => ?_)
      refine Pu_if ?_ ?_
      · exact Pu_some
      · exact hrec2 _
    · exact h27
def F_X4_litBits_4 (a0 : Nat) (b1 : Nat) (σ : Mm) (k33 : Int32 → Option (Int32 × Mm)) (rec4 : Int32 → Int32 → Option (Int32 × Mm)) (x2_4 : Int32) (x3_4 : Int32) : Option (Int32 × Mm) := (if x3_4 < (gI σ b1 1) then ck (inb x3_4 8) (jn (fun (x2_27 : Int32) => rec4 x2_27 (x3_4 + (1 : Int32))) (fun k27 => (if 0 < (gI σ (a0 + 1) x3_4.toNatClampNeg) then bn (x2_4 ||| ((1 : Int32) <<< (x3_4 &&& 31))) (fun v2_26 => k27 v2_26) else k27 x2_4))) else k33 x2_4)
def f_X4_litBits (a0 : Nat) (b1 : Nat) (σ : Mm) : Option (Int32 × Mm) := ck (isNight a0) (ck (isTown b1) (jn (fun (x2_33 : Int32) => some (x2_33, σ)) (fun k33 => lq2 (F_X4_litBits_4 a0 b1 σ k33) 1000000 (0 : Int32) (0 : Int32))))
set_option maxHeartbeats 4000000 in
set_option maxRecDepth 100000 in
theorem x_X4_litBits (a0 : Nat) (b1 : Nat) (σ : Mm) : Con (wsOf SHC) yX4_litBits cX4_litBits 4 (some .int) 1 [.ref a0, .ref b1] σ (f_X4_litBits a0 b1 σ) := by
  refine Con.of_X (by decide +kernel) (Nat.le_of_ble_eq_true rfl) ?_
  unfold f_X4_litBits
  show X (wsOf SHC) RX4 cX4_litBits 4 (some .int) 1 0 0 [(0, .ref a0), (1, .ref b1)] [] σ _
  refine X_ck (fun a0_h => ?_)
  obtain ⟨a0_s0, a0_s1, a0_s2, a0_s3, a0_s4, a0_s5, a0_s6⟩ := knNight a0_h
  refine X_ck (fun b1_h => ?_)
  obtain ⟨b1_s0, b1_s1, b1_s2, b1_s3, b1_s4, b1_s5, b1_s6, b1_s7, b1_s8, b1_s9, b1_s10, b1_s11, b1_s12, b1_s13, b1_s14⟩ := knTown b1_h
  refine X_iconst (v := (0 : Int32)) (pc := 0) (td kX4_litBits 0 rfl) (by decide) ?_
  refine X_istore_n (L' := [(2, .int (0 : Int32)), (0, .ref a0), (1, .ref b1)]) (pc := 1) (td kX4_litBits 1 rfl) rfl (by decide) rfl ?_
  refine X_iconst (v := (0 : Int32)) (pc := 2) (td kX4_litBits 2 rfl) (by decide) ?_
  refine X_istore_n (L' := [(3, .int (0 : Int32)), (2, .int (0 : Int32)), (0, .ref a0), (1, .ref b1)]) (pc := 3) (td kX4_litBits 3 rfl) rfl (by decide) rfl ?_
  refine X_jn (P := fun k => ∀ (x2_33 : Int32), X (wsOf SHC) RX4 cX4_litBits 4 (some .int) 1 0 33 [(2, .int x2_33)] [] σ (k x2_33)) (fun x2_33 => ?_) (fun k33 h33 => ?_)
  · refine X_iload_n (pc := 33) (td kX4_litBits 21 rfl) rfl 0 rfl ?_
    exact X_ret (pc := 34) (td kX4_litBits 22 rfl) rfl
  · refine X_sub [2, 3, 1, 0] rfl ?_
    refine lq2_ind (P := fun x2_4 x3_4 E => X (wsOf SHC) RX4 cX4_litBits 4 (some .int) 1 0 4 [(0, .ref a0), (1, .ref b1), (2, .int x2_4), (3, .int x3_4)] [] σ E) (fun _ _ => X_none) (fun rec4 hrec4 x2_4 x3_4 => ?_) _ _ _
    unfold F_X4_litBits_4
    refine X_iload_n (pc := 4) (td kX4_litBits 4 rfl) rfl 3 rfl ?_
    refine X_aload_n (pc := 5) (td kX4_litBits 5 rfl) rfl 1 rfl ?_
    refine X_getI (pc := 6) b1_s0 rfl fk_X4_68 (td kX4_litBits 6 rfl) ?_
    refine X_icmp_ge (pc := 9) (tgt := 33) (td kX4_litBits 7 rfl) (by decide) (fun c_9 => ?_) (fun c_9 => ?_)
    · refine X_sub [2] rfl ?_
      exact h33 x2_4
    · refine X_aload_n (pc := 12) (td kX4_litBits 8 rfl) rfl 0 rfl ?_
      refine X_getF (b := (a0 + 1)) (pc := 13) a0_s0 rfl fk_X4_9 (td kX4_litBits 9 rfl) ?_
      refine X_iload_n (pc := 16) (td kX4_litBits 10 rfl) rfl 3 rfl ?_
      refine X_iald (pc := 17) a0_s1 (td kX4_litBits 11 rfl) ?_
      refine X_jn (P := fun k => ∀ (x2_27 : Int32), X (wsOf SHC) RX4 cX4_litBits 4 (some .int) 1 0 27 [(0, .ref a0), (1, .ref b1), (2, .int x2_27), (3, .int x3_4)] [] σ (k x2_27)) (fun x2_27 => ?_) (fun k27 h27 => ?_)
      · refine X_iinc (v := (x3_4 + (1 : Int32))) (L' := [(3, .int (x3_4 + (1 : Int32))), (0, .ref a0), (1, .ref b1), (2, .int x2_27)]) (pc := 27) (td kX4_litBits 19 rfl) 3 rfl rfl (by decide) rfl ?_
        refine X_goto (pc := 30) (tgt := 4) (td kX4_litBits 20 rfl) (by decide) ?_
        refine X_sub [1, 2, 3, 0] rfl ?_
        exact hrec4 x2_27 (x3_4 + (1 : Int32))
      · refine X_if_le (pc := 18) (tgt := 27) (td kX4_litBits 12 rfl) (by decide) (fun c_18 => ?_) (fun c_18 => ?_)
        · exact h27 x2_4
        · refine X_iload_n (pc := 21) (td kX4_litBits 13 rfl) rfl 2 rfl ?_
          refine X_iconst (v := (1 : Int32)) (pc := 22) (td kX4_litBits 14 rfl) (by decide) ?_
          refine X_iload_n (pc := 23) (td kX4_litBits 15 rfl) rfl 3 rfl ?_
          refine X_ishl (pc := 24) (td kX4_litBits 16 rfl) ?_
          refine X_ior (pc := 25) (td kX4_litBits 17 rfl) ?_
          refine X_bi (fun v2_26 => ?_)
          refine X_istore_n (L' := [(2, .int v2_26), (0, .ref a0), (1, .ref b1), (3, .int x3_4)]) (pc := 26) (td kX4_litBits 18 rfl) rfl (by decide) rfl ?_
          refine X_sub [1, 2, 0, 3] rfl ?_
          exact h27 v2_26
set_option maxHeartbeats 4000000 in
theorem p_X4_litBits (a0 : Nat) (b1 : Nat) (σ : Mm) : Pu σ (f_X4_litBits a0 b1 σ) := by
  unfold f_X4_litBits
  refine Pu_ck ?_
  refine Pu_ck ?_
  refine Pu_jn (fun k => ∀ (x2_33 : Int32), Pu σ (k x2_33)) (fun x2_33 => ?_) (fun k33 h33 => ?_)
  · exact Pu_some
  · refine lq2_ind (P := fun _ _ E => Pu σ E) (fun _ _ => Pu_none) (fun rec4 hrec4 x2_4 x3_4 => ?_) _ _ _
    unfold F_X4_litBits_4
    refine Pu_if ?_ ?_
    · refine Pu_ck ?_
      refine Pu_jn (fun k => ∀ (x2_27 : Int32), Pu σ (k x2_27)) (fun x2_27 => ?_) (fun k27 h27 => ?_)
      · exact hrec4 _ _
      · refine Pu_if ?_ ?_
        · refine Pu_bn (fun _ => ?_)
          exact h27 _
        · exact h27 _
    · exact h33 _
def J_X4_goAlong_63 (a0 : Nat) (b1 : Nat) (p2 : Int32) (p3 : Int32) (v4_6 : Int32) (σ_63 : Mm) : Option (Int32 × Mm) := ck (inb p2 6) (ck (inb p2 6) (bn (pI σ_63 (a0 + 5) p2.toNatClampNeg ((gI σ_63 (a0 + 5) p2.toNatClampNeg) + (1 : Int32))) (fun σ72 => jn (ck (inb p2 6) (bn (pI σ72 (a0 + 5) p2.toNatClampNeg (0 : Int32)) (fun σ95 => ck (inb p2 6) (cl (f_X9_otherEnd b1 p3 (gI σ95 (a0 + 2) p2.toNatClampNeg) σ95) (fun r109 _ => ck (inb p2 6) (bn (pI σ95 (a0 + 2) p2.toNatClampNeg r109) (fun σ112 => some (0, σ112)))))))) (fun k89 => (if v4_6 = (3 : Int32) then ck (inb p2 6) ((if (gI σ72 (a0 + 5) p2.toNatClampNeg) < (3 : Int32) then some (0, σ72) else k89)) else k89)))))
def f_X4_goAlong (a0 : Nat) (b1 : Nat) (p2 : Int32) (p3 : Int32) (σ : Mm) : Option (Int32 × Mm) := ck (isNight a0) (ck (isTown b1) (ck (inb p2 6) (bn (gI σ (b1 + 9) p2.toNatClampNeg) (fun v4_6 => ck (inb p3 8) (ck (inb p3 8) (bn (pI σ (a0 + 6) p3.toNatClampNeg ((gI σ (a0 + 6) p3.toNatClampNeg) + (1 : Int32))) (fun σ17 => bn (pI σ17 a0 10 ((gI σ17 a0 10) ||| ((1 : Int32) <<< (p3 &&& 31)))) (fun σ27 => ck (inb p3 8) (jn (J_X4_goAlong_63 a0 b1 p2 p3 v4_6) (fun k63 => (if (gI σ27 (a0 + 1) p3.toNatClampNeg) = 0 then (if v4_6 = (1 : Int32) then k63 σ27 else (if v4_6 = (2 : Int32) then k63 σ27 else bn (pI σ27 a0 9 ((gI σ27 a0 9) ||| ((1 : Int32) <<< (p2 &&& 31)))) (fun σ60 => k63 σ60))) else k63 σ27)))))))))))
set_option maxHeartbeats 4000000 in
set_option maxRecDepth 100000 in
theorem x_X4_goAlong (a0 : Nat) (b1 : Nat) (p2 : Int32) (p3 : Int32) (σ : Mm) : Con (wsOf SHC) yX4_goAlong cX4_goAlong 5 none 3 [.ref a0, .ref b1, .int p2, .int p3] σ (f_X4_goAlong a0 b1 p2 p3 σ) := by
  refine Con.of_X (by decide +kernel) (Nat.le_of_ble_eq_true rfl) ?_
  unfold f_X4_goAlong
  show X (wsOf SHC) RX4 cX4_goAlong 5 none 3 0 0 [(0, .ref a0), (1, .ref b1), (2, .int p2), (3, .int p3)] [] σ _
  refine X_ck (fun a0_h => ?_)
  obtain ⟨a0_s0, a0_s1, a0_s2, a0_s3, a0_s4, a0_s5, a0_s6⟩ := knNight a0_h
  refine X_ck (fun b1_h => ?_)
  obtain ⟨b1_s0, b1_s1, b1_s2, b1_s3, b1_s4, b1_s5, b1_s6, b1_s7, b1_s8, b1_s9, b1_s10, b1_s11, b1_s12, b1_s13, b1_s14⟩ := knTown b1_h
  refine X_aload_n (pc := 0) (td kX4_goAlong 0 rfl) rfl 1 rfl ?_
  refine X_getF (b := (b1 + 9)) (pc := 1) b1_s0 rfl fk_X4_102 (td kX4_goAlong 1 rfl) ?_
  refine X_iload_n (pc := 4) (td kX4_goAlong 2 rfl) rfl 2 rfl ?_
  refine X_iald (pc := 5) b1_s9 (td kX4_goAlong 3 rfl) ?_
  refine X_bi (fun v4_6 => ?_)
  refine X_istore (L' := [(4, .int v4_6), (0, .ref a0), (1, .ref b1), (2, .int p2), (3, .int p3)]) (pc := 6) (td kX4_goAlong 4 rfl) (by decide) rfl ?_
  refine X_aload_n (pc := 8) (td kX4_goAlong 5 rfl) rfl 1 rfl ?_
  refine X_getF (b := (a0 + 6)) (pc := 9) a0_s0 rfl fk_X4_27 (td kX4_goAlong 6 rfl) ?_
  refine X_iload_n (pc := 12) (td kX4_goAlong 7 rfl) rfl 4 rfl ?_
  refine X_dup2 (pc := 13) (td kX4_goAlong 8 rfl) rfl rfl ?_
  refine X_iald (pc := 14) a0_s6 (td kX4_goAlong 9 rfl) ?_
  refine X_iconst (v := (1 : Int32)) (pc := 15) (td kX4_goAlong 10 rfl) (by decide) ?_
  refine X_iadd (pc := 16) (td kX4_goAlong 11 rfl) ?_
  refine X_iast (pc := 17) a0_s6 (td kX4_goAlong 12 rfl) (fun σ17 => ?_)
  refine X_aload_n (pc := 18) (td kX4_goAlong 13 rfl) rfl 1 rfl ?_
  refine X_dup (pc := 19) (td kX4_goAlong 14 rfl) rfl ?_
  refine X_getI (pc := 20) a0_s0 rfl fk_X4_77 (td kX4_goAlong 15 rfl) ?_
  refine X_iconst (v := (1 : Int32)) (pc := 23) (td kX4_goAlong 16 rfl) (by decide) ?_
  refine X_iload_n (pc := 24) (td kX4_goAlong 17 rfl) rfl 4 rfl ?_
  refine X_ishl (pc := 25) (td kX4_goAlong 18 rfl) ?_
  refine X_ior (pc := 26) (td kX4_goAlong 19 rfl) ?_
  refine X_putI (pc := 27) a0_s0 rfl fk_X4_77 rfl rfl (td kX4_goAlong 20 rfl) (fun σ27 => ?_)
  refine X_aload_n (pc := 30) (td kX4_goAlong 21 rfl) rfl 1 rfl ?_
  refine X_getF (b := (a0 + 1)) (pc := 31) a0_s0 rfl fk_X4_9 (td kX4_goAlong 22 rfl) ?_
  refine X_iload_n (pc := 34) (td kX4_goAlong 23 rfl) rfl 4 rfl ?_
  refine X_iald (pc := 35) a0_s1 (td kX4_goAlong 24 rfl) ?_
  refine X_jn (P := fun k => ∀ (σ_63 : Mm), X (wsOf SHC) RX4 cX4_goAlong 5 none 3 0 63 [(0, .ref a0), (1, .ref b1), (2, .int p2), (3, .int p3), (4, .int v4_6)] [] σ_63 (k σ_63)) (fun σ_63 => ?_) (fun k63 h63 => ?_)
  · unfold J_X4_goAlong_63
    refine X_aload_n (pc := 63) (td kX4_goAlong 40 rfl) rfl 0 rfl ?_
    refine X_getF (b := (a0 + 5)) (pc := 64) a0_s0 rfl fk_X4_24 (td kX4_goAlong 41 rfl) ?_
    refine X_iload_n (pc := 67) (td kX4_goAlong 42 rfl) rfl 2 rfl ?_
    refine X_dup2 (pc := 68) (td kX4_goAlong 43 rfl) rfl rfl ?_
    refine X_iald (pc := 69) a0_s5 (td kX4_goAlong 44 rfl) ?_
    refine X_iconst (v := (1 : Int32)) (pc := 70) (td kX4_goAlong 45 rfl) (by decide) ?_
    refine X_iadd (pc := 71) (td kX4_goAlong 46 rfl) ?_
    refine X_iast (pc := 72) a0_s5 (td kX4_goAlong 47 rfl) (fun σ72 => ?_)
    refine X_iload (pc := 73) (td kX4_goAlong 48 rfl) 4 rfl ?_
    refine X_iconst (v := (3 : Int32)) (pc := 75) (td kX4_goAlong 49 rfl) (by decide) ?_
    refine X_jn (P := fun k => X (wsOf SHC) RX4 cX4_goAlong 5 none 3 0 89 [(0, .ref a0), (1, .ref b1), (2, .int p2), (3, .int p3)] [] σ72 k) ?_ (fun k89 h89 => ?_)
    · refine X_aload_n (pc := 89) (td kX4_goAlong 57 rfl) rfl 0 rfl ?_
      refine X_getF (b := (a0 + 5)) (pc := 90) a0_s0 rfl fk_X4_24 (td kX4_goAlong 58 rfl) ?_
      refine X_iload_n (pc := 93) (td kX4_goAlong 59 rfl) rfl 2 rfl ?_
      refine X_iconst (v := (0 : Int32)) (pc := 94) (td kX4_goAlong 60 rfl) (by decide) ?_
      refine X_iast (pc := 95) a0_s5 (td kX4_goAlong 61 rfl) (fun σ95 => ?_)
      refine X_aload_n (pc := 96) (td kX4_goAlong 62 rfl) rfl 0 rfl ?_
      refine X_getF (b := (a0 + 2)) (pc := 97) a0_s0 rfl fk_X4_15 (td kX4_goAlong 63 rfl) ?_
      refine X_iload_n (pc := 100) (td kX4_goAlong 64 rfl) rfl 2 rfl ?_
      refine X_aload_n (pc := 101) (td kX4_goAlong 65 rfl) rfl 1 rfl ?_
      refine X_iload_n (pc := 102) (td kX4_goAlong 66 rfl) rfl 3 rfl ?_
      refine X_aload_n (pc := 103) (td kX4_goAlong 67 rfl) rfl 0 rfl ?_
      refine X_getF (b := (a0 + 2)) (pc := 104) a0_s0 rfl fk_X4_15 (td kX4_goAlong 68 rfl) ?_
      refine X_iload_n (pc := 107) (td kX4_goAlong 69 rfl) rfl 2 rfl ?_
      refine X_iald (pc := 108) a0_s2 (td kX4_goAlong 70 rfl) ?_
      refine X_callip (pc := 109) (As := [.int p3, .int (gI σ95 (a0 + 2) p2.toNatClampNeg)]) (st := [.int p2, .ref (a0 + 2)]) (p_X9_otherEnd b1 p3 (gI σ95 (a0 + 2) p2.toNatClampNeg) σ95) b1_s0 (x_X9_otherEnd b1 p3 (gI σ95 (a0 + 2) p2.toNatClampNeg) σ95) mkX9_otherEnd lk_X4_71 (by omega) rfl rfl (Nat.le_of_ble_eq_true rfl) (td kX4_goAlong 71 rfl) (fun r109 hr109 => ?_)
      refine X_iast (pc := 112) a0_s2 (td kX4_goAlong 72 rfl) (fun σ112 => ?_)
      exact X_retv (pc := 113) (td kX4_goAlong 73 rfl)
    · refine X_icmp_ne (pc := 76) (tgt := 89) (td kX4_goAlong 50 rfl) (by decide) (fun c_76 => ?_) (fun c_76 => ?_)
      · refine X_sub [0, 1, 2, 3] rfl ?_
        exact h89
      · refine X_aload_n (pc := 79) (td kX4_goAlong 51 rfl) rfl 0 rfl ?_
        refine X_getF (b := (a0 + 5)) (pc := 80) a0_s0 rfl fk_X4_24 (td kX4_goAlong 52 rfl) ?_
        refine X_iload_n (pc := 83) (td kX4_goAlong 53 rfl) rfl 2 rfl ?_
        refine X_iald (pc := 84) a0_s5 (td kX4_goAlong 54 rfl) ?_
        refine X_iconst (v := (3 : Int32)) (pc := 85) (td kX4_goAlong 55 rfl) (by decide) ?_
        refine X_icmp_lt (pc := 86) (tgt := 113) (td kX4_goAlong 56 rfl) (by decide) (fun c_86 => ?_) (fun c_86 => ?_)
        · exact X_retv (pc := 113) (td kX4_goAlong 73 rfl)
        · refine X_sub [0, 1, 2, 3] rfl ?_
          exact h89
  · refine X_if_ne (pc := 36) (tgt := 63) (td kX4_goAlong 25 rfl) (by decide) (fun c_36 => ?_) (fun c_36 => ?_)
    · refine X_sub [1, 2, 3, 4, 0] rfl ?_
      exact h63 σ27
    · refine X_iload (pc := 39) (td kX4_goAlong 26 rfl) 0 rfl ?_
      refine X_iconst (v := (1 : Int32)) (pc := 41) (td kX4_goAlong 27 rfl) (by decide) ?_
      refine X_icmp_eq (pc := 42) (tgt := 63) (td kX4_goAlong 28 rfl) (by decide) (fun c_42 => ?_) (fun c_42 => ?_)
      · refine X_sub [1, 2, 3, 4, 0] rfl ?_
        exact h63 σ27
      · refine X_iload (pc := 45) (td kX4_goAlong 29 rfl) 0 rfl ?_
        refine X_iconst (v := (2 : Int32)) (pc := 47) (td kX4_goAlong 30 rfl) (by decide) ?_
        refine X_icmp_eq (pc := 48) (tgt := 63) (td kX4_goAlong 31 rfl) (by decide) (fun c_48 => ?_) (fun c_48 => ?_)
        · refine X_sub [1, 2, 3, 4, 0] rfl ?_
          exact h63 σ27
        · refine X_aload_n (pc := 51) (td kX4_goAlong 32 rfl) rfl 1 rfl ?_
          refine X_dup (pc := 52) (td kX4_goAlong 33 rfl) rfl ?_
          refine X_getI (pc := 53) a0_s0 rfl fk_X4_74 (td kX4_goAlong 34 rfl) ?_
          refine X_iconst (v := (1 : Int32)) (pc := 56) (td kX4_goAlong 35 rfl) (by decide) ?_
          refine X_iload_n (pc := 57) (td kX4_goAlong 36 rfl) rfl 3 rfl ?_
          refine X_ishl (pc := 58) (td kX4_goAlong 37 rfl) ?_
          refine X_ior (pc := 59) (td kX4_goAlong 38 rfl) ?_
          refine X_putI (pc := 60) a0_s0 rfl fk_X4_74 rfl rfl (td kX4_goAlong 39 rfl) (fun σ60 => ?_)
          refine X_sub [1, 2, 3, 4, 0] rfl ?_
          exact h63 σ60
def f_X4_laneAhead (a0 : Nat) (b1 : Nat) (p2 : Int32) (σ : Mm) : Option (Int32 × Mm) := ck (isNight a0) (ck (isTown b1) (ck (inb p2 6) ((if (gI σ a0 0) < (gI σ (a0 + 4) p2.toNatClampNeg) then some ((-1 : Int32), σ) else ck (inb p2 6) (ck (inb p2 6) (cl (f_X9_firstLane b1 (gI σ (a0 + 2) p2.toNatClampNeg) (gI σ (a0 + 3) p2.toNatClampNeg) σ) (fun r26 _ => some (r26, σ))))))))
set_option maxHeartbeats 4000000 in
set_option maxRecDepth 100000 in
theorem x_X4_laneAhead (a0 : Nat) (b1 : Nat) (p2 : Int32) (σ : Mm) : Con (wsOf SHC) yX4_laneAhead cX4_laneAhead 3 (some .int) 2 [.ref a0, .ref b1, .int p2] σ (f_X4_laneAhead a0 b1 p2 σ) := by
  refine Con.of_X (by decide +kernel) (Nat.le_of_ble_eq_true rfl) ?_
  unfold f_X4_laneAhead
  show X (wsOf SHC) RX4 cX4_laneAhead 3 (some .int) 2 0 0 [(0, .ref a0), (1, .ref b1), (2, .int p2)] [] σ _
  refine X_ck (fun a0_h => ?_)
  obtain ⟨a0_s0, a0_s1, a0_s2, a0_s3, a0_s4, a0_s5, a0_s6⟩ := knNight a0_h
  refine X_ck (fun b1_h => ?_)
  obtain ⟨b1_s0, b1_s1, b1_s2, b1_s3, b1_s4, b1_s5, b1_s6, b1_s7, b1_s8, b1_s9, b1_s10, b1_s11, b1_s12, b1_s13, b1_s14⟩ := knTown b1_h
  refine X_aload_n (pc := 0) (td kX4_laneAhead 0 rfl) rfl 0 rfl ?_
  refine X_getI (pc := 1) a0_s0 rfl fk_X4_30 (td kX4_laneAhead 1 rfl) ?_
  refine X_aload_n (pc := 4) (td kX4_laneAhead 2 rfl) rfl 0 rfl ?_
  refine X_getF (b := (a0 + 4)) (pc := 5) a0_s0 rfl fk_X4_21 (td kX4_laneAhead 3 rfl) ?_
  refine X_iload_n (pc := 8) (td kX4_laneAhead 4 rfl) rfl 2 rfl ?_
  refine X_iald (pc := 9) a0_s4 (td kX4_laneAhead 5 rfl) ?_
  refine X_icmp_lt (pc := 10) (tgt := 32) (td kX4_laneAhead 6 rfl) (by decide) (fun c_10 => ?_) (fun c_10 => ?_)
  · refine X_iconst (v := (-1 : Int32)) (pc := 32) (td kX4_laneAhead 18 rfl) (by decide) ?_
    exact X_ret (pc := 33) (td kX4_laneAhead 19 rfl) rfl
  · refine X_aload_n (pc := 13) (td kX4_laneAhead 7 rfl) rfl 1 rfl ?_
    refine X_aload_n (pc := 14) (td kX4_laneAhead 8 rfl) rfl 0 rfl ?_
    refine X_getF (b := (a0 + 2)) (pc := 15) a0_s0 rfl fk_X4_15 (td kX4_laneAhead 9 rfl) ?_
    refine X_iload_n (pc := 18) (td kX4_laneAhead 10 rfl) rfl 2 rfl ?_
    refine X_iald (pc := 19) a0_s2 (td kX4_laneAhead 11 rfl) ?_
    refine X_aload_n (pc := 20) (td kX4_laneAhead 12 rfl) rfl 0 rfl ?_
    refine X_getF (b := (a0 + 3)) (pc := 21) a0_s0 rfl fk_X4_18 (td kX4_laneAhead 13 rfl) ?_
    refine X_iload_n (pc := 24) (td kX4_laneAhead 14 rfl) rfl 2 rfl ?_
    refine X_iald (pc := 25) a0_s3 (td kX4_laneAhead 15 rfl) ?_
    refine X_callip (pc := 26) (As := [.int (gI σ (a0 + 2) p2.toNatClampNeg), .int (gI σ (a0 + 3) p2.toNatClampNeg)]) (st := []) (p_X9_firstLane b1 (gI σ (a0 + 2) p2.toNatClampNeg) (gI σ (a0 + 3) p2.toNatClampNeg) σ) b1_s0 (x_X9_firstLane b1 (gI σ (a0 + 2) p2.toNatClampNeg) (gI σ (a0 + 3) p2.toNatClampNeg) σ) mkX9_firstLane lk_X4_60 (by omega) rfl rfl (Nat.le_of_ble_eq_true rfl) (td kX4_laneAhead 16 rfl) (fun r26 hr26 => ?_)
    refine X_goto (pc := 29) (tgt := 33) (td kX4_laneAhead 17 rfl) (by decide) ?_
    exact X_ret (pc := 33) (td kX4_laneAhead 19 rfl) rfl
set_option maxHeartbeats 4000000 in
theorem p_X4_laneAhead (a0 : Nat) (b1 : Nat) (p2 : Int32) (σ : Mm) : Pu σ (f_X4_laneAhead a0 b1 p2 σ) := by
  unfold f_X4_laneAhead
  refine Pu_ck ?_
  refine Pu_ck ?_
  refine Pu_ck ?_
  refine Pu_if ?_ ?_
  · exact Pu_some
  · refine Pu_ck ?_
    refine Pu_ck ?_
    refine Pu_cl (fun _ _ => ?_)
    exact Pu_some
def f_X4_lightUp (a0 : Nat) (b1 : Nat) (p2 : Int32) (p3 : Int32) (p4 : Int32) (σ : Mm) : Option (Int32 × Mm) := ck (isNight a0) (ck (isTown b1) (ck (inb p2 8) (ck (inb p2 8) (cl (f_X1_tells (b1 + 1) ((gI σ (b1 + 7) p2.toNatClampNeg) + p4) (gI σ (a0 + 1) p2.toNatClampNeg) p3 (gI σ a0 0) σ) (fun r24 σ24 => ck (inb p2 8) ((if (gI σ24 (a0 + 1) p2.toNatClampNeg) < r24 then ck (inb p2 8) (bn (pI σ24 (a0 + 1) p2.toNatClampNeg r24) (fun σ47 => some (0, σ47))) else some (0, σ24))))))))
set_option maxHeartbeats 4000000 in
set_option maxRecDepth 100000 in
theorem x_X4_lightUp (a0 : Nat) (b1 : Nat) (p2 : Int32) (p3 : Int32) (p4 : Int32) (σ : Mm) : Con (wsOf SHC) yX4_lightUp cX4_lightUp 6 none 3 [.ref a0, .ref b1, .int p2, .int p3, .int p4] σ (f_X4_lightUp a0 b1 p2 p3 p4 σ) := by
  refine Con.of_X (by decide +kernel) (Nat.le_of_ble_eq_true rfl) ?_
  unfold f_X4_lightUp
  show X (wsOf SHC) RX4 cX4_lightUp 6 none 3 0 0 [(0, .ref a0), (1, .ref b1), (2, .int p2), (3, .int p3), (4, .int p4)] [] σ _
  refine X_ck (fun a0_h => ?_)
  obtain ⟨a0_s0, a0_s1, a0_s2, a0_s3, a0_s4, a0_s5, a0_s6⟩ := knNight a0_h
  refine X_ck (fun b1_h => ?_)
  obtain ⟨b1_s0, b1_s1, b1_s2, b1_s3, b1_s4, b1_s5, b1_s6, b1_s7, b1_s8, b1_s9, b1_s10, b1_s11, b1_s12, b1_s13, b1_s14⟩ := knTown b1_h
  refine X_aload_n (pc := 0) (td kX4_lightUp 0 rfl) rfl 1 rfl ?_
  refine X_getF (b := (b1 + 1)) (pc := 1) b1_s0 rfl fk_X4_105 (td kX4_lightUp 1 rfl) ?_
  refine X_aload_n (pc := 4) (td kX4_lightUp 2 rfl) rfl 1 rfl ?_
  refine X_getF (b := (b1 + 7)) (pc := 5) b1_s0 rfl fk_X4_109 (td kX4_lightUp 3 rfl) ?_
  refine X_iload_n (pc := 8) (td kX4_lightUp 4 rfl) rfl 2 rfl ?_
  refine X_iald (pc := 9) b1_s7 (td kX4_lightUp 5 rfl) ?_
  refine X_iload (pc := 10) (td kX4_lightUp 6 rfl) 4 rfl ?_
  refine X_iadd (pc := 12) (td kX4_lightUp 7 rfl) ?_
  refine X_aload_n (pc := 13) (td kX4_lightUp 8 rfl) rfl 0 rfl ?_
  refine X_getF (b := (a0 + 1)) (pc := 14) a0_s0 rfl fk_X4_9 (td kX4_lightUp 9 rfl) ?_
  refine X_iload_n (pc := 17) (td kX4_lightUp 10 rfl) rfl 2 rfl ?_
  refine X_iald (pc := 18) a0_s1 (td kX4_lightUp 11 rfl) ?_
  refine X_iload_n (pc := 19) (td kX4_lightUp 12 rfl) rfl 3 rfl ?_
  refine X_aload_n (pc := 20) (td kX4_lightUp 13 rfl) rfl 0 rfl ?_
  refine X_getI (pc := 21) a0_s0 rfl fk_X4_30 (td kX4_lightUp 14 rfl) ?_
  refine X_calli (pc := 24) (As := [.int ((gI σ (b1 + 7) p2.toNatClampNeg) + p4), .int (gI σ (a0 + 1) p2.toNatClampNeg), .int p3, .int (gI σ a0 0)]) (st := []) b1_s1 (x_X1_tells (b1 + 1) ((gI σ (b1 + 7) p2.toNatClampNeg) + p4) (gI σ (a0 + 1) p2.toNatClampNeg) p3 (gI σ a0 0) σ) mkX1_tells lk_X4_112 (by omega) rfl rfl (Nat.le_of_ble_eq_true rfl) (td kX4_lightUp 15 rfl) (fun r24 σ24 _ hr24 => ?_)
  refine X_istore (L' := [(5, .int r24), (0, .ref a0), (1, .ref b1), (2, .int p2), (3, .int p3), (4, .int p4)]) (pc := 27) (td kX4_lightUp 16 rfl) (by decide) rfl ?_
  refine X_iload (pc := 29) (td kX4_lightUp 17 rfl) 0 rfl ?_
  refine X_aload_n (pc := 31) (td kX4_lightUp 18 rfl) rfl 1 rfl ?_
  refine X_getF (b := (a0 + 1)) (pc := 32) a0_s0 rfl fk_X4_9 (td kX4_lightUp 19 rfl) ?_
  refine X_iload_n (pc := 35) (td kX4_lightUp 20 rfl) rfl 3 rfl ?_
  refine X_iald (pc := 36) a0_s1 (td kX4_lightUp 21 rfl) ?_
  refine X_icmp_le (pc := 37) (tgt := 48) (td kX4_lightUp 22 rfl) (by decide) (fun c_37 => ?_) (fun c_37 => ?_)
  · exact X_retv (pc := 48) (td kX4_lightUp 28 rfl)
  · refine X_aload_n (pc := 40) (td kX4_lightUp 23 rfl) rfl 1 rfl ?_
    refine X_getF (b := (a0 + 1)) (pc := 41) a0_s0 rfl fk_X4_9 (td kX4_lightUp 24 rfl) ?_
    refine X_iload_n (pc := 44) (td kX4_lightUp 25 rfl) rfl 3 rfl ?_
    refine X_iload (pc := 45) (td kX4_lightUp 26 rfl) 0 rfl ?_
    refine X_iast (pc := 47) a0_s1 (td kX4_lightUp 27 rfl) (fun σ47 => ?_)
    exact X_retv (pc := 48) (td kX4_lightUp 28 rfl)
def F_X4_pass_76 (a0 : Nat) (b1 : Nat) (p2 : Int32) (k131 : Mm → Option (Int32 × Mm)) (rec76 : Int32 → Mm → Option (Int32 × Mm)) (x3_76 : Int32) (σ_76 : Mm) : Option (Int32 × Mm) := (if x3_76 < (gI σ_76 b1 1) then ck (inb x3_76 8) (jn (fun (σ_103 : Mm) => ck (inb x3_76 8) (jn (fun (σ_125 : Mm) => rec76 (x3_76 + (1 : Int32)) σ_125) (fun k125 => (if 0 < (gI σ_103 (a0 + 6) x3_76.toNatClampNeg) then ck (inb x3_76 8) (cl (f_X4_lightUp a0 b1 x3_76 (gI σ_103 (a0 + 6) x3_76.toNatClampNeg) p2 σ_103) (fun _ σ122 => k125 σ122)) else k125 σ_103)))) (fun k103 => (if 0 < (gI σ_76 (a0 + 1) x3_76.toNatClampNeg) then ck (inb x3_76 8) (ck (inb x3_76 8) (bn (pI σ_76 (a0 + 1) x3_76.toNatClampNeg ((gI σ_76 (a0 + 1) x3_76.toNatClampNeg) - (1 : Int32))) (fun σ102 => k103 σ102))) else k103 σ_76))) else k131 σ_76)
def F_X4_pass_35 (a0 : Nat) (b1 : Nat) (k74 : Mm → Option (Int32 × Mm)) (rec35 : Int32 → Mm → Option (Int32 × Mm)) (x3_35 : Int32) (σ_35 : Mm) : Option (Int32 × Mm) := (if x3_35 < (gI σ_35 b1 2) then cl (f_X4_laneAhead a0 b1 x3_35 σ_35) (fun r46 _ => cl (f_X9_hasLane b1 r46 σ_35) (fun r54 _ => jn (fun (σ_68 : Mm) => rec35 (x3_35 + (1 : Int32)) σ_68) (fun k68 => (if r54 = 0 then k68 σ_35 else cl (f_X4_goAlong a0 b1 x3_35 r46 σ_35) (fun _ σ65 => k68 σ65))))) else k74 σ_35)
def J_X4_pass_33 (a0 : Nat) (b1 : Nat) (p2 : Int32) (σ_33 : Mm) : Option (Int32 × Mm) := jn (fun (σ_74 : Mm) => jn (fun (σ_131 : Mm) => bn (pI σ_131 a0 0 ((gI σ_131 a0 0) + (1 : Int32))) (fun σ138 => cl (f_J6_bitCount_0f7a4 (gI σ138 a0 9) σ138) (fun r150 _ => bn (pI σ138 a0 2 ((gI σ138 a0 2) + r150)) (fun σ154 => some (0, σ154))))) (fun k131 => lq2 (F_X4_pass_76 a0 b1 p2 k131) 1000000 (0 : Int32) σ_74)) (fun k74 => lq2 (F_X4_pass_35 a0 b1 k74) 1000000 (0 : Int32) σ_33)
def F_X4_pass_12 (a0 : Nat) (b1 : Nat) (k33 : Mm → Option (Int32 × Mm)) (rec12 : Int32 → Mm → Option (Int32 × Mm)) (x3_12 : Int32) (σ_12 : Mm) : Option (Int32 × Mm) := (if x3_12 < (gI σ_12 b1 1) then ck (inb x3_12 8) (bn (pI σ_12 (a0 + 6) x3_12.toNatClampNeg (0 : Int32)) (fun σ26 => rec12 (x3_12 + (1 : Int32)) σ26)) else k33 σ_12)
def f_X4_pass (a0 : Nat) (b1 : Nat) (p2 : Int32) (σ : Mm) : Option (Int32 × Mm) := ck (isNight a0) (ck (isTown b1) (bn (pI σ a0 9 (0 : Int32)) (fun σ2 => bn (pI σ2 a0 10 (0 : Int32)) (fun σ7 => jn (J_X4_pass_33 a0 b1 p2) (fun k33 => lq2 (F_X4_pass_12 a0 b1 k33) 1000000 (0 : Int32) σ7)))))
set_option maxHeartbeats 4000000 in
set_option maxRecDepth 100000 in
theorem x_X4_pass (a0 : Nat) (b1 : Nat) (p2 : Int32) (σ : Mm) : Con (wsOf SHC) yX4_pass cX4_pass 5 none 4 [.ref a0, .ref b1, .int p2] σ (f_X4_pass a0 b1 p2 σ) := by
  refine Con.of_X (by decide +kernel) (Nat.le_of_ble_eq_true rfl) ?_
  unfold f_X4_pass
  show X (wsOf SHC) RX4 cX4_pass 5 none 4 0 0 [(0, .ref a0), (1, .ref b1), (2, .int p2)] [] σ _
  refine X_ck (fun a0_h => ?_)
  obtain ⟨a0_s0, a0_s1, a0_s2, a0_s3, a0_s4, a0_s5, a0_s6⟩ := knNight a0_h
  refine X_ck (fun b1_h => ?_)
  obtain ⟨b1_s0, b1_s1, b1_s2, b1_s3, b1_s4, b1_s5, b1_s6, b1_s7, b1_s8, b1_s9, b1_s10, b1_s11, b1_s12, b1_s13, b1_s14⟩ := knTown b1_h
  refine X_aload_n (pc := 0) (td kX4_pass 0 rfl) rfl 0 rfl ?_
  refine X_iconst (v := (0 : Int32)) (pc := 1) (td kX4_pass 1 rfl) (by decide) ?_
  refine X_putI (pc := 2) a0_s0 rfl fk_X4_74 rfl rfl (td kX4_pass 2 rfl) (fun σ2 => ?_)
  refine X_aload_n (pc := 5) (td kX4_pass 3 rfl) rfl 0 rfl ?_
  refine X_iconst (v := (0 : Int32)) (pc := 6) (td kX4_pass 4 rfl) (by decide) ?_
  refine X_putI (pc := 7) a0_s0 rfl fk_X4_77 rfl rfl (td kX4_pass 5 rfl) (fun σ7 => ?_)
  refine X_iconst (v := (0 : Int32)) (pc := 10) (td kX4_pass 6 rfl) (by decide) ?_
  refine X_istore_n (L' := [(3, .int (0 : Int32)), (0, .ref a0), (1, .ref b1), (2, .int p2)]) (pc := 11) (td kX4_pass 7 rfl) rfl (by decide) rfl ?_
  refine X_jn (P := fun k => ∀ (σ_33 : Mm), X (wsOf SHC) RX4 cX4_pass 5 none 4 0 33 [(0, .ref a0), (1, .ref b1), (2, .int p2)] [] σ_33 (k σ_33)) (fun σ_33 => ?_) (fun k33 h33 => ?_)
  · unfold J_X4_pass_33
    refine X_iconst (v := (0 : Int32)) (pc := 33) (td kX4_pass 19 rfl) (by decide) ?_
    refine X_istore_n (L' := [(3, .int (0 : Int32)), (0, .ref a0), (1, .ref b1), (2, .int p2)]) (pc := 34) (td kX4_pass 20 rfl) rfl (by decide) rfl ?_
    refine X_jn (P := fun k => ∀ (σ_74 : Mm), X (wsOf SHC) RX4 cX4_pass 5 none 4 0 74 [(0, .ref a0), (1, .ref b1), (2, .int p2)] [] σ_74 (k σ_74)) (fun σ_74 => ?_) (fun k74 h74 => ?_)
    · refine X_iconst (v := (0 : Int32)) (pc := 74) (td kX4_pass 41 rfl) (by decide) ?_
      refine X_istore_n (L' := [(3, .int (0 : Int32)), (0, .ref a0), (1, .ref b1), (2, .int p2)]) (pc := 75) (td kX4_pass 42 rfl) rfl (by decide) rfl ?_
      refine X_jn (P := fun k => ∀ (σ_131 : Mm), X (wsOf SHC) RX4 cX4_pass 5 none 4 0 131 [(0, .ref a0)] [] σ_131 (k σ_131)) (fun σ_131 => ?_) (fun k131 h131 => ?_)
      · refine X_aload_n (pc := 131) (td kX4_pass 76 rfl) rfl 0 rfl ?_
        refine X_dup (pc := 132) (td kX4_pass 77 rfl) rfl ?_
        refine X_getI (pc := 133) a0_s0 rfl fk_X4_30 (td kX4_pass 78 rfl) ?_
        refine X_iconst (v := (1 : Int32)) (pc := 136) (td kX4_pass 79 rfl) (by decide) ?_
        refine X_iadd (pc := 137) (td kX4_pass 80 rfl) ?_
        refine X_putI (pc := 138) a0_s0 rfl fk_X4_30 rfl rfl (td kX4_pass 81 rfl) (fun σ138 => ?_)
        refine X_aload_n (pc := 141) (td kX4_pass 82 rfl) rfl 0 rfl ?_
        refine X_dup (pc := 142) (td kX4_pass 83 rfl) rfl ?_
        refine X_getI (pc := 143) a0_s0 rfl fk_X4_37 (td kX4_pass 84 rfl) ?_
        refine X_aload_n (pc := 146) (td kX4_pass 85 rfl) rfl 0 rfl ?_
        refine X_getI (pc := 147) a0_s0 rfl fk_X4_74 (td kX4_pass 86 rfl) ?_
        refine X_callsip (pc := 150) (As := [.int (gI σ138 a0 9)]) (st := [.int (gI σ138 a0 2), .ref a0]) (p_J6_bitCount_0f7a4 (gI σ138 a0 9) σ138) (x_J6_bitCount_0f7a4 (gI σ138 a0 9) σ138) mkJ6_bitCount_0f7a4 lk_X4_96 (by omega) rfl rfl (Nat.le_of_ble_eq_true rfl) (td kX4_pass 87 rfl) (fun r150 hr150 => ?_)
        refine X_iadd (pc := 153) (td kX4_pass 88 rfl) ?_
        refine X_putI (pc := 154) a0_s0 rfl fk_X4_37 rfl rfl (td kX4_pass 89 rfl) (fun σ154 => ?_)
        exact X_retv (pc := 157) (td kX4_pass 90 rfl)
      · refine X_sub [1, 2, 3, 0] rfl ?_
        refine lq2_ind (P := fun x3_76 σ_76 E => X (wsOf SHC) RX4 cX4_pass 5 none 4 0 76 [(0, .ref a0), (1, .ref b1), (2, .int p2), (3, .int x3_76)] [] σ_76 E) (fun _ _ => X_none) (fun rec76 hrec76 x3_76 σ_76 => ?_) _ _ _
        unfold F_X4_pass_76
        refine X_iload_n (pc := 76) (td kX4_pass 43 rfl) rfl 3 rfl ?_
        refine X_aload_n (pc := 77) (td kX4_pass 44 rfl) rfl 1 rfl ?_
        refine X_getI (pc := 78) b1_s0 rfl fk_X4_68 (td kX4_pass 45 rfl) ?_
        refine X_icmp_ge (pc := 81) (tgt := 131) (td kX4_pass 46 rfl) (by decide) (fun c_81 => ?_) (fun c_81 => ?_)
        · refine X_sub [0] rfl ?_
          exact h131 σ_76
        · refine X_aload_n (pc := 84) (td kX4_pass 47 rfl) rfl 0 rfl ?_
          refine X_getF (b := (a0 + 1)) (pc := 85) a0_s0 rfl fk_X4_9 (td kX4_pass 48 rfl) ?_
          refine X_iload_n (pc := 88) (td kX4_pass 49 rfl) rfl 3 rfl ?_
          refine X_iald (pc := 89) a0_s1 (td kX4_pass 50 rfl) ?_
          refine X_jn (P := fun k => ∀ (σ_103 : Mm), X (wsOf SHC) RX4 cX4_pass 5 none 4 0 103 [(0, .ref a0), (1, .ref b1), (2, .int p2), (3, .int x3_76)] [] σ_103 (k σ_103)) (fun σ_103 => ?_) (fun k103 h103 => ?_)
          · refine X_aload_n (pc := 103) (td kX4_pass 60 rfl) rfl 0 rfl ?_
            refine X_getF (b := (a0 + 6)) (pc := 104) a0_s0 rfl fk_X4_27 (td kX4_pass 61 rfl) ?_
            refine X_iload_n (pc := 107) (td kX4_pass 62 rfl) rfl 3 rfl ?_
            refine X_iald (pc := 108) a0_s6 (td kX4_pass 63 rfl) ?_
            refine X_jn (P := fun k => ∀ (σ_125 : Mm), X (wsOf SHC) RX4 cX4_pass 5 none 4 0 125 [(0, .ref a0), (1, .ref b1), (2, .int p2), (3, .int x3_76)] [] σ_125 (k σ_125)) (fun σ_125 => ?_) (fun k125 h125 => ?_)
            · refine X_iinc (v := (x3_76 + (1 : Int32))) (L' := [(3, .int (x3_76 + (1 : Int32))), (0, .ref a0), (1, .ref b1), (2, .int p2)]) (pc := 125) (td kX4_pass 74 rfl) 3 rfl rfl (by decide) rfl ?_
              refine X_goto (pc := 128) (tgt := 76) (td kX4_pass 75 rfl) (by decide) ?_
              refine X_sub [1, 2, 3, 0] rfl ?_
              exact hrec76 (x3_76 + (1 : Int32)) σ_125
            · refine X_if_le (pc := 109) (tgt := 125) (td kX4_pass 64 rfl) (by decide) (fun c_109 => ?_) (fun c_109 => ?_)
              · exact h125 σ_103
              · refine X_aload_n (pc := 112) (td kX4_pass 65 rfl) rfl 0 rfl ?_
                refine X_aload_n (pc := 113) (td kX4_pass 66 rfl) rfl 1 rfl ?_
                refine X_iload_n (pc := 114) (td kX4_pass 67 rfl) rfl 3 rfl ?_
                refine X_aload_n (pc := 115) (td kX4_pass 68 rfl) rfl 0 rfl ?_
                refine X_getF (b := (a0 + 6)) (pc := 116) a0_s0 rfl fk_X4_27 (td kX4_pass 69 rfl) ?_
                refine X_iload_n (pc := 119) (td kX4_pass 70 rfl) rfl 3 rfl ?_
                refine X_iald (pc := 120) a0_s6 (td kX4_pass 71 rfl) ?_
                refine X_iload_n (pc := 121) (td kX4_pass 72 rfl) rfl 2 rfl ?_
                refine X_callv (pc := 122) (As := [.ref b1, .int x3_76, .int (gI σ_103 (a0 + 6) x3_76.toNatClampNeg), .int p2]) (st := []) a0_s0 (x_X4_lightUp a0 b1 x3_76 (gI σ_103 (a0 + 6) x3_76.toNatClampNeg) p2 σ_103) mkX4_lightUp lk_X4_92 (by omega) rfl rfl (Nat.le_of_ble_eq_true rfl) (td kX4_pass 73 rfl) (fun _ σ122 _ => ?_)
                exact h125 σ122
          · refine X_if_le (pc := 90) (tgt := 103) (td kX4_pass 51 rfl) (by decide) (fun c_90 => ?_) (fun c_90 => ?_)
            · exact h103 σ_76
            · refine X_aload_n (pc := 93) (td kX4_pass 52 rfl) rfl 0 rfl ?_
              refine X_getF (b := (a0 + 1)) (pc := 94) a0_s0 rfl fk_X4_9 (td kX4_pass 53 rfl) ?_
              refine X_iload_n (pc := 97) (td kX4_pass 54 rfl) rfl 3 rfl ?_
              refine X_dup2 (pc := 98) (td kX4_pass 55 rfl) rfl rfl ?_
              refine X_iald (pc := 99) a0_s1 (td kX4_pass 56 rfl) ?_
              refine X_iconst (v := (1 : Int32)) (pc := 100) (td kX4_pass 57 rfl) (by decide) ?_
              refine X_isub (pc := 101) (td kX4_pass 58 rfl) ?_
              refine X_iast (pc := 102) a0_s1 (td kX4_pass 59 rfl) (fun σ102 => ?_)
              exact h103 σ102
    · refine X_sub [1, 2, 3, 0] rfl ?_
      refine lq2_ind (P := fun x3_35 σ_35 E => X (wsOf SHC) RX4 cX4_pass 5 none 4 0 35 [(0, .ref a0), (1, .ref b1), (2, .int p2), (3, .int x3_35)] [] σ_35 E) (fun _ _ => X_none) (fun rec35 hrec35 x3_35 σ_35 => ?_) _ _ _
      unfold F_X4_pass_35
      refine X_iload_n (pc := 35) (td kX4_pass 21 rfl) rfl 3 rfl ?_
      refine X_aload_n (pc := 36) (td kX4_pass 22 rfl) rfl 1 rfl ?_
      refine X_getI (pc := 37) b1_s0 rfl fk_X4_40 (td kX4_pass 23 rfl) ?_
      refine X_icmp_ge (pc := 40) (tgt := 74) (td kX4_pass 24 rfl) (by decide) (fun c_40 => ?_) (fun c_40 => ?_)
      · refine X_sub [0, 1, 2] rfl ?_
        exact h74 σ_35
      · refine X_aload_n (pc := 43) (td kX4_pass 25 rfl) rfl 0 rfl ?_
        refine X_aload_n (pc := 44) (td kX4_pass 26 rfl) rfl 1 rfl ?_
        refine X_iload_n (pc := 45) (td kX4_pass 27 rfl) rfl 3 rfl ?_
        refine X_callip (pc := 46) (As := [.ref b1, .int x3_35]) (st := []) (p_X4_laneAhead a0 b1 x3_35 σ_35) a0_s0 (x_X4_laneAhead a0 b1 x3_35 σ_35) mkX4_laneAhead lk_X4_80 (by omega) rfl rfl (Nat.le_of_ble_eq_true rfl) (td kX4_pass 28 rfl) (fun r46 hr46 => ?_)
        refine X_istore (L' := [(4, .int r46), (0, .ref a0), (1, .ref b1), (2, .int p2), (3, .int x3_35)]) (pc := 49) (td kX4_pass 29 rfl) (by decide) rfl ?_
        refine X_aload_n (pc := 51) (td kX4_pass 30 rfl) rfl 2 rfl ?_
        refine X_iload (pc := 52) (td kX4_pass 31 rfl) 0 rfl ?_
        refine X_callip (pc := 54) (As := [.int r46]) (st := []) (p_X9_hasLane b1 r46 σ_35) b1_s0 (x_X9_hasLane b1 r46 σ_35) mkX9_hasLane lk_X4_84 (by omega) rfl rfl (Nat.le_of_ble_eq_true rfl) (td kX4_pass 32 rfl) (fun r54 hr54 => ?_)
        refine X_jn (P := fun k => ∀ (σ_68 : Mm), X (wsOf SHC) RX4 cX4_pass 5 none 4 0 68 [(0, .ref a0), (1, .ref b1), (2, .int p2), (3, .int x3_35)] [] σ_68 (k σ_68)) (fun σ_68 => ?_) (fun k68 h68 => ?_)
        · refine X_iinc (v := (x3_35 + (1 : Int32))) (L' := [(3, .int (x3_35 + (1 : Int32))), (0, .ref a0), (1, .ref b1), (2, .int p2)]) (pc := 68) (td kX4_pass 39 rfl) 3 rfl rfl (by decide) rfl ?_
          refine X_goto (pc := 71) (tgt := 35) (td kX4_pass 40 rfl) (by decide) ?_
          refine X_sub [1, 2, 3, 0] rfl ?_
          exact hrec35 (x3_35 + (1 : Int32)) σ_68
        · refine X_if_eq (pc := 57) (tgt := 68) (td kX4_pass 33 rfl) (by decide) (fun c_57 => ?_) (fun c_57 => ?_)
          · refine X_sub [1, 2, 3, 4] rfl ?_
            exact h68 σ_35
          · refine X_aload_n (pc := 60) (td kX4_pass 34 rfl) rfl 1 rfl ?_
            refine X_aload_n (pc := 61) (td kX4_pass 35 rfl) rfl 2 rfl ?_
            refine X_iload_n (pc := 62) (td kX4_pass 36 rfl) rfl 4 rfl ?_
            refine X_iload (pc := 63) (td kX4_pass 37 rfl) 0 rfl ?_
            refine X_callv (pc := 65) (As := [.ref b1, .int x3_35, .int r46]) (st := []) a0_s0 (x_X4_goAlong a0 b1 x3_35 r46 σ_35) mkX4_goAlong lk_X4_88 (by omega) rfl rfl (Nat.le_of_ble_eq_true rfl) (td kX4_pass 38 rfl) (fun _ σ65 _ => ?_)
            refine X_sub [1, 2, 3, 4] rfl ?_
            exact h68 σ65
  · refine X_sub [1, 2, 3, 0] rfl ?_
    refine lq2_ind (P := fun x3_12 σ_12 E => X (wsOf SHC) RX4 cX4_pass 5 none 4 0 12 [(0, .ref a0), (1, .ref b1), (2, .int p2), (3, .int x3_12)] [] σ_12 E) (fun _ _ => X_none) (fun rec12 hrec12 x3_12 σ_12 => ?_) _ _ _
    unfold F_X4_pass_12
    refine X_iload_n (pc := 12) (td kX4_pass 8 rfl) rfl 3 rfl ?_
    refine X_aload_n (pc := 13) (td kX4_pass 9 rfl) rfl 1 rfl ?_
    refine X_getI (pc := 14) b1_s0 rfl fk_X4_68 (td kX4_pass 10 rfl) ?_
    refine X_icmp_ge (pc := 17) (tgt := 33) (td kX4_pass 11 rfl) (by decide) (fun c_17 => ?_) (fun c_17 => ?_)
    · refine X_sub [0, 1, 2] rfl ?_
      exact h33 σ_12
    · refine X_aload_n (pc := 20) (td kX4_pass 12 rfl) rfl 0 rfl ?_
      refine X_getF (b := (a0 + 6)) (pc := 21) a0_s0 rfl fk_X4_27 (td kX4_pass 13 rfl) ?_
      refine X_iload_n (pc := 24) (td kX4_pass 14 rfl) rfl 3 rfl ?_
      refine X_iconst (v := (0 : Int32)) (pc := 25) (td kX4_pass 15 rfl) (by decide) ?_
      refine X_iast (pc := 26) a0_s6 (td kX4_pass 16 rfl) (fun σ26 => ?_)
      refine X_iinc (v := (x3_12 + (1 : Int32))) (L' := [(3, .int (x3_12 + (1 : Int32))), (0, .ref a0), (1, .ref b1), (2, .int p2)]) (pc := 27) (td kX4_pass 17 rfl) 3 rfl rfl (by decide) rfl ?_
      refine X_goto (pc := 30) (tgt := 12) (td kX4_pass 18 rfl) (by decide) ?_
      refine X_sub [1, 2, 3, 0] rfl ?_
      exact hrec12 (x3_12 + (1 : Int32)) σ26
def F_X4_begin_38 (a0 : Nat) (b1 : Nat) (k95 : Mm → Option (Int32 × Mm)) (rec38 : Int32 → Mm → Option (Int32 × Mm)) (x2_38 : Int32) (σ_38 : Mm) : Option (Int32 × Mm) := (if x2_38 < (gI σ_38 b1 2) then ck (inb x2_38 6) (ck (inb x2_38 6) (bn (pI σ_38 (a0 + 2) x2_38.toNatClampNeg (gI σ_38 (b1 + 10) x2_38.toNatClampNeg)) (fun σ57 => ck (inb x2_38 6) (ck (inb x2_38 6) (bn (pI σ57 (a0 + 3) x2_38.toNatClampNeg (gI σ57 (b1 + 11) x2_38.toNatClampNeg)) (fun σ69 => ck (inb x2_38 6) (ck (inb x2_38 6) (bn (pI σ69 (a0 + 4) x2_38.toNatClampNeg (gI σ69 (b1 + 12) x2_38.toNatClampNeg)) (fun σ81 => ck (inb x2_38 6) (bn (pI σ81 (a0 + 5) x2_38.toNatClampNeg (0 : Int32)) (fun σ88 => rec38 (x2_38 + (1 : Int32)) σ88))))))))))) else k95 σ_38)
def F_X4_begin_17 (a0 : Nat) (k36 : Mm → Option (Int32 × Mm)) (rec17 : Int32 → Mm → Option (Int32 × Mm)) (x2_17 : Int32) (σ_17 : Mm) : Option (Int32 × Mm) := (if x2_17 < (8 : Int32) then ck (inb x2_17 8) (bn (pI σ_17 (a0 + 1) x2_17.toNatClampNeg (0 : Int32)) (fun σ29 => rec17 (x2_17 + (1 : Int32)) σ29)) else k36 σ_17)
def f_X4_begin (a0 : Nat) (b1 : Nat) (σ : Mm) : Option (Int32 × Mm) := ck (isNight a0) (ck (isTown b1) (bn (pI σ a0 0 (0 : Int32)) (fun σ2 => bn (pI σ2 a0 1 (0 : Int32)) (fun σ7 => bn (pI σ7 a0 2 (0 : Int32)) (fun σ12 => jn (fun (σ_36 : Mm) => jn (fun (σ_95 : Mm) => some (0, σ_95)) (fun k95 => lq2 (F_X4_begin_38 a0 b1 k95) 1000000 (0 : Int32) σ_36)) (fun k36 => lq2 (F_X4_begin_17 a0 k36) 1000000 (0 : Int32) σ12))))))
set_option maxHeartbeats 4000000 in
set_option maxRecDepth 100000 in
theorem x_X4_begin (a0 : Nat) (b1 : Nat) (σ : Mm) : Con (wsOf SHC) yX4_begin cX4_begin 3 none 1 [.ref a0, .ref b1] σ (f_X4_begin a0 b1 σ) := by
  refine Con.of_X (by decide +kernel) (Nat.le_of_ble_eq_true rfl) ?_
  unfold f_X4_begin
  show X (wsOf SHC) RX4 cX4_begin 3 none 1 0 0 [(0, .ref a0), (1, .ref b1)] [] σ _
  refine X_ck (fun a0_h => ?_)
  obtain ⟨a0_s0, a0_s1, a0_s2, a0_s3, a0_s4, a0_s5, a0_s6⟩ := knNight a0_h
  refine X_ck (fun b1_h => ?_)
  obtain ⟨b1_s0, b1_s1, b1_s2, b1_s3, b1_s4, b1_s5, b1_s6, b1_s7, b1_s8, b1_s9, b1_s10, b1_s11, b1_s12, b1_s13, b1_s14⟩ := knTown b1_h
  refine X_aload_n (pc := 0) (td kX4_begin 0 rfl) rfl 0 rfl ?_
  refine X_iconst (v := (0 : Int32)) (pc := 1) (td kX4_begin 1 rfl) (by decide) ?_
  refine X_putI (pc := 2) a0_s0 rfl fk_X4_30 rfl rfl (td kX4_begin 2 rfl) (fun σ2 => ?_)
  refine X_aload_n (pc := 5) (td kX4_begin 3 rfl) rfl 0 rfl ?_
  refine X_iconst (v := (0 : Int32)) (pc := 6) (td kX4_begin 4 rfl) (by decide) ?_
  refine X_putI (pc := 7) a0_s0 rfl fk_X4_34 rfl rfl (td kX4_begin 5 rfl) (fun σ7 => ?_)
  refine X_aload_n (pc := 10) (td kX4_begin 6 rfl) rfl 0 rfl ?_
  refine X_iconst (v := (0 : Int32)) (pc := 11) (td kX4_begin 7 rfl) (by decide) ?_
  refine X_putI (pc := 12) a0_s0 rfl fk_X4_37 rfl rfl (td kX4_begin 8 rfl) (fun σ12 => ?_)
  refine X_iconst (v := (0 : Int32)) (pc := 15) (td kX4_begin 9 rfl) (by decide) ?_
  refine X_istore_n (L' := [(2, .int (0 : Int32)), (0, .ref a0), (1, .ref b1)]) (pc := 16) (td kX4_begin 10 rfl) rfl (by decide) rfl ?_
  refine X_jn (P := fun k => ∀ (σ_36 : Mm), X (wsOf SHC) RX4 cX4_begin 3 none 1 0 36 [(0, .ref a0), (1, .ref b1)] [] σ_36 (k σ_36)) (fun σ_36 => ?_) (fun k36 h36 => ?_)
  · refine X_iconst (v := (0 : Int32)) (pc := 36) (td kX4_begin 21 rfl) (by decide) ?_
    refine X_istore_n (L' := [(2, .int (0 : Int32)), (0, .ref a0), (1, .ref b1)]) (pc := 37) (td kX4_begin 22 rfl) rfl (by decide) rfl ?_
    refine X_jn (P := fun k => ∀ (σ_95 : Mm), X (wsOf SHC) RX4 cX4_begin 3 none 1 0 95 [] [] σ_95 (k σ_95)) (fun σ_95 => ?_) (fun k95 h95 => ?_)
    · exact X_retv (pc := 95) (td kX4_begin 58 rfl)
    · refine X_sub [1, 2, 0] rfl ?_
      refine lq2_ind (P := fun x2_38 σ_38 E => X (wsOf SHC) RX4 cX4_begin 3 none 1 0 38 [(0, .ref a0), (1, .ref b1), (2, .int x2_38)] [] σ_38 E) (fun _ _ => X_none) (fun rec38 hrec38 x2_38 σ_38 => ?_) _ _ _
      unfold F_X4_begin_38
      refine X_iload_n (pc := 38) (td kX4_begin 23 rfl) rfl 2 rfl ?_
      refine X_aload_n (pc := 39) (td kX4_begin 24 rfl) rfl 1 rfl ?_
      refine X_getI (pc := 40) b1_s0 rfl fk_X4_40 (td kX4_begin 25 rfl) ?_
      refine X_icmp_ge (pc := 43) (tgt := 95) (td kX4_begin 26 rfl) (by decide) (fun c_43 => ?_) (fun c_43 => ?_)
      · refine X_sub [] rfl ?_
        exact h95 σ_38
      · refine X_aload_n (pc := 46) (td kX4_begin 27 rfl) rfl 0 rfl ?_
        refine X_getF (b := (a0 + 2)) (pc := 47) a0_s0 rfl fk_X4_15 (td kX4_begin 28 rfl) ?_
        refine X_iload_n (pc := 50) (td kX4_begin 29 rfl) rfl 2 rfl ?_
        refine X_aload_n (pc := 51) (td kX4_begin 30 rfl) rfl 1 rfl ?_
        refine X_getF (b := (b1 + 10)) (pc := 52) b1_s0 rfl fk_X4_45 (td kX4_begin 31 rfl) ?_
        refine X_iload_n (pc := 55) (td kX4_begin 32 rfl) rfl 2 rfl ?_
        refine X_iald (pc := 56) b1_s10 (td kX4_begin 33 rfl) ?_
        refine X_iast (pc := 57) a0_s2 (td kX4_begin 34 rfl) (fun σ57 => ?_)
        refine X_aload_n (pc := 58) (td kX4_begin 35 rfl) rfl 0 rfl ?_
        refine X_getF (b := (a0 + 3)) (pc := 59) a0_s0 rfl fk_X4_18 (td kX4_begin 36 rfl) ?_
        refine X_iload_n (pc := 62) (td kX4_begin 37 rfl) rfl 2 rfl ?_
        refine X_aload_n (pc := 63) (td kX4_begin 38 rfl) rfl 1 rfl ?_
        refine X_getF (b := (b1 + 11)) (pc := 64) b1_s0 rfl fk_X4_48 (td kX4_begin 39 rfl) ?_
        refine X_iload_n (pc := 67) (td kX4_begin 40 rfl) rfl 2 rfl ?_
        refine X_iald (pc := 68) b1_s11 (td kX4_begin 41 rfl) ?_
        refine X_iast (pc := 69) a0_s3 (td kX4_begin 42 rfl) (fun σ69 => ?_)
        refine X_aload_n (pc := 70) (td kX4_begin 43 rfl) rfl 0 rfl ?_
        refine X_getF (b := (a0 + 4)) (pc := 71) a0_s0 rfl fk_X4_21 (td kX4_begin 44 rfl) ?_
        refine X_iload_n (pc := 74) (td kX4_begin 45 rfl) rfl 2 rfl ?_
        refine X_aload_n (pc := 75) (td kX4_begin 46 rfl) rfl 1 rfl ?_
        refine X_getF (b := (b1 + 12)) (pc := 76) b1_s0 rfl fk_X4_51 (td kX4_begin 47 rfl) ?_
        refine X_iload_n (pc := 79) (td kX4_begin 48 rfl) rfl 2 rfl ?_
        refine X_iald (pc := 80) b1_s12 (td kX4_begin 49 rfl) ?_
        refine X_iast (pc := 81) a0_s4 (td kX4_begin 50 rfl) (fun σ81 => ?_)
        refine X_aload_n (pc := 82) (td kX4_begin 51 rfl) rfl 0 rfl ?_
        refine X_getF (b := (a0 + 5)) (pc := 83) a0_s0 rfl fk_X4_24 (td kX4_begin 52 rfl) ?_
        refine X_iload_n (pc := 86) (td kX4_begin 53 rfl) rfl 2 rfl ?_
        refine X_iconst (v := (0 : Int32)) (pc := 87) (td kX4_begin 54 rfl) (by decide) ?_
        refine X_iast (pc := 88) a0_s5 (td kX4_begin 55 rfl) (fun σ88 => ?_)
        refine X_iinc (v := (x2_38 + (1 : Int32))) (L' := [(2, .int (x2_38 + (1 : Int32))), (0, .ref a0), (1, .ref b1)]) (pc := 89) (td kX4_begin 56 rfl) 2 rfl rfl (by decide) rfl ?_
        refine X_goto (pc := 92) (tgt := 38) (td kX4_begin 57 rfl) (by decide) ?_
        refine X_sub [1, 2, 0] rfl ?_
        exact hrec38 (x2_38 + (1 : Int32)) σ88
  · refine X_sub [1, 2, 0] rfl ?_
    refine lq2_ind (P := fun x2_17 σ_17 E => X (wsOf SHC) RX4 cX4_begin 3 none 1 0 17 [(0, .ref a0), (1, .ref b1), (2, .int x2_17)] [] σ_17 E) (fun _ _ => X_none) (fun rec17 hrec17 x2_17 σ_17 => ?_) _ _ _
    unfold F_X4_begin_17
    refine X_iload_n (pc := 17) (td kX4_begin 11 rfl) rfl 2 rfl ?_
    refine X_bipush (v := (8 : Int32)) (pc := 18) (td kX4_begin 12 rfl) (by decide) ?_
    refine X_icmp_ge (pc := 20) (tgt := 36) (td kX4_begin 13 rfl) (by decide) (fun c_20 => ?_) (fun c_20 => ?_)
    · refine X_sub [0, 1] rfl ?_
      exact h36 σ_17
    · refine X_aload_n (pc := 23) (td kX4_begin 14 rfl) rfl 0 rfl ?_
      refine X_getF (b := (a0 + 1)) (pc := 24) a0_s0 rfl fk_X4_9 (td kX4_begin 15 rfl) ?_
      refine X_iload_n (pc := 27) (td kX4_begin 16 rfl) rfl 2 rfl ?_
      refine X_iconst (v := (0 : Int32)) (pc := 28) (td kX4_begin 17 rfl) (by decide) ?_
      refine X_iast (pc := 29) a0_s1 (td kX4_begin 18 rfl) (fun σ29 => ?_)
      refine X_iinc (v := (x2_17 + (1 : Int32))) (L' := [(2, .int (x2_17 + (1 : Int32))), (0, .ref a0), (1, .ref b1)]) (pc := 30) (td kX4_begin 19 rfl) 2 rfl rfl (by decide) rfl ?_
      refine X_goto (pc := 33) (tgt := 17) (td kX4_begin 20 rfl) (by decide) ?_
      refine X_sub [1, 2, 0] rfl ?_
      exact hrec17 (x2_17 + (1 : Int32)) σ29
def f_X4_sendBoy (a0 : Nat) (b1 : Nat) (p2 : Int32) (σ : Mm) : Option (Int32 × Mm) := ck (isNight a0) (ck (isTown b1) (cl (f_X4_lightUp a0 b1 p2 (1 : Int32) (0 : Int32) σ) (fun _ σ5 => bn (pI σ5 a0 1 ((gI σ5 a0 1) + (gI σ5 b1 3))) (fun σ18 => some (0, σ18)))))
set_option maxHeartbeats 4000000 in
set_option maxRecDepth 100000 in
theorem x_X4_sendBoy (a0 : Nat) (b1 : Nat) (p2 : Int32) (σ : Mm) : Con (wsOf SHC) yX4_sendBoy cX4_sendBoy 3 none 4 [.ref a0, .ref b1, .int p2] σ (f_X4_sendBoy a0 b1 p2 σ) := by
  refine Con.of_X (by decide +kernel) (Nat.le_of_ble_eq_true rfl) ?_
  unfold f_X4_sendBoy
  show X (wsOf SHC) RX4 cX4_sendBoy 3 none 4 0 0 [(0, .ref a0), (1, .ref b1), (2, .int p2)] [] σ _
  refine X_ck (fun a0_h => ?_)
  obtain ⟨a0_s0, a0_s1, a0_s2, a0_s3, a0_s4, a0_s5, a0_s6⟩ := knNight a0_h
  refine X_ck (fun b1_h => ?_)
  obtain ⟨b1_s0, b1_s1, b1_s2, b1_s3, b1_s4, b1_s5, b1_s6, b1_s7, b1_s8, b1_s9, b1_s10, b1_s11, b1_s12, b1_s13, b1_s14⟩ := knTown b1_h
  refine X_aload_n (pc := 0) (td kX4_sendBoy 0 rfl) rfl 0 rfl ?_
  refine X_aload_n (pc := 1) (td kX4_sendBoy 1 rfl) rfl 1 rfl ?_
  refine X_iload_n (pc := 2) (td kX4_sendBoy 2 rfl) rfl 2 rfl ?_
  refine X_iconst (v := (1 : Int32)) (pc := 3) (td kX4_sendBoy 3 rfl) (by decide) ?_
  refine X_iconst (v := (0 : Int32)) (pc := 4) (td kX4_sendBoy 4 rfl) (by decide) ?_
  refine X_callv (pc := 5) (As := [.ref b1, .int p2, .int (1 : Int32), .int (0 : Int32)]) (st := []) a0_s0 (x_X4_lightUp a0 b1 p2 (1 : Int32) (0 : Int32) σ) mkX4_lightUp lk_X4_92 (by omega) rfl rfl (Nat.le_of_ble_eq_true rfl) (td kX4_sendBoy 5 rfl) (fun _ σ5 _ => ?_)
  refine X_aload_n (pc := 8) (td kX4_sendBoy 6 rfl) rfl 0 rfl ?_
  refine X_dup (pc := 9) (td kX4_sendBoy 7 rfl) rfl ?_
  refine X_getI (pc := 10) a0_s0 rfl fk_X4_34 (td kX4_sendBoy 8 rfl) ?_
  refine X_aload_n (pc := 13) (td kX4_sendBoy 9 rfl) rfl 1 rfl ?_
  refine X_getI (pc := 14) b1_s0 rfl fk_X4_118 (td kX4_sendBoy 10 rfl) ?_
  refine X_iadd (pc := 17) (td kX4_sendBoy 11 rfl) ?_
  refine X_putI (pc := 18) a0_s0 rfl fk_X4_34 rfl rfl (td kX4_sendBoy 12 rfl) (fun σ18 => ?_)
  exact X_retv (pc := 21) (td kX4_sendBoy 13 rfl)
def f_X4_putOff (a0 : Nat) (p1 : Int32) (σ : Mm) : Option (Int32 × Mm) := ck (isNight a0) (ck (inb p1 6) (ck (inb p1 6) (bn (pI σ (a0 + 4) p1.toNatClampNeg ((imx (gI σ (a0 + 4) p1.toNatClampNeg) (gI σ a0 0)) + (1 : Int32))) (fun σ20 => some (0, σ20)))))
set_option maxHeartbeats 4000000 in
set_option maxRecDepth 100000 in
theorem x_X4_putOff (a0 : Nat) (p1 : Int32) (σ : Mm) : Con (wsOf SHC) yX4_putOff cX4_putOff 2 none 1 [.ref a0, .int p1] σ (f_X4_putOff a0 p1 σ) := by
  refine Con.of_X (by decide +kernel) (Nat.le_of_ble_eq_true rfl) ?_
  unfold f_X4_putOff
  show X (wsOf SHC) RX4 cX4_putOff 2 none 1 0 0 [(0, .ref a0), (1, .int p1)] [] σ _
  refine X_ck (fun a0_h => ?_)
  obtain ⟨a0_s0, a0_s1, a0_s2, a0_s3, a0_s4, a0_s5, a0_s6⟩ := knNight a0_h
  refine X_aload_n (pc := 0) (td kX4_putOff 0 rfl) rfl 0 rfl ?_
  refine X_getF (b := (a0 + 4)) (pc := 1) a0_s0 rfl fk_X4_21 (td kX4_putOff 1 rfl) ?_
  refine X_iload_n (pc := 4) (td kX4_putOff 2 rfl) rfl 1 rfl ?_
  refine X_aload_n (pc := 5) (td kX4_putOff 3 rfl) rfl 0 rfl ?_
  refine X_getF (b := (a0 + 4)) (pc := 6) a0_s0 rfl fk_X4_21 (td kX4_putOff 4 rfl) ?_
  refine X_iload_n (pc := 9) (td kX4_putOff 5 rfl) rfl 1 rfl ?_
  refine X_iald (pc := 10) a0_s4 (td kX4_putOff 6 rfl) ?_
  refine X_aload_n (pc := 11) (td kX4_putOff 7 rfl) rfl 0 rfl ?_
  refine X_getI (pc := 12) a0_s0 rfl fk_X4_30 (td kX4_putOff 8 rfl) ?_
  refine X_mmax2 (pc := 15) (td kX4_putOff 9 rfl) lm_X4_121 (by omega) (Nat.le_of_ble_eq_true rfl) ?_
  refine X_iconst (v := (1 : Int32)) (pc := 18) (td kX4_putOff 10 rfl) (by decide) ?_
  refine X_iadd (pc := 19) (td kX4_putOff 11 rfl) ?_
  refine X_iast (pc := 20) a0_s4 (td kX4_putOff 12 rfl) (fun σ20 => ?_)
  exact X_retv (pc := 21) (td kX4_putOff 13 rfl)
def f_X4_bringHome (a0 : Nat) (p1 : Int32) (σ : Mm) : Option (Int32 × Mm) := ck (isNight a0) (ck (inb p1 6) (ck (inb p1 6) (bn (pI σ (a0 + 3) p1.toNatClampNeg (gI σ (a0 + 2) p1.toNatClampNeg)) (fun σ11 => ck (inb p1 6) (bn (pI σ11 (a0 + 5) p1.toNatClampNeg (0 : Int32)) (fun σ18 => some (0, σ18)))))))
set_option maxHeartbeats 4000000 in
set_option maxRecDepth 100000 in
theorem x_X4_bringHome (a0 : Nat) (p1 : Int32) (σ : Mm) : Con (wsOf SHC) yX4_bringHome cX4_bringHome 2 none 1 [.ref a0, .int p1] σ (f_X4_bringHome a0 p1 σ) := by
  refine Con.of_X (by decide +kernel) (Nat.le_of_ble_eq_true rfl) ?_
  unfold f_X4_bringHome
  show X (wsOf SHC) RX4 cX4_bringHome 2 none 1 0 0 [(0, .ref a0), (1, .int p1)] [] σ _
  refine X_ck (fun a0_h => ?_)
  obtain ⟨a0_s0, a0_s1, a0_s2, a0_s3, a0_s4, a0_s5, a0_s6⟩ := knNight a0_h
  refine X_aload_n (pc := 0) (td kX4_bringHome 0 rfl) rfl 0 rfl ?_
  refine X_getF (b := (a0 + 3)) (pc := 1) a0_s0 rfl fk_X4_18 (td kX4_bringHome 1 rfl) ?_
  refine X_iload_n (pc := 4) (td kX4_bringHome 2 rfl) rfl 1 rfl ?_
  refine X_aload_n (pc := 5) (td kX4_bringHome 3 rfl) rfl 0 rfl ?_
  refine X_getF (b := (a0 + 2)) (pc := 6) a0_s0 rfl fk_X4_15 (td kX4_bringHome 4 rfl) ?_
  refine X_iload_n (pc := 9) (td kX4_bringHome 5 rfl) rfl 1 rfl ?_
  refine X_iald (pc := 10) a0_s2 (td kX4_bringHome 6 rfl) ?_
  refine X_iast (pc := 11) a0_s3 (td kX4_bringHome 7 rfl) (fun σ11 => ?_)
  refine X_aload_n (pc := 12) (td kX4_bringHome 8 rfl) rfl 0 rfl ?_
  refine X_getF (b := (a0 + 5)) (pc := 13) a0_s0 rfl fk_X4_24 (td kX4_bringHome 9 rfl) ?_
  refine X_iload_n (pc := 16) (td kX4_bringHome 10 rfl) rfl 1 rfl ?_
  refine X_iconst (v := (0 : Int32)) (pc := 17) (td kX4_bringHome 11 rfl) (by decide) ?_
  refine X_iast (pc := 18) a0_s5 (td kX4_bringHome 12 rfl) (fun σ18 => ?_)
  exact X_retv (pc := 19) (td kX4_bringHome 13 rfl)
def f_X4_canTurn (a0 : Nat) (b1 : Nat) (p2 : Int32) (σ : Mm) : Option (Int32 × Mm) := ck (isNight a0) (ck (isTown b1) (ck (inb p2 6) (jn (some ((0 : Int32), σ)) (fun k23 => (if (gI σ (b1 + 9) p2.toNatClampNeg) = (3 : Int32) then k23 else cl (f_X4_isOut a0 b1 p2 σ) (fun r13 _ => (if r13 = 0 then k23 else some ((1 : Int32), σ))))))))
set_option maxHeartbeats 4000000 in
set_option maxRecDepth 100000 in
theorem x_X4_canTurn (a0 : Nat) (b1 : Nat) (p2 : Int32) (σ : Mm) : Con (wsOf SHC) yX4_canTurn cX4_canTurn 3 (some .boolean) 4 [.ref a0, .ref b1, .int p2] σ (f_X4_canTurn a0 b1 p2 σ) := by
  refine Con.of_X (by decide +kernel) (Nat.le_of_ble_eq_true rfl) ?_
  unfold f_X4_canTurn
  show X (wsOf SHC) RX4 cX4_canTurn 3 (some .boolean) 4 0 0 [(0, .ref a0), (1, .ref b1), (2, .int p2)] [] σ _
  refine X_ck (fun a0_h => ?_)
  obtain ⟨a0_s0, a0_s1, a0_s2, a0_s3, a0_s4, a0_s5, a0_s6⟩ := knNight a0_h
  refine X_ck (fun b1_h => ?_)
  obtain ⟨b1_s0, b1_s1, b1_s2, b1_s3, b1_s4, b1_s5, b1_s6, b1_s7, b1_s8, b1_s9, b1_s10, b1_s11, b1_s12, b1_s13, b1_s14⟩ := knTown b1_h
  refine X_aload_n (pc := 0) (td kX4_canTurn 0 rfl) rfl 1 rfl ?_
  refine X_getF (b := (b1 + 9)) (pc := 1) b1_s0 rfl fk_X4_102 (td kX4_canTurn 1 rfl) ?_
  refine X_iload_n (pc := 4) (td kX4_canTurn 2 rfl) rfl 2 rfl ?_
  refine X_iald (pc := 5) b1_s9 (td kX4_canTurn 3 rfl) ?_
  refine X_iconst (v := (3 : Int32)) (pc := 6) (td kX4_canTurn 4 rfl) (by decide) ?_
  refine X_jn (P := fun k => X (wsOf SHC) RX4 cX4_canTurn 3 (some .boolean) 4 0 23 [] [] σ k) ?_ (fun k23 h23 => ?_)
  · refine X_iconst (v := (0 : Int32)) (pc := 23) (td kX4_canTurn 13 rfl) (by decide) ?_
    exact X_ret (pc := 24) (td kX4_canTurn 14 rfl) rfl
  · refine X_icmp_eq (pc := 7) (tgt := 23) (td kX4_canTurn 5 rfl) (by decide) (fun c_7 => ?_) (fun c_7 => ?_)
    · refine X_sub [] rfl ?_
      exact h23
    · refine X_aload_n (pc := 10) (td kX4_canTurn 6 rfl) rfl 0 rfl ?_
      refine X_aload_n (pc := 11) (td kX4_canTurn 7 rfl) rfl 1 rfl ?_
      refine X_iload_n (pc := 12) (td kX4_canTurn 8 rfl) rfl 2 rfl ?_
      refine X_callip (pc := 13) (As := [.ref b1, .int p2]) (st := []) (p_X4_isOut a0 b1 p2 σ) a0_s0 (x_X4_isOut a0 b1 p2 σ) mkX4_isOut lk_X4_126 (by omega) rfl rfl (Nat.le_of_ble_eq_true rfl) (td kX4_canTurn 9 rfl) (fun r13 hr13 => ?_)
      refine X_if_eq (pc := 16) (tgt := 23) (td kX4_canTurn 10 rfl) (by decide) (fun c_16 => ?_) (fun c_16 => ?_)
      · refine X_sub [] rfl ?_
        exact h23
      · refine X_iconst (v := (1 : Int32)) (pc := 19) (td kX4_canTurn 11 rfl) (by decide) ?_
        refine X_goto (pc := 20) (tgt := 24) (td kX4_canTurn 12 rfl) (by decide) ?_
        exact X_ret (pc := 24) (td kX4_canTurn 14 rfl) rfl
set_option maxHeartbeats 4000000 in
theorem p_X4_canTurn (a0 : Nat) (b1 : Nat) (p2 : Int32) (σ : Mm) : Pu σ (f_X4_canTurn a0 b1 p2 σ) := by
  unfold f_X4_canTurn
  refine Pu_ck ?_
  refine Pu_ck ?_
  refine Pu_ck ?_
  refine Pu_jn (fun k => Pu σ (k)) ?_ (fun k23 h23 => ?_)
  · exact Pu_some
  · refine Pu_if ?_ ?_
    · exact h23
    · refine Pu_cl (fun _ _ => ?_)
      refine Pu_if ?_ ?_
      · exact h23
      · exact Pu_some
def f_X4_turn (a0 : Nat) (b1 : Nat) (p2 : Int32) (σ : Mm) : Option (Int32 × Mm) := ck (isNight a0) (ck (isTown b1) (ck (inb p2 6) (ck (inb p2 6) (bn (pI σ (a0 + 3) p2.toNatClampNeg (gI σ (b1 + 10) p2.toNatClampNeg)) (fun σ11 => some (0, σ11))))))
set_option maxHeartbeats 4000000 in
set_option maxRecDepth 100000 in
theorem x_X4_turn (a0 : Nat) (b1 : Nat) (p2 : Int32) (σ : Mm) : Con (wsOf SHC) yX4_turn cX4_turn 3 none 1 [.ref a0, .ref b1, .int p2] σ (f_X4_turn a0 b1 p2 σ) := by
  refine Con.of_X (by decide +kernel) (Nat.le_of_ble_eq_true rfl) ?_
  unfold f_X4_turn
  show X (wsOf SHC) RX4 cX4_turn 3 none 1 0 0 [(0, .ref a0), (1, .ref b1), (2, .int p2)] [] σ _
  refine X_ck (fun a0_h => ?_)
  obtain ⟨a0_s0, a0_s1, a0_s2, a0_s3, a0_s4, a0_s5, a0_s6⟩ := knNight a0_h
  refine X_ck (fun b1_h => ?_)
  obtain ⟨b1_s0, b1_s1, b1_s2, b1_s3, b1_s4, b1_s5, b1_s6, b1_s7, b1_s8, b1_s9, b1_s10, b1_s11, b1_s12, b1_s13, b1_s14⟩ := knTown b1_h
  refine X_aload_n (pc := 0) (td kX4_turn 0 rfl) rfl 0 rfl ?_
  refine X_getF (b := (a0 + 3)) (pc := 1) a0_s0 rfl fk_X4_18 (td kX4_turn 1 rfl) ?_
  refine X_iload_n (pc := 4) (td kX4_turn 2 rfl) rfl 2 rfl ?_
  refine X_aload_n (pc := 5) (td kX4_turn 3 rfl) rfl 1 rfl ?_
  refine X_getF (b := (b1 + 10)) (pc := 6) b1_s0 rfl fk_X4_45 (td kX4_turn 4 rfl) ?_
  refine X_iload_n (pc := 9) (td kX4_turn 5 rfl) rfl 2 rfl ?_
  refine X_iald (pc := 10) b1_s10 (td kX4_turn 6 rfl) ?_
  refine X_iast (pc := 11) a0_s3 (td kX4_turn 7 rfl) (fun σ11 => ?_)
  exact X_retv (pc := 12) (td kX4_turn 8 rfl)
def f_X4_obey (a0 : Nat) (b1 : Nat) (p2 : Int32) (p3 : Int32) (p4 : Int32) (σ : Mm) : Option (Int32 × Mm) := ck (isNight a0) (ck (isTown b1) ((if p2 = (8 : Int32) then cl (f_X4_pass a0 b1 (0 : Int32) σ) (fun _ σ9 => some ((1 : Int32), σ9)) else (if p2 = (9 : Int32) then cl (f_X9_laneBetween b1 p3 p4 σ) (fun r24 _ => cl (f_X9_hasLane b1 r24 σ) (fun r32 _ => (if r32 = 0 then some ((0 : Int32), σ) else cl (f_X4_sendBoy a0 b1 r24 σ) (fun _ σ44 => some ((1 : Int32), σ44))))) else cl (f_X9_hasWalker b1 p3 σ) (fun r51 _ => (if r51 = 0 then some ((0 : Int32), σ) else jn (jn (some ((0 : Int32), σ)) (fun k104 => (if p2 = (11 : Int32) then cl (f_X4_canTurn a0 b1 p3 σ) (fun r90 _ => (if r90 = 0 then k104 else cl (f_X4_turn a0 b1 p3 σ) (fun _ σ99 => some ((1 : Int32), σ99)))) else k104))) (fun k81 => (if p2 = (10 : Int32) then cl (f_X4_isHome a0 b1 p3 σ) (fun r68 _ => (if r68 = 0 then cl (f_X4_putOff a0 p3 σ) (fun _ σ76 => some ((1 : Int32), σ76)) else k81)) else k81))))))))
set_option maxHeartbeats 4000000 in
set_option maxRecDepth 100000 in
theorem x_X4_obey (a0 : Nat) (b1 : Nat) (p2 : Int32) (p3 : Int32) (p4 : Int32) (σ : Mm) : Con (wsOf SHC) yX4_obey cX4_obey 6 (some .boolean) 5 [.ref a0, .ref b1, .int p2, .int p3, .int p4] σ (f_X4_obey a0 b1 p2 p3 p4 σ) := by
  refine Con.of_X (by decide +kernel) (Nat.le_of_ble_eq_true rfl) ?_
  unfold f_X4_obey
  show X (wsOf SHC) RX4 cX4_obey 6 (some .boolean) 5 0 0 [(0, .ref a0), (1, .ref b1), (2, .int p2), (3, .int p3), (4, .int p4)] [] σ _
  refine X_ck (fun a0_h => ?_)
  obtain ⟨a0_s0, a0_s1, a0_s2, a0_s3, a0_s4, a0_s5, a0_s6⟩ := knNight a0_h
  refine X_ck (fun b1_h => ?_)
  obtain ⟨b1_s0, b1_s1, b1_s2, b1_s3, b1_s4, b1_s5, b1_s6, b1_s7, b1_s8, b1_s9, b1_s10, b1_s11, b1_s12, b1_s13, b1_s14⟩ := knTown b1_h
  refine X_iload_n (pc := 0) (td kX4_obey 0 rfl) rfl 2 rfl ?_
  refine X_bipush (v := (8 : Int32)) (pc := 1) (td kX4_obey 1 rfl) (by decide) ?_
  refine X_icmp_ne (pc := 3) (tgt := 14) (td kX4_obey 2 rfl) (by decide) (fun c_3 => ?_) (fun c_3 => ?_)
  · refine X_iload_n (pc := 14) (td kX4_obey 9 rfl) rfl 2 rfl ?_
    refine X_bipush (v := (9 : Int32)) (pc := 15) (td kX4_obey 10 rfl) (by decide) ?_
    refine X_icmp_ne (pc := 17) (tgt := 49) (td kX4_obey 11 rfl) (by decide) (fun c_17 => ?_) (fun c_17 => ?_)
    · refine X_aload_n (pc := 49) (td kX4_obey 29 rfl) rfl 1 rfl ?_
      refine X_iload_n (pc := 50) (td kX4_obey 30 rfl) rfl 3 rfl ?_
      refine X_callip (pc := 51) (As := [.int p3]) (st := []) (p_X9_hasWalker b1 p3 σ) b1_s0 (x_X9_hasWalker b1 p3 σ) mkX9_hasWalker lk_X4_141 (by omega) rfl rfl (Nat.le_of_ble_eq_true rfl) (td kX4_obey 31 rfl) (fun r51 hr51 => ?_)
      refine X_if_ne (pc := 54) (tgt := 59) (td kX4_obey 32 rfl) (by decide) (fun c_54 => ?_) (fun c_54 => ?_)
      · refine X_iload_n (pc := 59) (td kX4_obey 35 rfl) rfl 2 rfl ?_
        refine X_bipush (v := (10 : Int32)) (pc := 60) (td kX4_obey 36 rfl) (by decide) ?_
        refine X_jn (P := fun k => X (wsOf SHC) RX4 cX4_obey 6 (some .boolean) 5 0 81 [(0, .ref a0), (1, .ref b1), (2, .int p2), (3, .int p3)] [] σ k) ?_ (fun k81 h81 => ?_)
        · refine X_iload_n (pc := 81) (td kX4_obey 48 rfl) rfl 2 rfl ?_
          refine X_bipush (v := (11 : Int32)) (pc := 82) (td kX4_obey 49 rfl) (by decide) ?_
          refine X_jn (P := fun k => X (wsOf SHC) RX4 cX4_obey 6 (some .boolean) 5 0 104 [] [] σ k) ?_ (fun k104 h104 => ?_)
          · refine X_iconst (v := (0 : Int32)) (pc := 104) (td kX4_obey 62 rfl) (by decide) ?_
            exact X_ret (pc := 105) (td kX4_obey 63 rfl) rfl
          · refine X_icmp_ne (pc := 84) (tgt := 104) (td kX4_obey 50 rfl) (by decide) (fun c_84 => ?_) (fun c_84 => ?_)
            · refine X_sub [] rfl ?_
              exact h104
            · refine X_aload_n (pc := 87) (td kX4_obey 51 rfl) rfl 0 rfl ?_
              refine X_aload_n (pc := 88) (td kX4_obey 52 rfl) rfl 1 rfl ?_
              refine X_iload_n (pc := 89) (td kX4_obey 53 rfl) rfl 3 rfl ?_
              refine X_callip (pc := 90) (As := [.ref b1, .int p3]) (st := []) (p_X4_canTurn a0 b1 p3 σ) a0_s0 (x_X4_canTurn a0 b1 p3 σ) mkX4_canTurn lk_X4_148 (by omega) rfl rfl (Nat.le_of_ble_eq_true rfl) (td kX4_obey 54 rfl) (fun r90 hr90 => ?_)
              refine X_if_eq (pc := 93) (tgt := 104) (td kX4_obey 55 rfl) (by decide) (fun c_93 => ?_) (fun c_93 => ?_)
              · refine X_sub [] rfl ?_
                exact h104
              · refine X_aload_n (pc := 96) (td kX4_obey 56 rfl) rfl 0 rfl ?_
                refine X_aload_n (pc := 97) (td kX4_obey 57 rfl) rfl 1 rfl ?_
                refine X_iload_n (pc := 98) (td kX4_obey 58 rfl) rfl 3 rfl ?_
                refine X_callv (pc := 99) (As := [.ref b1, .int p3]) (st := []) a0_s0 (x_X4_turn a0 b1 p3 σ) mkX4_turn lk_X4_151 (by omega) rfl rfl (Nat.le_of_ble_eq_true rfl) (td kX4_obey 59 rfl) (fun _ σ99 _ => ?_)
                refine X_iconst (v := (1 : Int32)) (pc := 102) (td kX4_obey 60 rfl) (by decide) ?_
                exact X_ret (pc := 103) (td kX4_obey 61 rfl) rfl
        · refine X_icmp_ne (pc := 62) (tgt := 81) (td kX4_obey 37 rfl) (by decide) (fun c_62 => ?_) (fun c_62 => ?_)
          · refine X_sub [0, 1, 2, 3] rfl ?_
            exact h81
          · refine X_aload_n (pc := 65) (td kX4_obey 38 rfl) rfl 0 rfl ?_
            refine X_aload_n (pc := 66) (td kX4_obey 39 rfl) rfl 1 rfl ?_
            refine X_iload_n (pc := 67) (td kX4_obey 40 rfl) rfl 3 rfl ?_
            refine X_callip (pc := 68) (As := [.ref b1, .int p3]) (st := []) (p_X4_isHome a0 b1 p3 σ) a0_s0 (x_X4_isHome a0 b1 p3 σ) mkX4_isHome lk_X4_64 (by omega) rfl rfl (Nat.le_of_ble_eq_true rfl) (td kX4_obey 41 rfl) (fun r68 hr68 => ?_)
            refine X_if_ne (pc := 71) (tgt := 81) (td kX4_obey 42 rfl) (by decide) (fun c_71 => ?_) (fun c_71 => ?_)
            · refine X_sub [0, 1, 2, 3] rfl ?_
              exact h81
            · refine X_aload_n (pc := 74) (td kX4_obey 43 rfl) rfl 0 rfl ?_
              refine X_iload_n (pc := 75) (td kX4_obey 44 rfl) rfl 3 rfl ?_
              refine X_callv (pc := 76) (As := [.int p3]) (st := []) a0_s0 (x_X4_putOff a0 p3 σ) mkX4_putOff lk_X4_144 (by omega) rfl rfl (Nat.le_of_ble_eq_true rfl) (td kX4_obey 45 rfl) (fun _ σ76 _ => ?_)
              refine X_iconst (v := (1 : Int32)) (pc := 79) (td kX4_obey 46 rfl) (by decide) ?_
              exact X_ret (pc := 80) (td kX4_obey 47 rfl) rfl
      · refine X_iconst (v := (0 : Int32)) (pc := 57) (td kX4_obey 33 rfl) (by decide) ?_
        exact X_ret (pc := 58) (td kX4_obey 34 rfl) rfl
    · refine X_aload_n (pc := 20) (td kX4_obey 12 rfl) rfl 1 rfl ?_
      refine X_iload_n (pc := 21) (td kX4_obey 13 rfl) rfl 3 rfl ?_
      refine X_iload (pc := 22) (td kX4_obey 14 rfl) 4 rfl ?_
      refine X_callip (pc := 24) (As := [.int p3, .int p4]) (st := []) (p_X9_laneBetween b1 p3 p4 σ) b1_s0 (x_X9_laneBetween b1 p3 p4 σ) mkX9_laneBetween lk_X4_135 (by omega) rfl rfl (Nat.le_of_ble_eq_true rfl) (td kX4_obey 15 rfl) (fun r24 hr24 => ?_)
      refine X_istore (L' := [(5, .int r24), (0, .ref a0), (1, .ref b1), (2, .int p2), (3, .int p3), (4, .int p4)]) (pc := 27) (td kX4_obey 16 rfl) (by decide) rfl ?_
      refine X_aload_n (pc := 29) (td kX4_obey 17 rfl) rfl 2 rfl ?_
      refine X_iload (pc := 30) (td kX4_obey 18 rfl) 0 rfl ?_
      refine X_callip (pc := 32) (As := [.int r24]) (st := []) (p_X9_hasLane b1 r24 σ) b1_s0 (x_X9_hasLane b1 r24 σ) mkX9_hasLane lk_X4_84 (by omega) rfl rfl (Nat.le_of_ble_eq_true rfl) (td kX4_obey 19 rfl) (fun r32 hr32 => ?_)
      refine X_if_ne (pc := 35) (tgt := 40) (td kX4_obey 20 rfl) (by decide) (fun c_35 => ?_) (fun c_35 => ?_)
      · refine X_aload_n (pc := 40) (td kX4_obey 23 rfl) rfl 1 rfl ?_
        refine X_aload_n (pc := 41) (td kX4_obey 24 rfl) rfl 2 rfl ?_
        refine X_iload (pc := 42) (td kX4_obey 25 rfl) 0 rfl ?_
        refine X_callv (pc := 44) (As := [.ref b1, .int r24]) (st := []) a0_s0 (x_X4_sendBoy a0 b1 r24 σ) mkX4_sendBoy lk_X4_138 (by omega) rfl rfl (Nat.le_of_ble_eq_true rfl) (td kX4_obey 26 rfl) (fun _ σ44 _ => ?_)
        refine X_iconst (v := (1 : Int32)) (pc := 47) (td kX4_obey 27 rfl) (by decide) ?_
        exact X_ret (pc := 48) (td kX4_obey 28 rfl) rfl
      · refine X_iconst (v := (0 : Int32)) (pc := 38) (td kX4_obey 21 rfl) (by decide) ?_
        exact X_ret (pc := 39) (td kX4_obey 22 rfl) rfl
  · refine X_aload_n (pc := 6) (td kX4_obey 3 rfl) rfl 0 rfl ?_
    refine X_aload_n (pc := 7) (td kX4_obey 4 rfl) rfl 1 rfl ?_
    refine X_iconst (v := (0 : Int32)) (pc := 8) (td kX4_obey 5 rfl) (by decide) ?_
    refine X_callv (pc := 9) (As := [.ref b1, .int (0 : Int32)]) (st := []) a0_s0 (x_X4_pass a0 b1 (0 : Int32) σ) mkX4_pass lk_X4_131 (by omega) rfl rfl (Nat.le_of_ble_eq_true rfl) (td kX4_obey 6 rfl) (fun _ σ9 _ => ?_)
    refine X_iconst (v := (1 : Int32)) (pc := 12) (td kX4_obey 7 rfl) (by decide) ?_
    exact X_ret (pc := 13) (td kX4_obey 8 rfl) rfl
