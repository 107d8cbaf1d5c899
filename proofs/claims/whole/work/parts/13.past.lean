def f_X5_keep (b1 : Nat) (σ : Mm) : Option (Int32 × Mm) := ck (isNight b1) (bn ((gI σ 13 2) &&& (15 : Int32)) (fun i_11 => ck (inb i_11 16) (bn (nightAt i_11.toNatClampNeg) (fun t_11 => ck (isNight t_11) (cl (f_X4_copyFrom t_11 b1 σ) (fun _ σ19 => bn (pI σ19 13 2 (((gI σ19 13 2) + (1 : Int32)) &&& (15 : Int32))) (fun σ32 => bn (pI σ32 13 1 (imn ((gI σ32 13 1) + (1 : Int32)) (16 : Int32))) (fun σ47 => some (0, σ47)))))))))
set_option maxHeartbeats 4000000 in
set_option maxRecDepth 100000 in
theorem x_X5_keep (b1 : Nat) (σ : Mm) : Con (wsOf SHC) yX5_keep cX5_keep 3 none 2 [.ref 13, .ref b1] σ (f_X5_keep b1 σ) := by
  refine Con.of_X (by decide +kernel) (Nat.le_of_ble_eq_true rfl) ?_
  unfold f_X5_keep
  show X (wsOf SHC) RX5 cX5_keep 3 none 2 0 0 [(0, .ref 13), (1, .ref b1)] [] σ _
  refine X_ck (fun b1_h => ?_)
  obtain ⟨b1_s0, b1_s1, b1_s2, b1_s3, b1_s4, b1_s5, b1_s6⟩ := knNight b1_h
  refine X_aload_n (pc := 0) (td kX5_keep 0 rfl) rfl 0 rfl ?_
  refine X_getF (b := 14) (pc := 1) sC_13 rfl fk_X5_11 (td kX5_keep 1 rfl) ?_
  refine X_aload_n (pc := 4) (td kX5_keep 2 rfl) rfl 0 rfl ?_
  refine X_getI (pc := 5) sC_13 rfl fk_X5_20 (td kX5_keep 3 rfl) ?_
  refine X_bipush (v := (15 : Int32)) (pc := 8) (td kX5_keep 4 rfl) (by decide) ?_
  refine X_iand (pc := 10) (td kX5_keep 5 rfl) ?_
  refine X_bi (fun i_11 => ?_)
  refine X_aald (pc := 11) 5 (fun _ => rfl) sC_14 (td kX5_keep 6 rfl) ?_
  refine X_br (fun t_11 => ?_)
  refine X_astore_n (L' := [(2, .ref t_11), (0, .ref 13), (1, .ref b1)]) (pc := 12) (td kX5_keep 7 rfl) rfl (by decide) rfl ?_
  refine X_aload_n (pc := 13) (td kX5_keep 8 rfl) rfl 0 rfl ?_
  refine X_ifnull (pc := 14) (td kX5_keep 9 rfl) ?_
  refine X_aload_n (pc := 17) (td kX5_keep 10 rfl) rfl 0 rfl ?_
  refine X_aload_n (pc := 18) (td kX5_keep 11 rfl) rfl 2 rfl ?_
  refine X_ck (fun t_11_h => ?_)
  obtain ⟨t_11_s0, t_11_s1, t_11_s2, t_11_s3, t_11_s4, t_11_s5, t_11_s6⟩ := knNight t_11_h
  refine X_callv (pc := 19) (As := [.ref b1]) (st := []) t_11_s0 (x_X4_copyFrom t_11 b1 σ) mkX4_copyFrom lk_X5_23 (by omega) rfl rfl (Nat.le_of_ble_eq_true rfl) (td kX5_keep 12 rfl) (fun _ σ19 _ => ?_)
  refine X_aload_n (pc := 22) (td kX5_keep 13 rfl) rfl 1 rfl ?_
  refine X_aload_n (pc := 23) (td kX5_keep 14 rfl) rfl 1 rfl ?_
  refine X_getI (pc := 24) sC_13 rfl fk_X5_20 (td kX5_keep 15 rfl) ?_
  refine X_iconst (v := (1 : Int32)) (pc := 27) (td kX5_keep 16 rfl) (by decide) ?_
  refine X_iadd (pc := 28) (td kX5_keep 17 rfl) ?_
  refine X_bipush (v := (15 : Int32)) (pc := 29) (td kX5_keep 18 rfl) (by decide) ?_
  refine X_iand (pc := 31) (td kX5_keep 19 rfl) ?_
  refine X_putI (pc := 32) sC_13 rfl fk_X5_20 rfl rfl (td kX5_keep 20 rfl) (fun σ32 => ?_)
  refine X_aload_n (pc := 35) (td kX5_keep 21 rfl) rfl 1 rfl ?_
  refine X_aload_n (pc := 36) (td kX5_keep 22 rfl) rfl 1 rfl ?_
  refine X_getI (pc := 37) sC_13 rfl fk_X5_16 (td kX5_keep 23 rfl) ?_
  refine X_iconst (v := (1 : Int32)) (pc := 40) (td kX5_keep 24 rfl) (by decide) ?_
  refine X_iadd (pc := 41) (td kX5_keep 25 rfl) ?_
  refine X_bipush (v := (16 : Int32)) (pc := 42) (td kX5_keep 26 rfl) (by decide) ?_
  refine X_mmin2 (pc := 44) (td kX5_keep 27 rfl) lm_X5_27 (by omega) (Nat.le_of_ble_eq_true rfl) ?_
  refine X_putI (pc := 47) sC_13 rfl fk_X5_16 rfl rfl (td kX5_keep 28 rfl) (fun σ47 => ?_)
  exact X_retv (pc := 50) (td kX5_keep 29 rfl)
def f_X3_lay (a0 : Nat) (b1 : Nat) (b2 : Nat) (b3 : Nat) (σ : Mm) : Option (Int32 × Mm) := ck (isMark a0) (ck (isNight b1) (ck (isLines b2) (ck (isWatched b3) (bn (pI σ a0 0 (1 : Int32)) (fun σ2 => cl (f_X4_copyFrom (a0 + 1) b1 σ2) (fun _ σ10 => cl (f_X2_copyFrom (a0 + 8) b2 σ10) (fun _ σ18 => cl (f_X10_copyFrom (a0 + 12) b3 σ18) (fun _ σ26 => some (0, σ26)))))))))
set_option maxHeartbeats 4000000 in
set_option maxRecDepth 100000 in
theorem x_X3_lay (a0 : Nat) (b1 : Nat) (b2 : Nat) (b3 : Nat) (σ : Mm) : Con (wsOf SHC) yX3_lay cX3_lay 4 none 2 [.ref a0, .ref b1, .ref b2, .ref b3] σ (f_X3_lay a0 b1 b2 b3 σ) := by
  refine Con.of_X (by decide +kernel) (Nat.le_of_ble_eq_true rfl) ?_
  unfold f_X3_lay
  show X (wsOf SHC) RX3 cX3_lay 4 none 2 0 0 [(0, .ref a0), (1, .ref b1), (2, .ref b2), (3, .ref b3)] [] σ _
  refine X_ck (fun a0_h => ?_)
  obtain ⟨a0_s0, a0_s1, a0_s2, a0_s3, a0_s4, a0_s5, a0_s6, a0_s7, a0_s8, a0_s9, a0_s10, a0_s11, a0_s12, a0_s13, a0_s14, a0_s15⟩ := knMark a0_h
  refine X_ck (fun b1_h => ?_)
  obtain ⟨b1_s0, b1_s1, b1_s2, b1_s3, b1_s4, b1_s5, b1_s6⟩ := knNight b1_h
  refine X_ck (fun b2_h => ?_)
  obtain ⟨b2_s0, b2_s1, b2_s2, b2_s3⟩ := knLines b2_h
  refine X_ck (fun b3_h => ?_)
  obtain ⟨b3_s0, b3_s1, b3_s2, b3_s3⟩ := knWatched b3_h
  refine X_aload_n (pc := 0) (td kX3_lay 0 rfl) rfl 0 rfl ?_
  refine X_iconst (v := (1 : Int32)) (pc := 1) (td kX3_lay 1 rfl) (by decide) ?_
  refine X_putI (pc := 2) a0_s0 rfl fk_X3_30 rfl rfl (td kX3_lay 2 rfl) (fun σ2 => ?_)
  refine X_aload_n (pc := 5) (td kX3_lay 3 rfl) rfl 0 rfl ?_
  refine X_getF (b := (a0 + 1)) (pc := 6) a0_s0 rfl fk_X3_10 (td kX3_lay 4 rfl) ?_
  refine X_aload_n (pc := 9) (td kX3_lay 5 rfl) rfl 1 rfl ?_
  refine X_callv (pc := 10) (As := [.ref b1]) (st := []) a0_s1 (x_X4_copyFrom (a0 + 1) b1 σ2) mkX4_copyFrom lk_X3_34 (by omega) rfl rfl (Nat.le_of_ble_eq_true rfl) (td kX3_lay 6 rfl) (fun _ σ10 _ => ?_)
  refine X_aload_n (pc := 13) (td kX3_lay 7 rfl) rfl 0 rfl ?_
  refine X_getF (b := (a0 + 8)) (pc := 14) a0_s0 rfl fk_X3_19 (td kX3_lay 8 rfl) ?_
  refine X_aload_n (pc := 17) (td kX3_lay 9 rfl) rfl 2 rfl ?_
  refine X_callv (pc := 18) (As := [.ref b2]) (st := []) a0_s8 (x_X2_copyFrom (a0 + 8) b2 σ10) mkX2_copyFrom lk_X3_38 (by omega) rfl rfl (Nat.le_of_ble_eq_true rfl) (td kX3_lay 10 rfl) (fun _ σ18 _ => ?_)
  refine X_aload_n (pc := 21) (td kX3_lay 11 rfl) rfl 0 rfl ?_
  refine X_getF (b := (a0 + 12)) (pc := 22) a0_s0 rfl fk_X3_26 (td kX3_lay 12 rfl) ?_
  refine X_aload_n (pc := 25) (td kX3_lay 13 rfl) rfl 3 rfl ?_
  refine X_callv (pc := 26) (As := [.ref b3]) (st := []) a0_s12 (x_X10_copyFrom (a0 + 12) b3 σ18) mkX10_copyFrom lk_X3_41 (by omega) rfl rfl (Nat.le_of_ble_eq_true rfl) (td kX3_lay 14 rfl) (fun _ σ26 _ => ?_)
  exact X_retv (pc := 29) (td kX3_lay 15 rfl)
def f_X5_forget (σ : Mm) : Option (Int32 × Mm) := bn (pI σ 13 1 (0 : Int32)) (fun σ2 => some (0, σ2))
set_option maxHeartbeats 4000000 in
set_option maxRecDepth 100000 in
theorem x_X5_forget (σ : Mm) : Con (wsOf SHC) yX5_forget cX5_forget 1 none 1 [.ref 13] σ (f_X5_forget σ) := by
  refine Con.of_X (by decide +kernel) (Nat.le_of_ble_eq_true rfl) ?_
  unfold f_X5_forget
  show X (wsOf SHC) RX5 cX5_forget 1 none 1 0 0 [(0, .ref 13)] [] σ _
  refine X_aload_n (pc := 0) (td kX5_forget 0 rfl) rfl 0 rfl ?_
  refine X_iconst (v := (0 : Int32)) (pc := 1) (td kX5_forget 1 rfl) (by decide) ?_
  refine X_putI (pc := 2) sC_13 rfl fk_X5_16 rfl rfl (td kX5_forget 2 rfl) (fun σ2 => ?_)
  exact X_retv (pc := 5) (td kX5_forget 3 rfl)
def f_X5_bringBack (b1 : Nat) (σ : Mm) : Option (Int32 × Mm) := ck (isNight b1) (bn (((gI σ 13 2) - (1 : Int32)) &&& (15 : Int32)) (fun i_13 => ck (inb i_13 16) (bn (nightAt i_13.toNatClampNeg) (fun t_13 => jn (some ((0 : Int32), σ)) (fun k26 => (if (gI σ 13 1) = 0 then k26 else cl (f_X4_copyFrom b1 t_13 σ) (fun _ σ30 => bn (pI σ30 13 2 (((gI σ30 13 2) - (1 : Int32)) &&& (15 : Int32))) (fun σ43 => bn (pI σ43 13 1 ((gI σ43 13 1) - (1 : Int32))) (fun σ53 => some ((1 : Int32), σ53))))))))))
set_option maxHeartbeats 4000000 in
set_option maxRecDepth 100000 in
theorem x_X5_bringBack (b1 : Nat) (σ : Mm) : Con (wsOf SHC) yX5_bringBack cX5_bringBack 3 (some .boolean) 2 [.ref 13, .ref b1] σ (f_X5_bringBack b1 σ) := by
  refine Con.of_X (by decide +kernel) (Nat.le_of_ble_eq_true rfl) ?_
  unfold f_X5_bringBack
  show X (wsOf SHC) RX5 cX5_bringBack 3 (some .boolean) 2 0 0 [(0, .ref 13), (1, .ref b1)] [] σ _
  refine X_ck (fun b1_h => ?_)
  obtain ⟨b1_s0, b1_s1, b1_s2, b1_s3, b1_s4, b1_s5, b1_s6⟩ := knNight b1_h
  refine X_aload_n (pc := 0) (td kX5_bringBack 0 rfl) rfl 0 rfl ?_
  refine X_getF (b := 14) (pc := 1) sC_13 rfl fk_X5_11 (td kX5_bringBack 1 rfl) ?_
  refine X_aload_n (pc := 4) (td kX5_bringBack 2 rfl) rfl 0 rfl ?_
  refine X_getI (pc := 5) sC_13 rfl fk_X5_20 (td kX5_bringBack 3 rfl) ?_
  refine X_iconst (v := (1 : Int32)) (pc := 8) (td kX5_bringBack 4 rfl) (by decide) ?_
  refine X_isub (pc := 9) (td kX5_bringBack 5 rfl) ?_
  refine X_bipush (v := (15 : Int32)) (pc := 10) (td kX5_bringBack 6 rfl) (by decide) ?_
  refine X_iand (pc := 12) (td kX5_bringBack 7 rfl) ?_
  refine X_bi (fun i_13 => ?_)
  refine X_aald (pc := 13) 5 (fun _ => rfl) sC_14 (td kX5_bringBack 8 rfl) ?_
  refine X_br (fun t_13 => ?_)
  refine X_astore_n (L' := [(2, .ref t_13), (0, .ref 13), (1, .ref b1)]) (pc := 14) (td kX5_bringBack 9 rfl) rfl (by decide) rfl ?_
  refine X_aload_n (pc := 15) (td kX5_bringBack 10 rfl) rfl 1 rfl ?_
  refine X_getI (pc := 16) sC_13 rfl fk_X5_16 (td kX5_bringBack 11 rfl) ?_
  refine X_jn (P := fun k => X (wsOf SHC) RX5 cX5_bringBack 3 (some .boolean) 2 0 26 [] [] σ k) ?_ (fun k26 h26 => ?_)
  · refine X_iconst (v := (0 : Int32)) (pc := 26) (td kX5_bringBack 15 rfl) (by decide) ?_
    exact X_ret (pc := 27) (td kX5_bringBack 16 rfl) rfl
  · refine X_if_eq (pc := 19) (tgt := 26) (td kX5_bringBack 12 rfl) (by decide) (fun c_19 => ?_) (fun c_19 => ?_)
    · refine X_sub [] rfl ?_
      exact h26
    · refine X_aload_n (pc := 22) (td kX5_bringBack 13 rfl) rfl 0 rfl ?_
      refine X_ifnonnull (pc := 23) (tgt := 28) (td kX5_bringBack 14 rfl) (by decide) ?_
      refine X_aload_n (pc := 28) (td kX5_bringBack 17 rfl) rfl 2 rfl ?_
      refine X_aload_n (pc := 29) (td kX5_bringBack 18 rfl) rfl 0 rfl ?_
      refine X_callv (pc := 30) (As := [.ref t_13]) (st := []) b1_s0 (x_X4_copyFrom b1 t_13 σ) mkX4_copyFrom lk_X5_23 (by omega) rfl rfl (Nat.le_of_ble_eq_true rfl) (td kX5_bringBack 19 rfl) (fun _ σ30 _ => ?_)
      refine X_aload_n (pc := 33) (td kX5_bringBack 20 rfl) rfl 1 rfl ?_
      refine X_aload_n (pc := 34) (td kX5_bringBack 21 rfl) rfl 1 rfl ?_
      refine X_getI (pc := 35) sC_13 rfl fk_X5_20 (td kX5_bringBack 22 rfl) ?_
      refine X_iconst (v := (1 : Int32)) (pc := 38) (td kX5_bringBack 23 rfl) (by decide) ?_
      refine X_isub (pc := 39) (td kX5_bringBack 24 rfl) ?_
      refine X_bipush (v := (15 : Int32)) (pc := 40) (td kX5_bringBack 25 rfl) (by decide) ?_
      refine X_iand (pc := 42) (td kX5_bringBack 26 rfl) ?_
      refine X_putI (pc := 43) sC_13 rfl fk_X5_20 rfl rfl (td kX5_bringBack 27 rfl) (fun σ43 => ?_)
      refine X_aload_n (pc := 46) (td kX5_bringBack 28 rfl) rfl 1 rfl ?_
      refine X_dup (pc := 47) (td kX5_bringBack 29 rfl) rfl ?_
      refine X_getI (pc := 48) sC_13 rfl fk_X5_16 (td kX5_bringBack 30 rfl) ?_
      refine X_iconst (v := (1 : Int32)) (pc := 51) (td kX5_bringBack 31 rfl) (by decide) ?_
      refine X_isub (pc := 52) (td kX5_bringBack 32 rfl) ?_
      refine X_putI (pc := 53) sC_13 rfl fk_X5_16 rfl rfl (td kX5_bringBack 33 rfl) (fun σ53 => ?_)
      refine X_iconst (v := (1 : Int32)) (pc := 56) (td kX5_bringBack 34 rfl) (by decide) ?_
      exact X_ret (pc := 57) (td kX5_bringBack 35 rfl) rfl
