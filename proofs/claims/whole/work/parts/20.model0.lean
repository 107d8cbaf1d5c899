def F_X12_burning_4 (σ : Mm) (k41 : Int32 → Option (Int32 × Mm)) (rec4 : Int32 → Int32 → Option (Int32 × Mm)) (x1_4 : Int32) (x2_4 : Int32) : Option (Int32 × Mm) := ck (inb (1 : Int32) 8) ((if x2_4 < (gI σ 2 (1 : Int32).toNatClampNeg) then bn ((3 : Int32) + x2_4) (fun i_22 => ck (inb i_22 41) (jn (fun (y1_33 : Int32) => bn (x1_4 ||| y1_33) (fun v1_34 => rec4 v1_34 (x2_4 + (1 : Int32)))) (fun k33 => (if 0 < (gI σ 36 i_22.toNatClampNeg) then k33 ((1 : Int32) <<< (x2_4 &&& 31)) else k33 (0 : Int32))))) else k41 x1_4))
def f_X12_burning (σ : Mm) : Option (Int32 × Mm) := jn (fun (x1_41 : Int32) => some (x1_41, σ)) (fun k41 => lq2 (F_X12_burning_4 σ k41) 1000000 (0 : Int32) (0 : Int32))
set_option maxHeartbeats 4000000 in
set_option maxRecDepth 100000 in
theorem x_X12_burning (σ : Mm) : Con (wsOf SHM) yX12_burning cX12_burning 3 (some .int) 1 [.ref 0] σ (f_X12_burning σ) := by
  refine Con.of_X (by decide +kernel) (Nat.le_of_ble_eq_true rfl) ?_
  unfold f_X12_burning
  show X (wsOf SHM) RX12 cX12_burning 3 (some .int) 1 0 0 [(0, .ref 0)] [] σ _
  refine X_iconst (v := (0 : Int32)) (pc := 0) (td kX12_burning 0 rfl) (by decide) ?_
  refine X_istore_n (L' := [(1, .int (0 : Int32)), (0, .ref 0)]) (pc := 1) (td kX12_burning 1 rfl) rfl (by decide) rfl ?_
  refine X_iconst (v := (0 : Int32)) (pc := 2) (td kX12_burning 2 rfl) (by decide) ?_
  refine X_istore_n (L' := [(2, .int (0 : Int32)), (1, .int (0 : Int32)), (0, .ref 0)]) (pc := 3) (td kX12_burning 3 rfl) rfl (by decide) rfl ?_
  refine X_jn (P := fun k => ∀ (x1_41 : Int32), X (wsOf SHM) RX12 cX12_burning 3 (some .int) 1 0 41 [(1, .int x1_41)] [] σ (k x1_41)) (fun x1_41 => ?_) (fun k41 h41 => ?_)
  · refine X_iload_n (pc := 41) (td kX12_burning 27 rfl) rfl 0 rfl ?_
    exact X_ret (pc := 42) (td kX12_burning 28 rfl) rfl
  · refine X_sub [2, 1, 0] rfl ?_
    refine lq2_ind (P := fun x1_4 x2_4 E => X (wsOf SHM) RX12 cX12_burning 3 (some .int) 1 0 4 [(0, .ref 0), (1, .int x1_4), (2, .int x2_4)] [] σ E) (fun _ _ => X_none) (fun rec4 hrec4 x1_4 x2_4 => ?_) _ _ _
    unfold F_X12_burning_4
    refine X_iload_n (pc := 4) (td kX12_burning 4 rfl) rfl 2 rfl ?_
    refine X_aload_n (pc := 5) (td kX12_burning 5 rfl) rfl 0 rfl ?_
    refine X_getF (b := 2) (pc := 6) sM_0 rfl fk_X12_13 (td kX12_burning 6 rfl) ?_
    refine X_iconst (v := (1 : Int32)) (pc := 9) (td kX12_burning 7 rfl) (by decide) ?_
    refine X_iald (pc := 10) sM_2 (td kX12_burning 8 rfl) ?_
    refine X_icmp_ge (pc := 11) (tgt := 41) (td kX12_burning 9 rfl) (by decide) (fun c_11 => ?_) (fun c_11 => ?_)
    · refine X_sub [1] rfl ?_
      exact h41 x1_4
    · refine X_iload_n (pc := 14) (td kX12_burning 10 rfl) rfl 1 rfl ?_
      refine X_aload_n (pc := 15) (td kX12_burning 11 rfl) rfl 0 rfl ?_
      refine X_getF (b := 36) (pc := 16) sM_0 rfl fk_X12_117 (td kX12_burning 12 rfl) ?_
      refine X_iconst (v := (3 : Int32)) (pc := 19) (td kX12_burning 13 rfl) (by decide) ?_
      refine X_iload_n (pc := 20) (td kX12_burning 14 rfl) rfl 2 rfl ?_
      refine X_iadd (pc := 21) (td kX12_burning 15 rfl) ?_
      refine X_bi (fun i_22 => ?_)
      refine X_iald (pc := 22) sM_36 (td kX12_burning 16 rfl) ?_
      refine X_jn (P := fun k => ∀ (y1_33 : Int32), X (wsOf SHM) RX12 cX12_burning 3 (some .int) 1 0 33 [(0, .ref 0), (2, .int x2_4)] [.int y1_33, .int x1_4] σ (k y1_33)) (fun y1_33 => ?_) (fun k33 h33 => ?_)
      · refine X_ior (pc := 33) (td kX12_burning 23 rfl) ?_
        refine X_bi (fun v1_34 => ?_)
        refine X_istore_n (L' := [(1, .int v1_34), (0, .ref 0), (2, .int x2_4)]) (pc := 34) (td kX12_burning 24 rfl) rfl (by decide) rfl ?_
        refine X_iinc (v := (x2_4 + (1 : Int32))) (L' := [(2, .int (x2_4 + (1 : Int32))), (1, .int v1_34), (0, .ref 0)]) (pc := 35) (td kX12_burning 25 rfl) 2 rfl rfl (by decide) rfl ?_
        refine X_goto (pc := 38) (tgt := 4) (td kX12_burning 26 rfl) (by decide) ?_
        refine X_sub [2, 1, 0] rfl ?_
        exact hrec4 v1_34 (x2_4 + (1 : Int32))
      · refine X_if_le (pc := 23) (tgt := 32) (td kX12_burning 17 rfl) (by decide) (fun c_23 => ?_) (fun c_23 => ?_)
        · refine X_iconst (v := (0 : Int32)) (pc := 32) (td kX12_burning 22 rfl) (by decide) ?_
          refine X_sub [0, 2] rfl ?_
          exact h33 (0 : Int32)
        · refine X_iconst (v := (1 : Int32)) (pc := 26) (td kX12_burning 18 rfl) (by decide) ?_
          refine X_iload_n (pc := 27) (td kX12_burning 19 rfl) rfl 2 rfl ?_
          refine X_ishl (pc := 28) (td kX12_burning 20 rfl) ?_
          refine X_goto (pc := 29) (tgt := 33) (td kX12_burning 21 rfl) (by decide) ?_
          refine X_sub [0, 2] rfl ?_
          exact h33 ((1 : Int32) <<< (x2_4 &&& 31))
set_option maxHeartbeats 4000000 in
theorem p_X12_burning (σ : Mm) : Pu σ (f_X12_burning σ) := by
  unfold f_X12_burning
  refine Pu_jn (fun k => ∀ (x1_41 : Int32), Pu σ (k x1_41)) (fun x1_41 => ?_) (fun k41 h41 => ?_)
  · exact Pu_some
  · refine lq2_ind (P := fun _ _ E => Pu σ E) (fun _ _ => Pu_none) (fun rec4 hrec4 x1_4 x2_4 => ?_) _ _ _
    unfold F_X12_burning_4
    refine Pu_ck ?_
    refine Pu_if ?_ ?_
    · refine Pu_bn (fun _ => ?_)
      refine Pu_ck ?_
      refine Pu_jn (fun k => ∀ (y1_33 : Int32), Pu σ (k y1_33)) (fun y1_33 => ?_) (fun k33 h33 => ?_)
      · refine Pu_bn (fun _ => ?_)
        exact hrec4 _ _
      · refine Pu_if ?_ ?_
        · exact h33 _
        · exact h33 _
    · exact h41 _
def f_X12_isHome (p1 : Int32) (σ : Mm) : Option (Int32 × Mm) := jn (some ((1 : Int32), σ)) (fun k76 => (if (((gI σ 0 57) >>> (p1 &&& 31)) &&& (1 : Int32)) = 0 then k76 else bn ((29 : Int32) + p1) (fun i_19 => ck (inb i_19 41) (jn (some ((0 : Int32), σ)) (fun k80 => (if (gI σ 36 i_19.toNatClampNeg) = 0 then bn ((11 : Int32) + p1) (fun i_31 => ck (inb i_31 41) (bn ((17 : Int32) + p1) (fun i_40 => ck (inb i_40 41) ((if (gI σ 36 i_31.toNatClampNeg) = (gI σ 36 i_40.toNatClampNeg) then k76 else bn ((11 : Int32) + p1) (fun i_58 => ck (inb i_58 41) (bn ((17 : Int32) + p1) (fun i_68 => ck (inb i_68 41) (bn (((6 : Int32) * (gI σ 36 i_58.toNatClampNeg)) + (gI σ 36 i_68.toNatClampNeg)) (fun i_70 => ck (inb i_70 36) ((if (gI σ 27 i_70.toNatClampNeg) < (99 : Int32) then k80 else k76)))))))))))) else k80))))))
set_option maxHeartbeats 4000000 in
set_option maxRecDepth 100000 in
theorem x_X12_isHome (p1 : Int32) (σ : Mm) : Con (wsOf SHM) yX12_isHome cX12_isHome 2 (some .boolean) 1 [.ref 0, .int p1] σ (f_X12_isHome p1 σ) := by
  refine Con.of_X (by decide +kernel) (Nat.le_of_ble_eq_true rfl) ?_
  unfold f_X12_isHome
  show X (wsOf SHM) RX12 cX12_isHome 2 (some .boolean) 1 0 0 [(0, .ref 0), (1, .int p1)] [] σ _
  refine X_aload_n (pc := 0) (td kX12_isHome 0 rfl) rfl 0 rfl ?_
  refine X_getI (pc := 1) sM_0 rfl fk_X12_135 (td kX12_isHome 1 rfl) ?_
  refine X_iload_n (pc := 4) (td kX12_isHome 2 rfl) rfl 1 rfl ?_
  refine X_ishr (pc := 5) (td kX12_isHome 3 rfl) ?_
  refine X_iconst (v := (1 : Int32)) (pc := 6) (td kX12_isHome 4 rfl) (by decide) ?_
  refine X_iand (pc := 7) (td kX12_isHome 5 rfl) ?_
  refine X_jn (P := fun k => X (wsOf SHM) RX12 cX12_isHome 2 (some .boolean) 1 0 76 [] [] σ k) ?_ (fun k76 h76 => ?_)
  · refine X_iconst (v := (1 : Int32)) (pc := 76) (td kX12_isHome 47 rfl) (by decide) ?_
    refine X_goto (pc := 77) (tgt := 81) (td kX12_isHome 48 rfl) (by decide) ?_
    exact X_ret (pc := 81) (td kX12_isHome 50 rfl) rfl
  · refine X_if_eq (pc := 8) (tgt := 76) (td kX12_isHome 6 rfl) (by decide) (fun c_8 => ?_) (fun c_8 => ?_)
    · refine X_sub [] rfl ?_
      exact h76
    · refine X_aload_n (pc := 11) (td kX12_isHome 7 rfl) rfl 0 rfl ?_
      refine X_getF (b := 36) (pc := 12) sM_0 rfl fk_X12_117 (td kX12_isHome 8 rfl) ?_
      refine X_bipush (v := (29 : Int32)) (pc := 15) (td kX12_isHome 9 rfl) (by decide) ?_
      refine X_iload_n (pc := 17) (td kX12_isHome 10 rfl) rfl 1 rfl ?_
      refine X_iadd (pc := 18) (td kX12_isHome 11 rfl) ?_
      refine X_bi (fun i_19 => ?_)
      refine X_iald (pc := 19) sM_36 (td kX12_isHome 12 rfl) ?_
      refine X_jn (P := fun k => X (wsOf SHM) RX12 cX12_isHome 2 (some .boolean) 1 0 80 [] [] σ k) ?_ (fun k80 h80 => ?_)
      · refine X_iconst (v := (0 : Int32)) (pc := 80) (td kX12_isHome 49 rfl) (by decide) ?_
        exact X_ret (pc := 81) (td kX12_isHome 50 rfl) rfl
      · refine X_if_ne (pc := 20) (tgt := 80) (td kX12_isHome 13 rfl) (by decide) (fun c_20 => ?_) (fun c_20 => ?_)
        · refine X_sub [] rfl ?_
          exact h80
        · refine X_aload_n (pc := 23) (td kX12_isHome 14 rfl) rfl 0 rfl ?_
          refine X_getF (b := 36) (pc := 24) sM_0 rfl fk_X12_117 (td kX12_isHome 15 rfl) ?_
          refine X_bipush (v := (11 : Int32)) (pc := 27) (td kX12_isHome 16 rfl) (by decide) ?_
          refine X_iload_n (pc := 29) (td kX12_isHome 17 rfl) rfl 1 rfl ?_
          refine X_iadd (pc := 30) (td kX12_isHome 18 rfl) ?_
          refine X_bi (fun i_31 => ?_)
          refine X_iald (pc := 31) sM_36 (td kX12_isHome 19 rfl) ?_
          refine X_aload_n (pc := 32) (td kX12_isHome 20 rfl) rfl 0 rfl ?_
          refine X_getF (b := 36) (pc := 33) sM_0 rfl fk_X12_117 (td kX12_isHome 21 rfl) ?_
          refine X_bipush (v := (17 : Int32)) (pc := 36) (td kX12_isHome 22 rfl) (by decide) ?_
          refine X_iload_n (pc := 38) (td kX12_isHome 23 rfl) rfl 1 rfl ?_
          refine X_iadd (pc := 39) (td kX12_isHome 24 rfl) ?_
          refine X_bi (fun i_40 => ?_)
          refine X_iald (pc := 40) sM_36 (td kX12_isHome 25 rfl) ?_
          refine X_icmp_eq (pc := 41) (tgt := 76) (td kX12_isHome 26 rfl) (by decide) (fun c_41 => ?_) (fun c_41 => ?_)
          · refine X_sub [] rfl ?_
            exact h76
          · refine X_aload_n (pc := 44) (td kX12_isHome 27 rfl) rfl 0 rfl ?_
            refine X_getF (b := 27) (pc := 45) sM_0 rfl fk_X12_90 (td kX12_isHome 28 rfl) ?_
            refine X_bipush (v := (6 : Int32)) (pc := 48) (td kX12_isHome 29 rfl) (by decide) ?_
            refine X_aload_n (pc := 50) (td kX12_isHome 30 rfl) rfl 0 rfl ?_
            refine X_getF (b := 36) (pc := 51) sM_0 rfl fk_X12_117 (td kX12_isHome 31 rfl) ?_
            refine X_bipush (v := (11 : Int32)) (pc := 54) (td kX12_isHome 32 rfl) (by decide) ?_
            refine X_iload_n (pc := 56) (td kX12_isHome 33 rfl) rfl 1 rfl ?_
            refine X_iadd (pc := 57) (td kX12_isHome 34 rfl) ?_
            refine X_bi (fun i_58 => ?_)
            refine X_iald (pc := 58) sM_36 (td kX12_isHome 35 rfl) ?_
            refine X_imul (pc := 59) (td kX12_isHome 36 rfl) ?_
            refine X_aload_n (pc := 60) (td kX12_isHome 37 rfl) rfl 0 rfl ?_
            refine X_getF (b := 36) (pc := 61) sM_0 rfl fk_X12_117 (td kX12_isHome 38 rfl) ?_
            refine X_bipush (v := (17 : Int32)) (pc := 64) (td kX12_isHome 39 rfl) (by decide) ?_
            refine X_iload_n (pc := 66) (td kX12_isHome 40 rfl) rfl 1 rfl ?_
            refine X_iadd (pc := 67) (td kX12_isHome 41 rfl) ?_
            refine X_bi (fun i_68 => ?_)
            refine X_iald (pc := 68) sM_36 (td kX12_isHome 42 rfl) ?_
            refine X_iadd (pc := 69) (td kX12_isHome 43 rfl) ?_
            refine X_bi (fun i_70 => ?_)
            refine X_iald (pc := 70) sM_27 (td kX12_isHome 44 rfl) ?_
            refine X_bipush (v := (99 : Int32)) (pc := 71) (td kX12_isHome 45 rfl) (by decide) ?_
            refine X_icmp_lt (pc := 73) (tgt := 80) (td kX12_isHome 46 rfl) (by decide) (fun c_73 => ?_) (fun c_73 => ?_)
            · refine X_sub [] rfl ?_
              exact h80
            · refine X_sub [] rfl ?_
              exact h76
set_option maxHeartbeats 4000000 in
theorem p_X12_isHome (p1 : Int32) (σ : Mm) : Pu σ (f_X12_isHome p1 σ) := by
  unfold f_X12_isHome
  refine Pu_jn (fun k => Pu σ (k)) ?_ (fun k76 h76 => ?_)
  · exact Pu_some
  · refine Pu_if ?_ ?_
    · exact h76
    · refine Pu_bn (fun _ => ?_)
      refine Pu_ck ?_
      refine Pu_jn (fun k => Pu σ (k)) ?_ (fun k80 h80 => ?_)
      · exact Pu_some
      · refine Pu_if ?_ ?_
        · refine Pu_bn (fun _ => ?_)
          refine Pu_ck ?_
          refine Pu_bn (fun _ => ?_)
          refine Pu_ck ?_
          refine Pu_if ?_ ?_
          · exact h76
          · refine Pu_bn (fun _ => ?_)
            refine Pu_ck ?_
            refine Pu_bn (fun _ => ?_)
            refine Pu_ck ?_
            refine Pu_bn (fun _ => ?_)
            refine Pu_ck ?_
            refine Pu_if ?_ ?_
            · exact h80
            · exact h76
        · exact h80
def f_X12_isOut (p1 : Int32) (σ : Mm) : Option (Int32 × Mm) := cl (f_X12_isHome p1 σ) (fun r2 _ => jn (some ((0 : Int32), σ)) (fun k30 => (if r2 = 0 then ck (inb (0 : Int32) 41) (bn ((23 : Int32) + p1) (fun i_22 => ck (inb i_22 41) ((if (gI σ 36 (0 : Int32).toNatClampNeg) < (gI σ 36 i_22.toNatClampNeg) then k30 else some ((1 : Int32), σ))))) else k30)))
set_option maxHeartbeats 4000000 in
set_option maxRecDepth 100000 in
theorem x_X12_isOut (p1 : Int32) (σ : Mm) : Con (wsOf SHM) yX12_isOut cX12_isOut 2 (some .boolean) 2 [.ref 0, .int p1] σ (f_X12_isOut p1 σ) := by
  refine Con.of_X (by decide +kernel) (Nat.le_of_ble_eq_true rfl) ?_
  unfold f_X12_isOut
  show X (wsOf SHM) RX12 cX12_isOut 2 (some .boolean) 2 0 0 [(0, .ref 0), (1, .int p1)] [] σ _
  refine X_aload_n (pc := 0) (td kX12_isOut 0 rfl) rfl 0 rfl ?_
  refine X_iload_n (pc := 1) (td kX12_isOut 1 rfl) rfl 1 rfl ?_
  refine X_callip (pc := 2) (As := [.int p1]) (st := []) (p_X12_isHome p1 σ) sM_0 (x_X12_isHome p1 σ) mkX12_isHome lk_X12_387 (by omega) rfl rfl (Nat.le_of_ble_eq_true rfl) (td kX12_isOut 2 rfl) (fun r2 hr2 => ?_)
  refine X_jn (P := fun k => X (wsOf SHM) RX12 cX12_isOut 2 (some .boolean) 2 0 30 [] [] σ k) ?_ (fun k30 h30 => ?_)
  · refine X_iconst (v := (0 : Int32)) (pc := 30) (td kX12_isOut 17 rfl) (by decide) ?_
    exact X_ret (pc := 31) (td kX12_isOut 18 rfl) rfl
  · refine X_if_ne (pc := 5) (tgt := 30) (td kX12_isOut 3 rfl) (by decide) (fun c_5 => ?_) (fun c_5 => ?_)
    · refine X_sub [] rfl ?_
      exact h30
    · refine X_aload_n (pc := 8) (td kX12_isOut 4 rfl) rfl 0 rfl ?_
      refine X_getF (b := 36) (pc := 9) sM_0 rfl fk_X12_117 (td kX12_isOut 5 rfl) ?_
      refine X_iconst (v := (0 : Int32)) (pc := 12) (td kX12_isOut 6 rfl) (by decide) ?_
      refine X_iald (pc := 13) sM_36 (td kX12_isOut 7 rfl) ?_
      refine X_aload_n (pc := 14) (td kX12_isOut 8 rfl) rfl 0 rfl ?_
      refine X_getF (b := 36) (pc := 15) sM_0 rfl fk_X12_117 (td kX12_isOut 9 rfl) ?_
      refine X_bipush (v := (23 : Int32)) (pc := 18) (td kX12_isOut 10 rfl) (by decide) ?_
      refine X_iload_n (pc := 20) (td kX12_isOut 11 rfl) rfl 1 rfl ?_
      refine X_iadd (pc := 21) (td kX12_isOut 12 rfl) ?_
      refine X_bi (fun i_22 => ?_)
      refine X_iald (pc := 22) sM_36 (td kX12_isOut 13 rfl) ?_
      refine X_icmp_lt (pc := 23) (tgt := 30) (td kX12_isOut 14 rfl) (by decide) (fun c_23 => ?_) (fun c_23 => ?_)
      · refine X_sub [] rfl ?_
        exact h30
      · refine X_iconst (v := (1 : Int32)) (pc := 26) (td kX12_isOut 15 rfl) (by decide) ?_
        refine X_goto (pc := 27) (tgt := 31) (td kX12_isOut 16 rfl) (by decide) ?_
        exact X_ret (pc := 31) (td kX12_isOut 18 rfl) rfl
set_option maxHeartbeats 4000000 in
theorem p_X12_isOut (p1 : Int32) (σ : Mm) : Pu σ (f_X12_isOut p1 σ) := by
  unfold f_X12_isOut
  refine Pu_cl (fun _ _ => ?_)
  refine Pu_jn (fun k => Pu σ (k)) ?_ (fun k30 h30 => ?_)
  · exact Pu_some
  · refine Pu_if ?_ ?_
    · refine Pu_ck ?_
      refine Pu_bn (fun _ => ?_)
      refine Pu_ck ?_
      refine Pu_if ?_ ?_
      · exact h30
      · exact Pu_some
    · exact h30
def F_X12_laneOf_6 (p1 : Int32) (p2 : Int32) (p3 : Int32) (σ : Mm) (k84 : Option (Int32 × Mm)) (rec6 : Int32 → Option (Int32 × Mm)) (x4_6 : Int32) : Option (Int32 × Mm) := bn (((4 : Int32) * p1) + (1 : Int32)) (fun i_21 => ck (inb i_21 8) ((if x4_6 < (((8 : Int32) * p1) + (gI σ 2 i_21.toNatClampNeg)) then ck (inb x4_6 16) (jn (some ((x4_6 - ((8 : Int32) * p1)), σ)) (fun k70 => jn (ck (inb x4_6 16) (jn (rec6 (x4_6 + (1 : Int32))) (fun k78 => (if (gI σ 5 x4_6.toNatClampNeg) = p3 then ck (inb x4_6 16) ((if (gI σ 6 x4_6.toNatClampNeg) = p2 then k70 else k78)) else k78)))) (fun k48 => (if (gI σ 5 x4_6.toNatClampNeg) = p2 then ck (inb x4_6 16) ((if (gI σ 6 x4_6.toNatClampNeg) = p3 then k70 else k48)) else k48)))) else k84)))
def f_X12_laneOf (p1 : Int32) (p2 : Int32) (p3 : Int32) (σ : Mm) : Option (Int32 × Mm) := bn ((8 : Int32) * p1) (fun v4_4 => jn (some ((-1 : Int32), σ)) (fun k84 => lq1 (F_X12_laneOf_6 p1 p2 p3 σ k84) 1000000 v4_4))
set_option maxHeartbeats 4000000 in
set_option maxRecDepth 100000 in
theorem x_X12_laneOf (p1 : Int32) (p2 : Int32) (p3 : Int32) (σ : Mm) : Con (wsOf SHM) yX12_laneOf cX12_laneOf 5 (some .int) 1 [.ref 0, .int p1, .int p2, .int p3] σ (f_X12_laneOf p1 p2 p3 σ) := by
  refine Con.of_X (by decide +kernel) (Nat.le_of_ble_eq_true rfl) ?_
  unfold f_X12_laneOf
  show X (wsOf SHM) RX12 cX12_laneOf 5 (some .int) 1 0 0 [(0, .ref 0), (1, .int p1), (2, .int p2), (3, .int p3)] [] σ _
  refine X_bipush (v := (8 : Int32)) (pc := 0) (td kX12_laneOf 0 rfl) (by decide) ?_
  refine X_iload_n (pc := 2) (td kX12_laneOf 1 rfl) rfl 1 rfl ?_
  refine X_imul (pc := 3) (td kX12_laneOf 2 rfl) ?_
  refine X_bi (fun v4_4 => ?_)
  refine X_istore (L' := [(4, .int v4_4), (0, .ref 0), (1, .int p1), (2, .int p2), (3, .int p3)]) (pc := 4) (td kX12_laneOf 3 rfl) (by decide) rfl ?_
  refine X_jn (P := fun k => X (wsOf SHM) RX12 cX12_laneOf 5 (some .int) 1 0 84 [] [] σ k) ?_ (fun k84 h84 => ?_)
  · refine X_iconst (v := (-1 : Int32)) (pc := 84) (td kX12_laneOf 50 rfl) (by decide) ?_
    exact X_ret (pc := 85) (td kX12_laneOf 51 rfl) rfl
  · refine X_sub [1, 2, 3, 4, 0] rfl ?_
    refine lq1_ind (P := fun x4_6 E => X (wsOf SHM) RX12 cX12_laneOf 5 (some .int) 1 0 6 [(0, .ref 0), (1, .int p1), (2, .int p2), (3, .int p3), (4, .int x4_6)] [] σ E) (fun _ => X_none) (fun rec6 hrec6 x4_6 => ?_) _ _
    unfold F_X12_laneOf_6
    refine X_iload (pc := 6) (td kX12_laneOf 4 rfl) 4 rfl ?_
    refine X_bipush (v := (8 : Int32)) (pc := 8) (td kX12_laneOf 5 rfl) (by decide) ?_
    refine X_iload_n (pc := 10) (td kX12_laneOf 6 rfl) rfl 1 rfl ?_
    refine X_imul (pc := 11) (td kX12_laneOf 7 rfl) ?_
    refine X_aload_n (pc := 12) (td kX12_laneOf 8 rfl) rfl 0 rfl ?_
    refine X_getF (b := 2) (pc := 13) sM_0 rfl fk_X12_13 (td kX12_laneOf 9 rfl) ?_
    refine X_iconst (v := (4 : Int32)) (pc := 16) (td kX12_laneOf 10 rfl) (by decide) ?_
    refine X_iload_n (pc := 17) (td kX12_laneOf 11 rfl) rfl 1 rfl ?_
    refine X_imul (pc := 18) (td kX12_laneOf 12 rfl) ?_
    refine X_iconst (v := (1 : Int32)) (pc := 19) (td kX12_laneOf 13 rfl) (by decide) ?_
    refine X_iadd (pc := 20) (td kX12_laneOf 14 rfl) ?_
    refine X_bi (fun i_21 => ?_)
    refine X_iald (pc := 21) sM_2 (td kX12_laneOf 15 rfl) ?_
    refine X_iadd (pc := 22) (td kX12_laneOf 16 rfl) ?_
    refine X_icmp_ge (pc := 23) (tgt := 84) (td kX12_laneOf 17 rfl) (by decide) (fun c_23 => ?_) (fun c_23 => ?_)
    · refine X_sub [] rfl ?_
      exact h84
    · refine X_aload_n (pc := 26) (td kX12_laneOf 18 rfl) rfl 0 rfl ?_
      refine X_getF (b := 5) (pc := 27) sM_0 rfl fk_X12_23 (td kX12_laneOf 19 rfl) ?_
      refine X_iload (pc := 30) (td kX12_laneOf 20 rfl) 4 rfl ?_
      refine X_iald (pc := 32) sM_5 (td kX12_laneOf 21 rfl) ?_
      refine X_iload_n (pc := 33) (td kX12_laneOf 22 rfl) rfl 2 rfl ?_
      refine X_jn (P := fun k => X (wsOf SHM) RX12 cX12_laneOf 5 (some .int) 1 0 70 [(1, .int p1), (4, .int x4_6)] [] σ k) ?_ (fun k70 h70 => ?_)
      · refine X_iload (pc := 70) (td kX12_laneOf 42 rfl) 1 rfl ?_
        refine X_bipush (v := (8 : Int32)) (pc := 72) (td kX12_laneOf 43 rfl) (by decide) ?_
        refine X_iload_n (pc := 74) (td kX12_laneOf 44 rfl) rfl 0 rfl ?_
        refine X_imul (pc := 75) (td kX12_laneOf 45 rfl) ?_
        refine X_isub (pc := 76) (td kX12_laneOf 46 rfl) ?_
        exact X_ret (pc := 77) (td kX12_laneOf 47 rfl) rfl
      · refine X_jn (P := fun k => X (wsOf SHM) RX12 cX12_laneOf 5 (some .int) 1 0 48 [(0, .ref 0), (1, .int p1), (2, .int p2), (3, .int p3), (4, .int x4_6)] [] σ k) ?_ (fun k48 h48 => ?_)
        · refine X_aload_n (pc := 48) (td kX12_laneOf 30 rfl) rfl 0 rfl ?_
          refine X_getF (b := 5) (pc := 49) sM_0 rfl fk_X12_23 (td kX12_laneOf 31 rfl) ?_
          refine X_iload (pc := 52) (td kX12_laneOf 32 rfl) 4 rfl ?_
          refine X_iald (pc := 54) sM_5 (td kX12_laneOf 33 rfl) ?_
          refine X_iload_n (pc := 55) (td kX12_laneOf 34 rfl) rfl 3 rfl ?_
          refine X_jn (P := fun k => X (wsOf SHM) RX12 cX12_laneOf 5 (some .int) 1 0 78 [(0, .ref 0), (1, .int p1), (2, .int p2), (3, .int p3), (4, .int x4_6)] [] σ k) ?_ (fun k78 h78 => ?_)
          · refine X_iinc (v := (x4_6 + (1 : Int32))) (L' := [(4, .int (x4_6 + (1 : Int32))), (0, .ref 0), (1, .int p1), (2, .int p2), (3, .int p3)]) (pc := 78) (td kX12_laneOf 48 rfl) 4 rfl rfl (by decide) rfl ?_
            refine X_goto (pc := 81) (tgt := 6) (td kX12_laneOf 49 rfl) (by decide) ?_
            refine X_sub [1, 2, 3, 4, 0] rfl ?_
            exact hrec6 (x4_6 + (1 : Int32))
          · refine X_icmp_ne (pc := 56) (tgt := 78) (td kX12_laneOf 35 rfl) (by decide) (fun c_56 => ?_) (fun c_56 => ?_)
            · exact h78
            · refine X_aload_n (pc := 59) (td kX12_laneOf 36 rfl) rfl 0 rfl ?_
              refine X_getF (b := 6) (pc := 60) sM_0 rfl fk_X12_26 (td kX12_laneOf 37 rfl) ?_
              refine X_iload (pc := 63) (td kX12_laneOf 38 rfl) 4 rfl ?_
              refine X_iald (pc := 65) sM_6 (td kX12_laneOf 39 rfl) ?_
              refine X_iload_n (pc := 66) (td kX12_laneOf 40 rfl) rfl 2 rfl ?_
              refine X_icmp_ne (pc := 67) (tgt := 78) (td kX12_laneOf 41 rfl) (by decide) (fun c_67 => ?_) (fun c_67 => ?_)
              · exact h78
              · refine X_sub [1, 4] rfl ?_
                exact h70
        · refine X_icmp_ne (pc := 34) (tgt := 48) (td kX12_laneOf 23 rfl) (by decide) (fun c_34 => ?_) (fun c_34 => ?_)
          · exact h48
          · refine X_aload_n (pc := 37) (td kX12_laneOf 24 rfl) rfl 0 rfl ?_
            refine X_getF (b := 6) (pc := 38) sM_0 rfl fk_X12_26 (td kX12_laneOf 25 rfl) ?_
            refine X_iload (pc := 41) (td kX12_laneOf 26 rfl) 4 rfl ?_
            refine X_iald (pc := 43) sM_6 (td kX12_laneOf 27 rfl) ?_
            refine X_iload_n (pc := 44) (td kX12_laneOf 28 rfl) rfl 3 rfl ?_
            refine X_icmp_eq (pc := 45) (tgt := 70) (td kX12_laneOf 29 rfl) (by decide) (fun c_45 => ?_) (fun c_45 => ?_)
            · refine X_sub [1, 4] rfl ?_
              exact h70
            · exact h48
set_option maxHeartbeats 4000000 in
theorem p_X12_laneOf (p1 : Int32) (p2 : Int32) (p3 : Int32) (σ : Mm) : Pu σ (f_X12_laneOf p1 p2 p3 σ) := by
  unfold f_X12_laneOf
  refine Pu_bn (fun _ => ?_)
  refine Pu_jn (fun k => Pu σ (k)) ?_ (fun k84 h84 => ?_)
  · exact Pu_some
  · refine lq1_ind (P := fun _ E => Pu σ E) (fun _ => Pu_none) (fun rec6 hrec6 x4_6 => ?_) _ _
    unfold F_X12_laneOf_6
    refine Pu_bn (fun _ => ?_)
    refine Pu_ck ?_
    refine Pu_if ?_ ?_
    · refine Pu_ck ?_
      refine Pu_jn (fun k => Pu σ (k)) ?_ (fun k70 h70 => ?_)
      · exact Pu_some
      · refine Pu_jn (fun k => Pu σ (k)) ?_ (fun k48 h48 => ?_)
        · refine Pu_ck ?_
          refine Pu_jn (fun k => Pu σ (k)) ?_ (fun k78 h78 => ?_)
          · exact hrec6 _
          · refine Pu_if ?_ ?_
            · refine Pu_ck ?_
              refine Pu_if ?_ ?_
              · exact h70
              · exact h78
            · exact h78
        · refine Pu_if ?_ ?_
          · refine Pu_ck ?_
            refine Pu_if ?_ ?_
            · exact h70
            · exact h48
          · exact h48
    · exact h84
def F_X12_nextPlace_2 (p1 : Int32) (p2 : Int32) (σ : Mm) (k57 : Option (Int32 × Mm)) (rec2 : Int32 → Option (Int32 × Mm)) (x3_2 : Int32) : Option (Int32 × Mm) := ck (inb (0 : Int32) 8) ((if x3_2 < (gI σ 2 (0 : Int32).toNatClampNeg) then cl (f_X12_laneOf (0 : Int32) p1 x3_2 σ) (fun r16 _ => jn (rec2 (x3_2 + (1 : Int32))) (fun k51 => (if r16 < 0 then k51 else bn (((6 : Int32) * x3_2) + p2) (fun i_32 => ck (inb i_32 36) (bn (((6 : Int32) * p1) + p2) (fun i_43 => ck (inb i_43 36) ((if (gI σ 27 i_32.toNatClampNeg) = ((gI σ 27 i_43.toNatClampNeg) - (1 : Int32)) then some (x3_2, σ) else k51)))))))) else k57))
def f_X12_nextPlace (p1 : Int32) (p2 : Int32) (σ : Mm) : Option (Int32 × Mm) := jn (some ((-1 : Int32), σ)) (fun k57 => lq1 (F_X12_nextPlace_2 p1 p2 σ k57) 1000000 (0 : Int32))
set_option maxHeartbeats 4000000 in
set_option maxRecDepth 100000 in
theorem x_X12_nextPlace (p1 : Int32) (p2 : Int32) (σ : Mm) : Con (wsOf SHM) yX12_nextPlace cX12_nextPlace 4 (some .int) 2 [.ref 0, .int p1, .int p2] σ (f_X12_nextPlace p1 p2 σ) := by
  refine Con.of_X (by decide +kernel) (Nat.le_of_ble_eq_true rfl) ?_
  unfold f_X12_nextPlace
  show X (wsOf SHM) RX12 cX12_nextPlace 4 (some .int) 2 0 0 [(0, .ref 0), (1, .int p1), (2, .int p2)] [] σ _
  refine X_iconst (v := (0 : Int32)) (pc := 0) (td kX12_nextPlace 0 rfl) (by decide) ?_
  refine X_istore_n (L' := [(3, .int (0 : Int32)), (0, .ref 0), (1, .int p1), (2, .int p2)]) (pc := 1) (td kX12_nextPlace 1 rfl) rfl (by decide) rfl ?_
  refine X_jn (P := fun k => X (wsOf SHM) RX12 cX12_nextPlace 4 (some .int) 2 0 57 [] [] σ k) ?_ (fun k57 h57 => ?_)
  · refine X_iconst (v := (-1 : Int32)) (pc := 57) (td kX12_nextPlace 37 rfl) (by decide) ?_
    exact X_ret (pc := 58) (td kX12_nextPlace 38 rfl) rfl
  · refine X_sub [1, 2, 3, 0] rfl ?_
    refine lq1_ind (P := fun x3_2 E => X (wsOf SHM) RX12 cX12_nextPlace 4 (some .int) 2 0 2 [(0, .ref 0), (1, .int p1), (2, .int p2), (3, .int x3_2)] [] σ E) (fun _ => X_none) (fun rec2 hrec2 x3_2 => ?_) _ _
    unfold F_X12_nextPlace_2
    refine X_iload_n (pc := 2) (td kX12_nextPlace 2 rfl) rfl 3 rfl ?_
    refine X_aload_n (pc := 3) (td kX12_nextPlace 3 rfl) rfl 0 rfl ?_
    refine X_getF (b := 2) (pc := 4) sM_0 rfl fk_X12_13 (td kX12_nextPlace 4 rfl) ?_
    refine X_iconst (v := (0 : Int32)) (pc := 7) (td kX12_nextPlace 5 rfl) (by decide) ?_
    refine X_iald (pc := 8) sM_2 (td kX12_nextPlace 6 rfl) ?_
    refine X_icmp_ge (pc := 9) (tgt := 57) (td kX12_nextPlace 7 rfl) (by decide) (fun c_9 => ?_) (fun c_9 => ?_)
    · refine X_sub [] rfl ?_
      exact h57
    · refine X_aload_n (pc := 12) (td kX12_nextPlace 8 rfl) rfl 0 rfl ?_
      refine X_iconst (v := (0 : Int32)) (pc := 13) (td kX12_nextPlace 9 rfl) (by decide) ?_
      refine X_iload_n (pc := 14) (td kX12_nextPlace 10 rfl) rfl 1 rfl ?_
      refine X_iload_n (pc := 15) (td kX12_nextPlace 11 rfl) rfl 3 rfl ?_
      refine X_callip (pc := 16) (As := [.int (0 : Int32), .int p1, .int x3_2]) (st := []) (p_X12_laneOf (0 : Int32) p1 x3_2 σ) sM_0 (x_X12_laneOf (0 : Int32) p1 x3_2 σ) mkX12_laneOf lk_X12_321 (by omega) rfl rfl (Nat.le_of_ble_eq_true rfl) (td kX12_nextPlace 12 rfl) (fun r16 hr16 => ?_)
      refine X_jn (P := fun k => X (wsOf SHM) RX12 cX12_nextPlace 4 (some .int) 2 0 51 [(0, .ref 0), (1, .int p1), (2, .int p2), (3, .int x3_2)] [] σ k) ?_ (fun k51 h51 => ?_)
      · refine X_iinc (v := (x3_2 + (1 : Int32))) (L' := [(3, .int (x3_2 + (1 : Int32))), (0, .ref 0), (1, .int p1), (2, .int p2)]) (pc := 51) (td kX12_nextPlace 35 rfl) 3 rfl rfl (by decide) rfl ?_
        refine X_goto (pc := 54) (tgt := 2) (td kX12_nextPlace 36 rfl) (by decide) ?_
        refine X_sub [1, 2, 3, 0] rfl ?_
        exact hrec2 (x3_2 + (1 : Int32))
      · refine X_if_lt (pc := 19) (tgt := 51) (td kX12_nextPlace 13 rfl) (by decide) (fun c_19 => ?_) (fun c_19 => ?_)
        · exact h51
        · refine X_aload_n (pc := 22) (td kX12_nextPlace 14 rfl) rfl 0 rfl ?_
          refine X_getF (b := 27) (pc := 23) sM_0 rfl fk_X12_90 (td kX12_nextPlace 15 rfl) ?_
          refine X_bipush (v := (6 : Int32)) (pc := 26) (td kX12_nextPlace 16 rfl) (by decide) ?_
          refine X_iload_n (pc := 28) (td kX12_nextPlace 17 rfl) rfl 3 rfl ?_
          refine X_imul (pc := 29) (td kX12_nextPlace 18 rfl) ?_
          refine X_iload_n (pc := 30) (td kX12_nextPlace 19 rfl) rfl 2 rfl ?_
          refine X_iadd (pc := 31) (td kX12_nextPlace 20 rfl) ?_
          refine X_bi (fun i_32 => ?_)
          refine X_iald (pc := 32) sM_27 (td kX12_nextPlace 21 rfl) ?_
          refine X_aload_n (pc := 33) (td kX12_nextPlace 22 rfl) rfl 0 rfl ?_
          refine X_getF (b := 27) (pc := 34) sM_0 rfl fk_X12_90 (td kX12_nextPlace 23 rfl) ?_
          refine X_bipush (v := (6 : Int32)) (pc := 37) (td kX12_nextPlace 24 rfl) (by decide) ?_
          refine X_iload_n (pc := 39) (td kX12_nextPlace 25 rfl) rfl 1 rfl ?_
          refine X_imul (pc := 40) (td kX12_nextPlace 26 rfl) ?_
          refine X_iload_n (pc := 41) (td kX12_nextPlace 27 rfl) rfl 2 rfl ?_
          refine X_iadd (pc := 42) (td kX12_nextPlace 28 rfl) ?_
          refine X_bi (fun i_43 => ?_)
          refine X_iald (pc := 43) sM_27 (td kX12_nextPlace 29 rfl) ?_
          refine X_iconst (v := (1 : Int32)) (pc := 44) (td kX12_nextPlace 30 rfl) (by decide) ?_
          refine X_isub (pc := 45) (td kX12_nextPlace 31 rfl) ?_
          refine X_icmp_ne (pc := 46) (tgt := 51) (td kX12_nextPlace 32 rfl) (by decide) (fun c_46 => ?_) (fun c_46 => ?_)
          · exact h51
          · refine X_iload_n (pc := 49) (td kX12_nextPlace 33 rfl) rfl 3 rfl ?_
            exact X_ret (pc := 50) (td kX12_nextPlace 34 rfl) rfl
set_option maxHeartbeats 4000000 in
theorem p_X12_nextPlace (p1 : Int32) (p2 : Int32) (σ : Mm) : Pu σ (f_X12_nextPlace p1 p2 σ) := by
  unfold f_X12_nextPlace
  refine Pu_jn (fun k => Pu σ (k)) ?_ (fun k57 h57 => ?_)
  · exact Pu_some
  · refine lq1_ind (P := fun _ E => Pu σ E) (fun _ => Pu_none) (fun rec2 hrec2 x3_2 => ?_) _ _
    unfold F_X12_nextPlace_2
    refine Pu_ck ?_
    refine Pu_if ?_ ?_
    · refine Pu_cl (fun _ _ => ?_)
      refine Pu_jn (fun k => Pu σ (k)) ?_ (fun k51 h51 => ?_)
      · exact hrec2 _
      · refine Pu_if ?_ ?_
        · exact h51
        · refine Pu_bn (fun _ => ?_)
          refine Pu_ck ?_
          refine Pu_bn (fun _ => ?_)
          refine Pu_ck ?_
          refine Pu_if ?_ ?_
          · exact Pu_some
          · exact h51
    · exact h57
def f_X12_lanesAhead (p1 : Int32) (σ : Mm) : Option (Int32 × Mm) := bn ((29 : Int32) + p1) (fun i_8 => ck (inb i_8 41) ((if 0 < (gI σ 36 i_8.toNatClampNeg) then bn ((35 : Int32) + p1) (fun i_20 => ck (inb i_20 41) (some ((gI σ 36 i_20.toNatClampNeg), σ))) else bn ((11 : Int32) + p1) (fun i_34 => ck (inb i_34 41) (bn ((11 : Int32) + p1) (fun i_44 => ck (inb i_44 41) (bn ((17 : Int32) + p1) (fun i_53 => ck (inb i_53 41) (cl (f_X12_nextPlace (gI σ 36 i_44.toNatClampNeg) (gI σ 36 i_53.toNatClampNeg) σ) (fun r54 _ => cl (f_X12_laneOf (0 : Int32) (gI σ 36 i_34.toNatClampNeg) r54 σ) (fun r57 _ => some (r57, σ))))))))))))
set_option maxHeartbeats 4000000 in
set_option maxRecDepth 100000 in
theorem x_X12_lanesAhead (p1 : Int32) (σ : Mm) : Con (wsOf SHM) yX12_lanesAhead cX12_lanesAhead 2 (some .int) 3 [.ref 0, .int p1] σ (f_X12_lanesAhead p1 σ) := by
  refine Con.of_X (by decide +kernel) (Nat.le_of_ble_eq_true rfl) ?_
  unfold f_X12_lanesAhead
  show X (wsOf SHM) RX12 cX12_lanesAhead 2 (some .int) 3 0 0 [(0, .ref 0), (1, .int p1)] [] σ _
  refine X_aload_n (pc := 0) (td kX12_lanesAhead 0 rfl) rfl 0 rfl ?_
  refine X_getF (b := 36) (pc := 1) sM_0 rfl fk_X12_117 (td kX12_lanesAhead 1 rfl) ?_
  refine X_bipush (v := (29 : Int32)) (pc := 4) (td kX12_lanesAhead 2 rfl) (by decide) ?_
  refine X_iload_n (pc := 6) (td kX12_lanesAhead 3 rfl) rfl 1 rfl ?_
  refine X_iadd (pc := 7) (td kX12_lanesAhead 4 rfl) ?_
  refine X_bi (fun i_8 => ?_)
  refine X_iald (pc := 8) sM_36 (td kX12_lanesAhead 5 rfl) ?_
  refine X_if_le (pc := 9) (tgt := 24) (td kX12_lanesAhead 6 rfl) (by decide) (fun c_9 => ?_) (fun c_9 => ?_)
  · refine X_aload_n (pc := 24) (td kX12_lanesAhead 14 rfl) rfl 0 rfl ?_
    refine X_iconst (v := (0 : Int32)) (pc := 25) (td kX12_lanesAhead 15 rfl) (by decide) ?_
    refine X_aload_n (pc := 26) (td kX12_lanesAhead 16 rfl) rfl 0 rfl ?_
    refine X_getF (b := 36) (pc := 27) sM_0 rfl fk_X12_117 (td kX12_lanesAhead 17 rfl) ?_
    refine X_bipush (v := (11 : Int32)) (pc := 30) (td kX12_lanesAhead 18 rfl) (by decide) ?_
    refine X_iload_n (pc := 32) (td kX12_lanesAhead 19 rfl) rfl 1 rfl ?_
    refine X_iadd (pc := 33) (td kX12_lanesAhead 20 rfl) ?_
    refine X_bi (fun i_34 => ?_)
    refine X_iald (pc := 34) sM_36 (td kX12_lanesAhead 21 rfl) ?_
    refine X_aload_n (pc := 35) (td kX12_lanesAhead 22 rfl) rfl 0 rfl ?_
    refine X_aload_n (pc := 36) (td kX12_lanesAhead 23 rfl) rfl 0 rfl ?_
    refine X_getF (b := 36) (pc := 37) sM_0 rfl fk_X12_117 (td kX12_lanesAhead 24 rfl) ?_
    refine X_bipush (v := (11 : Int32)) (pc := 40) (td kX12_lanesAhead 25 rfl) (by decide) ?_
    refine X_iload_n (pc := 42) (td kX12_lanesAhead 26 rfl) rfl 1 rfl ?_
    refine X_iadd (pc := 43) (td kX12_lanesAhead 27 rfl) ?_
    refine X_bi (fun i_44 => ?_)
    refine X_iald (pc := 44) sM_36 (td kX12_lanesAhead 28 rfl) ?_
    refine X_aload_n (pc := 45) (td kX12_lanesAhead 29 rfl) rfl 0 rfl ?_
    refine X_getF (b := 36) (pc := 46) sM_0 rfl fk_X12_117 (td kX12_lanesAhead 30 rfl) ?_
    refine X_bipush (v := (17 : Int32)) (pc := 49) (td kX12_lanesAhead 31 rfl) (by decide) ?_
    refine X_iload_n (pc := 51) (td kX12_lanesAhead 32 rfl) rfl 1 rfl ?_
    refine X_iadd (pc := 52) (td kX12_lanesAhead 33 rfl) ?_
    refine X_bi (fun i_53 => ?_)
    refine X_iald (pc := 53) sM_36 (td kX12_lanesAhead 34 rfl) ?_
    refine X_callip (pc := 54) (As := [.int (gI σ 36 i_44.toNatClampNeg), .int (gI σ 36 i_53.toNatClampNeg)]) (st := [.int (gI σ 36 i_34.toNatClampNeg), .int (0 : Int32), .ref 0]) (p_X12_nextPlace (gI σ 36 i_44.toNatClampNeg) (gI σ 36 i_53.toNatClampNeg) σ) sM_0 (x_X12_nextPlace (gI σ 36 i_44.toNatClampNeg) (gI σ 36 i_53.toNatClampNeg) σ) mkX12_nextPlace lk_X12_393 (by omega) rfl rfl (Nat.le_of_ble_eq_true rfl) (td kX12_lanesAhead 35 rfl) (fun r54 hr54 => ?_)
    refine X_callip (pc := 57) (As := [.int (0 : Int32), .int (gI σ 36 i_34.toNatClampNeg), .int r54]) (st := []) (p_X12_laneOf (0 : Int32) (gI σ 36 i_34.toNatClampNeg) r54 σ) sM_0 (x_X12_laneOf (0 : Int32) (gI σ 36 i_34.toNatClampNeg) r54 σ) mkX12_laneOf lk_X12_321 (by omega) rfl rfl (Nat.le_of_ble_eq_true rfl) (td kX12_lanesAhead 36 rfl) (fun r57 hr57 => ?_)
    exact X_ret (pc := 60) (td kX12_lanesAhead 37 rfl) rfl
  · refine X_aload_n (pc := 12) (td kX12_lanesAhead 7 rfl) rfl 0 rfl ?_
    refine X_getF (b := 36) (pc := 13) sM_0 rfl fk_X12_117 (td kX12_lanesAhead 8 rfl) ?_
    refine X_bipush (v := (35 : Int32)) (pc := 16) (td kX12_lanesAhead 9 rfl) (by decide) ?_
    refine X_iload_n (pc := 18) (td kX12_lanesAhead 10 rfl) rfl 1 rfl ?_
    refine X_iadd (pc := 19) (td kX12_lanesAhead 11 rfl) ?_
    refine X_bi (fun i_20 => ?_)
    refine X_iald (pc := 20) sM_36 (td kX12_lanesAhead 12 rfl) ?_
    refine X_goto (pc := 21) (tgt := 60) (td kX12_lanesAhead 13 rfl) (by decide) ?_
    exact X_ret (pc := 60) (td kX12_lanesAhead 37 rfl) rfl
set_option maxHeartbeats 4000000 in
theorem p_X12_lanesAhead (p1 : Int32) (σ : Mm) : Pu σ (f_X12_lanesAhead p1 σ) := by
  unfold f_X12_lanesAhead
  refine Pu_bn (fun _ => ?_)
  refine Pu_ck ?_
  refine Pu_if ?_ ?_
  · refine Pu_bn (fun _ => ?_)
    refine Pu_ck ?_
    exact Pu_some
  · refine Pu_bn (fun _ => ?_)
    refine Pu_ck ?_
    refine Pu_bn (fun _ => ?_)
    refine Pu_ck ?_
    refine Pu_bn (fun _ => ?_)
    refine Pu_ck ?_
    refine Pu_cl (fun _ _ => ?_)
    refine Pu_cl (fun _ _ => ?_)
    exact Pu_some
def F_X12_alarm_12 (σ2 : Mm) (k48 : Int32 → Option (Int32 × Mm)) (rec12 : Int32 → Int32 → Option (Int32 × Mm)) (x1_12 : Int32) (x2_12 : Int32) : Option (Int32 × Mm) := ck (inb (2 : Int32) 8) ((if x2_12 < (gI σ2 2 (2 : Int32).toNatClampNeg) then cl (f_X12_isOut x2_12 σ2) (fun r24 _ => jn (fun (x1_42 : Int32) => rec12 x1_42 (x2_12 + (1 : Int32))) (fun k42 => (if r24 = 0 then k42 x1_12 else cl (f_X12_lanesAhead x2_12 σ2) (fun r34 _ => bn (x1_12 &&& (((1 : Int32) <<< (r34 &&& 31)) ^^^ (-1 : Int32))) (fun v1_41 => k42 v1_41))))) else k48 x1_12))
def f_X12_alarm (σ : Mm) : Option (Int32 × Mm) := bn (pI σ 0 0 (0 : Int32)) (fun σ2 => cl (f_X12_burning σ2) (fun r6 _ => jn (fun (x1_48 : Int32) => some (x1_48, σ2)) (fun k48 => lq2 (F_X12_alarm_12 σ2 k48) 1000000 r6 (0 : Int32))))
set_option maxHeartbeats 4000000 in
set_option maxRecDepth 100000 in
theorem x_X12_alarm (σ : Mm) : Con (wsOf SHM) yX12_alarm cX12_alarm 3 (some .int) 4 [.ref 0] σ (f_X12_alarm σ) := by
  refine Con.of_X (by decide +kernel) (Nat.le_of_ble_eq_true rfl) ?_
  unfold f_X12_alarm
  show X (wsOf SHM) RX12 cX12_alarm 3 (some .int) 4 0 0 [(0, .ref 0)] [] σ _
  refine X_aload_n (pc := 0) (td kX12_alarm 0 rfl) rfl 0 rfl ?_
  refine X_iconst (v := (0 : Int32)) (pc := 1) (td kX12_alarm 1 rfl) (by decide) ?_
  refine X_putI (pc := 2) sM_0 rfl fk_X12_169 rfl rfl (td kX12_alarm 2 rfl) (fun σ2 => ?_)
  refine X_aload_n (pc := 5) (td kX12_alarm 3 rfl) rfl 0 rfl ?_
  refine X_callip (pc := 6) (As := []) (st := []) (p_X12_burning σ2) sM_0 (x_X12_burning σ2) mkX12_burning lk_X12_451 (by omega) rfl rfl (Nat.le_of_ble_eq_true rfl) (td kX12_alarm 4 rfl) (fun r6 hr6 => ?_)
  refine X_istore_n (L' := [(1, .int r6), (0, .ref 0)]) (pc := 9) (td kX12_alarm 5 rfl) rfl (by decide) rfl ?_
  refine X_iconst (v := (0 : Int32)) (pc := 10) (td kX12_alarm 6 rfl) (by decide) ?_
  refine X_istore_n (L' := [(2, .int (0 : Int32)), (1, .int r6), (0, .ref 0)]) (pc := 11) (td kX12_alarm 7 rfl) rfl (by decide) rfl ?_
  refine X_jn (P := fun k => ∀ (x1_48 : Int32), X (wsOf SHM) RX12 cX12_alarm 3 (some .int) 4 0 48 [(1, .int x1_48)] [] σ2 (k x1_48)) (fun x1_48 => ?_) (fun k48 h48 => ?_)
  · refine X_iload_n (pc := 48) (td kX12_alarm 30 rfl) rfl 0 rfl ?_
    exact X_ret (pc := 49) (td kX12_alarm 31 rfl) rfl
  · refine X_sub [2, 1, 0] rfl ?_
    refine lq2_ind (P := fun x1_12 x2_12 E => X (wsOf SHM) RX12 cX12_alarm 3 (some .int) 4 0 12 [(0, .ref 0), (1, .int x1_12), (2, .int x2_12)] [] σ2 E) (fun _ _ => X_none) (fun rec12 hrec12 x1_12 x2_12 => ?_) _ _ _
    unfold F_X12_alarm_12
    refine X_iload_n (pc := 12) (td kX12_alarm 8 rfl) rfl 2 rfl ?_
    refine X_aload_n (pc := 13) (td kX12_alarm 9 rfl) rfl 0 rfl ?_
    refine X_getF (b := 2) (pc := 14) sM_0 rfl fk_X12_13 (td kX12_alarm 10 rfl) ?_
    refine X_iconst (v := (2 : Int32)) (pc := 17) (td kX12_alarm 11 rfl) (by decide) ?_
    refine X_iald (pc := 18) sM_2 (td kX12_alarm 12 rfl) ?_
    refine X_icmp_ge (pc := 19) (tgt := 48) (td kX12_alarm 13 rfl) (by decide) (fun c_19 => ?_) (fun c_19 => ?_)
    · refine X_sub [1] rfl ?_
      exact h48 x1_12
    · refine X_aload_n (pc := 22) (td kX12_alarm 14 rfl) rfl 0 rfl ?_
      refine X_iload_n (pc := 23) (td kX12_alarm 15 rfl) rfl 2 rfl ?_
      refine X_callip (pc := 24) (As := [.int x2_12]) (st := []) (p_X12_isOut x2_12 σ2) sM_0 (x_X12_isOut x2_12 σ2) mkX12_isOut lk_X12_408 (by omega) rfl rfl (Nat.le_of_ble_eq_true rfl) (td kX12_alarm 16 rfl) (fun r24 hr24 => ?_)
      refine X_jn (P := fun k => ∀ (x1_42 : Int32), X (wsOf SHM) RX12 cX12_alarm 3 (some .int) 4 0 42 [(0, .ref 0), (1, .int x1_42), (2, .int x2_12)] [] σ2 (k x1_42)) (fun x1_42 => ?_) (fun k42 h42 => ?_)
      · refine X_iinc (v := (x2_12 + (1 : Int32))) (L' := [(2, .int (x2_12 + (1 : Int32))), (0, .ref 0), (1, .int x1_42)]) (pc := 42) (td kX12_alarm 28 rfl) 2 rfl rfl (by decide) rfl ?_
        refine X_goto (pc := 45) (tgt := 12) (td kX12_alarm 29 rfl) (by decide) ?_
        refine X_sub [1, 2, 0] rfl ?_
        exact hrec12 x1_42 (x2_12 + (1 : Int32))
      · refine X_if_eq (pc := 27) (tgt := 42) (td kX12_alarm 17 rfl) (by decide) (fun c_27 => ?_) (fun c_27 => ?_)
        · exact h42 x1_12
        · refine X_iload_n (pc := 30) (td kX12_alarm 18 rfl) rfl 1 rfl ?_
          refine X_iconst (v := (1 : Int32)) (pc := 31) (td kX12_alarm 19 rfl) (by decide) ?_
          refine X_aload_n (pc := 32) (td kX12_alarm 20 rfl) rfl 0 rfl ?_
          refine X_iload_n (pc := 33) (td kX12_alarm 21 rfl) rfl 2 rfl ?_
          refine X_callip (pc := 34) (As := [.int x2_12]) (st := [.int (1 : Int32), .int x1_12]) (p_X12_lanesAhead x2_12 σ2) sM_0 (x_X12_lanesAhead x2_12 σ2) mkX12_lanesAhead lk_X12_411 (by omega) rfl rfl (Nat.le_of_ble_eq_true rfl) (td kX12_alarm 22 rfl) (fun r34 hr34 => ?_)
          refine X_ishl (pc := 37) (td kX12_alarm 23 rfl) ?_
          refine X_iconst (v := (-1 : Int32)) (pc := 38) (td kX12_alarm 24 rfl) (by decide) ?_
          refine X_ixor (pc := 39) (td kX12_alarm 25 rfl) ?_
          refine X_iand (pc := 40) (td kX12_alarm 26 rfl) ?_
          refine X_bi (fun v1_41 => ?_)
          refine X_istore_n (L' := [(1, .int v1_41), (0, .ref 0), (2, .int x2_12)]) (pc := 41) (td kX12_alarm 27 rfl) rfl (by decide) rfl ?_
          refine X_sub [1, 0, 2] rfl ?_
          exact h42 v1_41
def F_X12_homes_4 (σ : Mm) (k38 : Int32 → Option (Int32 × Mm)) (rec4 : Int32 → Int32 → Option (Int32 × Mm)) (x1_4 : Int32) (x2_4 : Int32) : Option (Int32 × Mm) := ck (inb (2 : Int32) 8) ((if x2_4 < (gI σ 2 (2 : Int32).toNatClampNeg) then cl (f_X12_isHome x2_4 σ) (fun r17 _ => jn (fun (y1_30 : Int32) => bn (x1_4 ||| y1_30) (fun v1_31 => rec4 v1_31 (x2_4 + (1 : Int32)))) (fun k30 => (if r17 = 0 then k30 (0 : Int32) else k30 ((1 : Int32) <<< (x2_4 &&& 31))))) else k38 x1_4))
def f_X12_homes (σ : Mm) : Option (Int32 × Mm) := jn (fun (x1_38 : Int32) => some (x1_38, σ)) (fun k38 => lq2 (F_X12_homes_4 σ k38) 1000000 (0 : Int32) (0 : Int32))
set_option maxHeartbeats 4000000 in
set_option maxRecDepth 100000 in
theorem x_X12_homes (σ : Mm) : Con (wsOf SHM) yX12_homes cX12_homes 3 (some .int) 2 [.ref 0] σ (f_X12_homes σ) := by
  refine Con.of_X (by decide +kernel) (Nat.le_of_ble_eq_true rfl) ?_
  unfold f_X12_homes
  show X (wsOf SHM) RX12 cX12_homes 3 (some .int) 2 0 0 [(0, .ref 0)] [] σ _
  refine X_iconst (v := (0 : Int32)) (pc := 0) (td kX12_homes 0 rfl) (by decide) ?_
  refine X_istore_n (L' := [(1, .int (0 : Int32)), (0, .ref 0)]) (pc := 1) (td kX12_homes 1 rfl) rfl (by decide) rfl ?_
  refine X_iconst (v := (0 : Int32)) (pc := 2) (td kX12_homes 2 rfl) (by decide) ?_
  refine X_istore_n (L' := [(2, .int (0 : Int32)), (1, .int (0 : Int32)), (0, .ref 0)]) (pc := 3) (td kX12_homes 3 rfl) rfl (by decide) rfl ?_
  refine X_jn (P := fun k => ∀ (x1_38 : Int32), X (wsOf SHM) RX12 cX12_homes 3 (some .int) 2 0 38 [(1, .int x1_38)] [] σ (k x1_38)) (fun x1_38 => ?_) (fun k38 h38 => ?_)
  · refine X_iload_n (pc := 38) (td kX12_homes 24 rfl) rfl 0 rfl ?_
    exact X_ret (pc := 39) (td kX12_homes 25 rfl) rfl
  · refine X_sub [2, 1, 0] rfl ?_
    refine lq2_ind (P := fun x1_4 x2_4 E => X (wsOf SHM) RX12 cX12_homes 3 (some .int) 2 0 4 [(0, .ref 0), (1, .int x1_4), (2, .int x2_4)] [] σ E) (fun _ _ => X_none) (fun rec4 hrec4 x1_4 x2_4 => ?_) _ _ _
    unfold F_X12_homes_4
    refine X_iload_n (pc := 4) (td kX12_homes 4 rfl) rfl 2 rfl ?_
    refine X_aload_n (pc := 5) (td kX12_homes 5 rfl) rfl 0 rfl ?_
    refine X_getF (b := 2) (pc := 6) sM_0 rfl fk_X12_13 (td kX12_homes 6 rfl) ?_
    refine X_iconst (v := (2 : Int32)) (pc := 9) (td kX12_homes 7 rfl) (by decide) ?_
    refine X_iald (pc := 10) sM_2 (td kX12_homes 8 rfl) ?_
    refine X_icmp_ge (pc := 11) (tgt := 38) (td kX12_homes 9 rfl) (by decide) (fun c_11 => ?_) (fun c_11 => ?_)
    · refine X_sub [1] rfl ?_
      exact h38 x1_4
    · refine X_iload_n (pc := 14) (td kX12_homes 10 rfl) rfl 1 rfl ?_
      refine X_aload_n (pc := 15) (td kX12_homes 11 rfl) rfl 0 rfl ?_
      refine X_iload_n (pc := 16) (td kX12_homes 12 rfl) rfl 2 rfl ?_
      refine X_callip (pc := 17) (As := [.int x2_4]) (st := [.int x1_4]) (p_X12_isHome x2_4 σ) sM_0 (x_X12_isHome x2_4 σ) mkX12_isHome lk_X12_387 (by omega) rfl rfl (Nat.le_of_ble_eq_true rfl) (td kX12_homes 13 rfl) (fun r17 hr17 => ?_)
      refine X_jn (P := fun k => ∀ (y1_30 : Int32), X (wsOf SHM) RX12 cX12_homes 3 (some .int) 2 0 30 [(0, .ref 0), (2, .int x2_4)] [.int y1_30, .int x1_4] σ (k y1_30)) (fun y1_30 => ?_) (fun k30 h30 => ?_)
      · refine X_ior (pc := 30) (td kX12_homes 20 rfl) ?_
        refine X_bi (fun v1_31 => ?_)
        refine X_istore_n (L' := [(1, .int v1_31), (0, .ref 0), (2, .int x2_4)]) (pc := 31) (td kX12_homes 21 rfl) rfl (by decide) rfl ?_
        refine X_iinc (v := (x2_4 + (1 : Int32))) (L' := [(2, .int (x2_4 + (1 : Int32))), (1, .int v1_31), (0, .ref 0)]) (pc := 32) (td kX12_homes 22 rfl) 2 rfl rfl (by decide) rfl ?_
        refine X_goto (pc := 35) (tgt := 4) (td kX12_homes 23 rfl) (by decide) ?_
        refine X_sub [2, 1, 0] rfl ?_
        exact hrec4 v1_31 (x2_4 + (1 : Int32))
      · refine X_if_eq (pc := 20) (tgt := 29) (td kX12_homes 14 rfl) (by decide) (fun c_20 => ?_) (fun c_20 => ?_)
        · refine X_iconst (v := (0 : Int32)) (pc := 29) (td kX12_homes 19 rfl) (by decide) ?_
          refine X_sub [0, 2] rfl ?_
          exact h30 (0 : Int32)
        · refine X_iconst (v := (1 : Int32)) (pc := 23) (td kX12_homes 15 rfl) (by decide) ?_
          refine X_iload_n (pc := 24) (td kX12_homes 16 rfl) rfl 2 rfl ?_
          refine X_ishl (pc := 25) (td kX12_homes 17 rfl) ?_
          refine X_goto (pc := 26) (tgt := 30) (td kX12_homes 18 rfl) (by decide) ?_
          refine X_sub [0, 2] rfl ?_
          exact h30 ((1 : Int32) <<< (x2_4 &&& 31))
set_option maxHeartbeats 4000000 in
theorem p_X12_homes (σ : Mm) : Pu σ (f_X12_homes σ) := by
  unfold f_X12_homes
  refine Pu_jn (fun k => ∀ (x1_38 : Int32), Pu σ (k x1_38)) (fun x1_38 => ?_) (fun k38 h38 => ?_)
  · exact Pu_some
  · refine lq2_ind (P := fun _ _ E => Pu σ E) (fun _ _ => Pu_none) (fun rec4 hrec4 x1_4 x2_4 => ?_) _ _ _
    unfold F_X12_homes_4
    refine Pu_ck ?_
    refine Pu_if ?_ ?_
    · refine Pu_cl (fun _ _ => ?_)
      refine Pu_jn (fun k => ∀ (y1_30 : Int32), Pu σ (k y1_30)) (fun y1_30 => ?_) (fun k30 h30 => ?_)
      · refine Pu_bn (fun _ => ?_)
        exact hrec4 _ _
      · refine Pu_if ?_ ?_
        · exact h30 _
        · exact h30 _
    · exact h38 _
def f_X12_areAllHome (σ : Mm) : Option (Int32 × Mm) := cl (f_X12_homes σ) (fun r1 _ => ck (inb (2 : Int32) 8) ((if r1 = (((1 : Int32) <<< ((gI σ 2 (2 : Int32).toNatClampNeg) &&& 31)) - (1 : Int32)) then some ((1 : Int32), σ) else some ((0 : Int32), σ))))
set_option maxHeartbeats 4000000 in
set_option maxRecDepth 100000 in
theorem x_X12_areAllHome (σ : Mm) : Con (wsOf SHM) yX12_areAllHome cX12_areAllHome 1 (some .boolean) 3 [.ref 0] σ (f_X12_areAllHome σ) := by
  refine Con.of_X (by decide +kernel) (Nat.le_of_ble_eq_true rfl) ?_
  unfold f_X12_areAllHome
  show X (wsOf SHM) RX12 cX12_areAllHome 1 (some .boolean) 3 0 0 [(0, .ref 0)] [] σ _
  refine X_aload_n (pc := 0) (td kX12_areAllHome 0 rfl) rfl 0 rfl ?_
  refine X_callip (pc := 1) (As := []) (st := []) (p_X12_homes σ) sM_0 (x_X12_homes σ) mkX12_homes lk_X12_390 (by omega) rfl rfl (Nat.le_of_ble_eq_true rfl) (td kX12_areAllHome 1 rfl) (fun r1 hr1 => ?_)
  refine X_iconst (v := (1 : Int32)) (pc := 4) (td kX12_areAllHome 2 rfl) (by decide) ?_
  refine X_aload_n (pc := 5) (td kX12_areAllHome 3 rfl) rfl 0 rfl ?_
  refine X_getF (b := 2) (pc := 6) sM_0 rfl fk_X12_13 (td kX12_areAllHome 4 rfl) ?_
  refine X_iconst (v := (2 : Int32)) (pc := 9) (td kX12_areAllHome 5 rfl) (by decide) ?_
  refine X_iald (pc := 10) sM_2 (td kX12_areAllHome 6 rfl) ?_
  refine X_ishl (pc := 11) (td kX12_areAllHome 7 rfl) ?_
  refine X_iconst (v := (1 : Int32)) (pc := 12) (td kX12_areAllHome 8 rfl) (by decide) ?_
  refine X_isub (pc := 13) (td kX12_areAllHome 9 rfl) ?_
  refine X_icmp_ne (pc := 14) (tgt := 21) (td kX12_areAllHome 10 rfl) (by decide) (fun c_14 => ?_) (fun c_14 => ?_)
  · refine X_iconst (v := (0 : Int32)) (pc := 21) (td kX12_areAllHome 13 rfl) (by decide) ?_
    exact X_ret (pc := 22) (td kX12_areAllHome 14 rfl) rfl
  · refine X_iconst (v := (1 : Int32)) (pc := 17) (td kX12_areAllHome 11 rfl) (by decide) ?_
    refine X_goto (pc := 18) (tgt := 22) (td kX12_areAllHome 12 rfl) (by decide) ?_
    exact X_ret (pc := 22) (td kX12_areAllHome 14 rfl) rfl
set_option maxHeartbeats 4000000 in
theorem p_X12_areAllHome (σ : Mm) : Pu σ (f_X12_areAllHome σ) := by
  unfold f_X12_areAllHome
  refine Pu_cl (fun _ _ => ?_)
  refine Pu_ck ?_
  refine Pu_if ?_ ?_
  · exact Pu_some
  · exact Pu_some
def f_X12_canTurn (p1 : Int32) (σ : Mm) : Option (Int32 × Mm) := cl (f_X12_isOut p1 σ) (fun r2 _ => jn (some ((0 : Int32), σ)) (fun k22 => (if r2 = 0 then k22 else ck (inb p1 12) ((if (gI σ 8 p1.toNatClampNeg) = (3 : Int32) then k22 else some ((1 : Int32), σ))))))
set_option maxHeartbeats 4000000 in
set_option maxRecDepth 100000 in
theorem x_X12_canTurn (p1 : Int32) (σ : Mm) : Con (wsOf SHM) yX12_canTurn cX12_canTurn 2 (some .boolean) 3 [.ref 0, .int p1] σ (f_X12_canTurn p1 σ) := by
  refine Con.of_X (by decide +kernel) (Nat.le_of_ble_eq_true rfl) ?_
  unfold f_X12_canTurn
  show X (wsOf SHM) RX12 cX12_canTurn 2 (some .boolean) 3 0 0 [(0, .ref 0), (1, .int p1)] [] σ _
  refine X_aload_n (pc := 0) (td kX12_canTurn 0 rfl) rfl 0 rfl ?_
  refine X_iload_n (pc := 1) (td kX12_canTurn 1 rfl) rfl 1 rfl ?_
  refine X_callip (pc := 2) (As := [.int p1]) (st := []) (p_X12_isOut p1 σ) sM_0 (x_X12_isOut p1 σ) mkX12_isOut lk_X12_408 (by omega) rfl rfl (Nat.le_of_ble_eq_true rfl) (td kX12_canTurn 2 rfl) (fun r2 hr2 => ?_)
  refine X_jn (P := fun k => X (wsOf SHM) RX12 cX12_canTurn 2 (some .boolean) 3 0 22 [] [] σ k) ?_ (fun k22 h22 => ?_)
  · refine X_iconst (v := (0 : Int32)) (pc := 22) (td kX12_canTurn 12 rfl) (by decide) ?_
    exact X_ret (pc := 23) (td kX12_canTurn 13 rfl) rfl
  · refine X_if_eq (pc := 5) (tgt := 22) (td kX12_canTurn 3 rfl) (by decide) (fun c_5 => ?_) (fun c_5 => ?_)
    · refine X_sub [] rfl ?_
      exact h22
    · refine X_aload_n (pc := 8) (td kX12_canTurn 4 rfl) rfl 0 rfl ?_
      refine X_getF (b := 8) (pc := 9) sM_0 rfl fk_X12_32 (td kX12_canTurn 5 rfl) ?_
      refine X_iload_n (pc := 12) (td kX12_canTurn 6 rfl) rfl 1 rfl ?_
      refine X_iald (pc := 13) sM_8 (td kX12_canTurn 7 rfl) ?_
      refine X_iconst (v := (3 : Int32)) (pc := 14) (td kX12_canTurn 8 rfl) (by decide) ?_
      refine X_icmp_eq (pc := 15) (tgt := 22) (td kX12_canTurn 9 rfl) (by decide) (fun c_15 => ?_) (fun c_15 => ?_)
      · refine X_sub [] rfl ?_
        exact h22
      · refine X_iconst (v := (1 : Int32)) (pc := 18) (td kX12_canTurn 10 rfl) (by decide) ?_
        refine X_goto (pc := 19) (tgt := 23) (td kX12_canTurn 11 rfl) (by decide) ?_
        exact X_ret (pc := 23) (td kX12_canTurn 13 rfl) rfl
set_option maxHeartbeats 4000000 in
theorem p_X12_canTurn (p1 : Int32) (σ : Mm) : Pu σ (f_X12_canTurn p1 σ) := by
  unfold f_X12_canTurn
  refine Pu_cl (fun _ _ => ?_)
  refine Pu_jn (fun k => Pu σ (k)) ?_ (fun k22 h22 => ?_)
  · exact Pu_some
  · refine Pu_if ?_ ?_
    · exact h22
    · refine Pu_ck ?_
      refine Pu_if ?_ ?_
      · exact h22
      · exact Pu_some
def f_X12_isWalker (p1 : Int32) (σ : Mm) : Option (Int32 × Mm) := jn (some ((0 : Int32), σ)) (fun k18 => (if p1 < 0 then k18 else ck (inb (2 : Int32) 8) ((if p1 < (gI σ 2 (2 : Int32).toNatClampNeg) then some ((1 : Int32), σ) else k18))))
set_option maxHeartbeats 4000000 in
set_option maxRecDepth 100000 in
theorem x_X12_isWalker (p1 : Int32) (σ : Mm) : Con (wsOf SHM) yX12_isWalker cX12_isWalker 2 (some .boolean) 1 [.ref 0, .int p1] σ (f_X12_isWalker p1 σ) := by
  refine Con.of_X (by decide +kernel) (Nat.le_of_ble_eq_true rfl) ?_
  unfold f_X12_isWalker
  show X (wsOf SHM) RX12 cX12_isWalker 2 (some .boolean) 1 0 0 [(0, .ref 0), (1, .int p1)] [] σ _
  refine X_iload_n (pc := 0) (td kX12_isWalker 0 rfl) rfl 1 rfl ?_
  refine X_jn (P := fun k => X (wsOf SHM) RX12 cX12_isWalker 2 (some .boolean) 1 0 18 [] [] σ k) ?_ (fun k18 h18 => ?_)
  · refine X_iconst (v := (0 : Int32)) (pc := 18) (td kX12_isWalker 10 rfl) (by decide) ?_
    exact X_ret (pc := 19) (td kX12_isWalker 11 rfl) rfl
  · refine X_if_lt (pc := 1) (tgt := 18) (td kX12_isWalker 1 rfl) (by decide) (fun c_1 => ?_) (fun c_1 => ?_)
    · refine X_sub [] rfl ?_
      exact h18
    · refine X_iload_n (pc := 4) (td kX12_isWalker 2 rfl) rfl 1 rfl ?_
      refine X_aload_n (pc := 5) (td kX12_isWalker 3 rfl) rfl 0 rfl ?_
      refine X_getF (b := 2) (pc := 6) sM_0 rfl fk_X12_13 (td kX12_isWalker 4 rfl) ?_
      refine X_iconst (v := (2 : Int32)) (pc := 9) (td kX12_isWalker 5 rfl) (by decide) ?_
      refine X_iald (pc := 10) sM_2 (td kX12_isWalker 6 rfl) ?_
      refine X_icmp_ge (pc := 11) (tgt := 18) (td kX12_isWalker 7 rfl) (by decide) (fun c_11 => ?_) (fun c_11 => ?_)
      · refine X_sub [] rfl ?_
        exact h18
      · refine X_iconst (v := (1 : Int32)) (pc := 14) (td kX12_isWalker 8 rfl) (by decide) ?_
        refine X_goto (pc := 15) (tgt := 19) (td kX12_isWalker 9 rfl) (by decide) ?_
        exact X_ret (pc := 19) (td kX12_isWalker 11 rfl) rfl
set_option maxHeartbeats 4000000 in
theorem p_X12_isWalker (p1 : Int32) (σ : Mm) : Pu σ (f_X12_isWalker p1 σ) := by
  unfold f_X12_isWalker
  refine Pu_jn (fun k => Pu σ (k)) ?_ (fun k18 h18 => ?_)
  · exact Pu_some
  · refine Pu_if ?_ ?_
    · exact h18
    · refine Pu_ck ?_
      refine Pu_if ?_ ?_
      · exact Pu_some
      · exact h18
def F_X12_copies_3 (b1 : Nat) (p2 : Int32) (b3 : Nat) (p4 : Int32) (k28 : Mm → Option (Int32 × Mm)) (rec3 : Int32 → Mm → Option (Int32 × Mm)) (x4_3 : Int32) (σ_3 : Mm) : Option (Int32 × Mm) := (if x4_3 < (41 : Int32) then bn (p2 + x4_3) (fun i_20 => ck (isIA b1) (ck (inb i_20 (lenM b1)) (ck (isIA b3) (ck (inb (p4 + x4_3) (lenM b3)) (bn (pI σ_3 b3 (p4 + x4_3).toNatClampNeg (gI σ_3 b1 i_20.toNatClampNeg)) (fun σ21 => rec3 (x4_3 + (1 : Int32)) σ21)))))) else k28 σ_3)
def f_X12_copies (b1 : Nat) (p2 : Int32) (b3 : Nat) (p4 : Int32) (σ : Mm) : Option (Int32 × Mm) := jn (fun (σ_28 : Mm) => some (0, σ_28)) (fun k28 => lq2 (F_X12_copies_3 b1 p2 b3 p4 k28) 1000000 (0 : Int32) σ)
set_option maxHeartbeats 4000000 in
set_option maxRecDepth 100000 in
theorem x_X12_copies (b1 : Nat) (p2 : Int32) (b3 : Nat) (p4 : Int32) (σ : Mm) : Con (wsOf SHM) yX12_copies cX12_copies 5 none 1 [.ref b1, .int p2, .ref b3, .int p4] σ (f_X12_copies b1 p2 b3 p4 σ) := by
  refine Con.of_X (by decide +kernel) (Nat.le_of_ble_eq_true rfl) ?_
  unfold f_X12_copies
  show X (wsOf SHM) RX12 cX12_copies 5 none 1 0 0 [(0, .ref b1), (1, .int p2), (2, .ref b3), (3, .int p4)] [] σ _
  refine X_iconst (v := (0 : Int32)) (pc := 0) (td kX12_copies 0 rfl) (by decide) ?_
  refine X_istore (L' := [(4, .int (0 : Int32)), (0, .ref b1), (1, .int p2), (2, .ref b3), (3, .int p4)]) (pc := 1) (td kX12_copies 1 rfl) (by decide) rfl ?_
  refine X_jn (P := fun k => ∀ (σ_28 : Mm), X (wsOf SHM) RX12 cX12_copies 5 none 1 0 28 [] [] σ_28 (k σ_28)) (fun σ_28 => ?_) (fun k28 h28 => ?_)
  · exact X_retv (pc := 28) (td kX12_copies 17 rfl)
  · refine X_sub [1, 2, 3, 4, 0] rfl ?_
    refine lq2_ind (P := fun x4_3 σ_3 E => X (wsOf SHM) RX12 cX12_copies 5 none 1 0 3 [(0, .ref b1), (1, .int p2), (2, .ref b3), (3, .int p4), (4, .int x4_3)] [] σ_3 E) (fun _ _ => X_none) (fun rec3 hrec3 x4_3 σ_3 => ?_) _ _ _
    unfold F_X12_copies_3
    refine X_iload (pc := 3) (td kX12_copies 2 rfl) 4 rfl ?_
    refine X_bipush (v := (41 : Int32)) (pc := 5) (td kX12_copies 3 rfl) (by decide) ?_
    refine X_icmp_ge (pc := 7) (tgt := 28) (td kX12_copies 4 rfl) (by decide) (fun c_7 => ?_) (fun c_7 => ?_)
    · refine X_sub [] rfl ?_
      exact h28 σ_3
    · refine X_aload_n (pc := 10) (td kX12_copies 5 rfl) rfl 2 rfl ?_
      refine X_iload_n (pc := 11) (td kX12_copies 6 rfl) rfl 3 rfl ?_
      refine X_iload (pc := 12) (td kX12_copies 7 rfl) 4 rfl ?_
      refine X_iadd (pc := 14) (td kX12_copies 8 rfl) ?_
      refine X_aload_n (pc := 15) (td kX12_copies 9 rfl) rfl 0 rfl ?_
      refine X_iload_n (pc := 16) (td kX12_copies 10 rfl) rfl 1 rfl ?_
      refine X_iload (pc := 17) (td kX12_copies 11 rfl) 4 rfl ?_
      refine X_iadd (pc := 19) (td kX12_copies 12 rfl) ?_
      refine X_bi (fun i_20 => ?_)
      refine X_ck (fun b1_h => ?_)
      refine X_iald (pc := 20) (knIA b1_h) (td kX12_copies 13 rfl) ?_
      refine X_ck (fun b3_h => ?_)
      refine X_iast (pc := 21) (knIA b3_h) (td kX12_copies 14 rfl) (fun σ21 => ?_)
      refine X_iinc (v := (x4_3 + (1 : Int32))) (L' := [(4, .int (x4_3 + (1 : Int32))), (0, .ref b1), (1, .int p2), (2, .ref b3), (3, .int p4)]) (pc := 22) (td kX12_copies 15 rfl) 4 rfl rfl (by decide) rfl ?_
      refine X_goto (pc := 25) (tgt := 3) (td kX12_copies 16 rfl) (by decide) ?_
      refine X_sub [1, 2, 3, 4, 0] rfl ?_
      exact hrec3 (x4_3 + (1 : Int32)) σ21
def F_X12_keeps_11 (k39 : Mm → Option (Int32 × Mm)) (rec11 : Int32 → Mm → Option (Int32 × Mm)) (x1_11 : Int32) (σ_11 : Mm) : Option (Int32 × Mm) := (if x1_11 < (615 : Int32) then bn (x1_11 + (41 : Int32)) (fun i_31 => ck (inb i_31 656) (ck (inb x1_11 656) (bn (pI σ_11 40 x1_11.toNatClampNeg (gI σ_11 40 i_31.toNatClampNeg)) (fun σ32 => rec11 (x1_11 + (1 : Int32)) σ32)))) else k39 σ_11)
def f_X12_keeps (σ : Mm) : Option (Int32 × Mm) := jn (fun (σ_49 : Mm) => cl (f_X12_copies 36 (0 : Int32) 40 ((41 : Int32) * (gI σ_49 0 55)) σ_49) (fun _ σ65 => bn (pI σ65 0 55 ((gI σ65 0 55) + (1 : Int32))) (fun σ75 => some (0, σ75)))) (fun k49 => (if (gI σ 0 55) = (16 : Int32) then jn (fun (σ_39 : Mm) => bn (pI σ_39 0 55 ((gI σ_39 0 55) - (1 : Int32))) (fun σ46 => k49 σ46)) (fun k39 => lq2 (F_X12_keeps_11 k39) 1000000 (0 : Int32) σ) else k49 σ))
set_option maxHeartbeats 4000000 in
set_option maxRecDepth 100000 in
theorem x_X12_keeps (σ : Mm) : Con (wsOf SHM) yX12_keeps cX12_keeps 2 none 2 [.ref 0] σ (f_X12_keeps σ) := by
  refine Con.of_X (by decide +kernel) (Nat.le_of_ble_eq_true rfl) ?_
  unfold f_X12_keeps
  show X (wsOf SHM) RX12 cX12_keeps 2 none 2 0 0 [(0, .ref 0)] [] σ _
  refine X_aload_n (pc := 0) (td kX12_keeps 0 rfl) rfl 0 rfl ?_
  refine X_getI (pc := 1) sM_0 rfl fk_X12_377 (td kX12_keeps 1 rfl) ?_
  refine X_bipush (v := (16 : Int32)) (pc := 4) (td kX12_keeps 2 rfl) (by decide) ?_
  refine X_jn (P := fun k => ∀ (σ_49 : Mm), X (wsOf SHM) RX12 cX12_keeps 2 none 2 0 49 [(0, .ref 0)] [] σ_49 (k σ_49)) (fun σ_49 => ?_) (fun k49 h49 => ?_)
  · refine X_aload_n (pc := 49) (td kX12_keeps 27 rfl) rfl 0 rfl ?_
    refine X_getF (b := 36) (pc := 50) sM_0 rfl fk_X12_117 (td kX12_keeps 28 rfl) ?_
    refine X_iconst (v := (0 : Int32)) (pc := 53) (td kX12_keeps 29 rfl) (by decide) ?_
    refine X_aload_n (pc := 54) (td kX12_keeps 30 rfl) rfl 0 rfl ?_
    refine X_getF (b := 40) (pc := 55) sM_0 rfl fk_X12_129 (td kX12_keeps 31 rfl) ?_
    refine X_bipush (v := (41 : Int32)) (pc := 58) (td kX12_keeps 32 rfl) (by decide) ?_
    refine X_aload_n (pc := 60) (td kX12_keeps 33 rfl) rfl 0 rfl ?_
    refine X_getI (pc := 61) sM_0 rfl fk_X12_377 (td kX12_keeps 34 rfl) ?_
    refine X_imul (pc := 64) (td kX12_keeps 35 rfl) ?_
    refine X_callsv (pc := 65) (As := [.ref 36, .int (0 : Int32), .ref 40, .int ((41 : Int32) * (gI σ_49 0 55))]) (st := []) (x_X12_copies 36 (0 : Int32) 40 ((41 : Int32) * (gI σ_49 0 55)) σ_49) mkX12_copies lk_X12_429 (by omega) rfl rfl (Nat.le_of_ble_eq_true rfl) (td kX12_keeps 36 rfl) (fun _ σ65 _ => ?_)
    refine X_aload_n (pc := 68) (td kX12_keeps 37 rfl) rfl 0 rfl ?_
    refine X_dup (pc := 69) (td kX12_keeps 38 rfl) rfl ?_
    refine X_getI (pc := 70) sM_0 rfl fk_X12_377 (td kX12_keeps 39 rfl) ?_
    refine X_iconst (v := (1 : Int32)) (pc := 73) (td kX12_keeps 40 rfl) (by decide) ?_
    refine X_iadd (pc := 74) (td kX12_keeps 41 rfl) ?_
    refine X_putI (pc := 75) sM_0 rfl fk_X12_377 rfl rfl (td kX12_keeps 42 rfl) (fun σ75 => ?_)
    exact X_retv (pc := 78) (td kX12_keeps 43 rfl)
  · refine X_icmp_ne (pc := 6) (tgt := 49) (td kX12_keeps 3 rfl) (by decide) (fun c_6 => ?_) (fun c_6 => ?_)
    · exact h49 σ
    · refine X_iconst (v := (0 : Int32)) (pc := 9) (td kX12_keeps 4 rfl) (by decide) ?_
      refine X_istore_n (L' := [(1, .int (0 : Int32)), (0, .ref 0)]) (pc := 10) (td kX12_keeps 5 rfl) rfl (by decide) rfl ?_
      refine X_jn (P := fun k => ∀ (σ_39 : Mm), X (wsOf SHM) RX12 cX12_keeps 2 none 2 0 39 [(0, .ref 0)] [] σ_39 (k σ_39)) (fun σ_39 => ?_) (fun k39 h39 => ?_)
      · refine X_aload_n (pc := 39) (td kX12_keeps 21 rfl) rfl 0 rfl ?_
        refine X_dup (pc := 40) (td kX12_keeps 22 rfl) rfl ?_
        refine X_getI (pc := 41) sM_0 rfl fk_X12_377 (td kX12_keeps 23 rfl) ?_
        refine X_iconst (v := (1 : Int32)) (pc := 44) (td kX12_keeps 24 rfl) (by decide) ?_
        refine X_isub (pc := 45) (td kX12_keeps 25 rfl) ?_
        refine X_putI (pc := 46) sM_0 rfl fk_X12_377 rfl rfl (td kX12_keeps 26 rfl) (fun σ46 => ?_)
        exact h49 σ46
      · refine X_sub [1, 0] rfl ?_
        refine lq2_ind (P := fun x1_11 σ_11 E => X (wsOf SHM) RX12 cX12_keeps 2 none 2 0 11 [(0, .ref 0), (1, .int x1_11)] [] σ_11 E) (fun _ _ => X_none) (fun rec11 hrec11 x1_11 σ_11 => ?_) _ _ _
        unfold F_X12_keeps_11
        refine X_iload_n (pc := 11) (td kX12_keeps 6 rfl) rfl 1 rfl ?_
        refine X_sipush (v := (615 : Int32)) (pc := 12) (td kX12_keeps 7 rfl) (by decide) ?_
        refine X_icmp_ge (pc := 15) (tgt := 39) (td kX12_keeps 8 rfl) (by decide) (fun c_15 => ?_) (fun c_15 => ?_)
        · refine X_sub [0] rfl ?_
          exact h39 σ_11
        · refine X_aload_n (pc := 18) (td kX12_keeps 9 rfl) rfl 0 rfl ?_
          refine X_getF (b := 40) (pc := 19) sM_0 rfl fk_X12_129 (td kX12_keeps 10 rfl) ?_
          refine X_iload_n (pc := 22) (td kX12_keeps 11 rfl) rfl 1 rfl ?_
          refine X_aload_n (pc := 23) (td kX12_keeps 12 rfl) rfl 0 rfl ?_
          refine X_getF (b := 40) (pc := 24) sM_0 rfl fk_X12_129 (td kX12_keeps 13 rfl) ?_
          refine X_iload_n (pc := 27) (td kX12_keeps 14 rfl) rfl 1 rfl ?_
          refine X_bipush (v := (41 : Int32)) (pc := 28) (td kX12_keeps 15 rfl) (by decide) ?_
          refine X_iadd (pc := 30) (td kX12_keeps 16 rfl) ?_
          refine X_bi (fun i_31 => ?_)
          refine X_iald (pc := 31) sM_40 (td kX12_keeps 17 rfl) ?_
          refine X_iast (pc := 32) sM_40 (td kX12_keeps 18 rfl) (fun σ32 => ?_)
          refine X_iinc (v := (x1_11 + (1 : Int32))) (L' := [(1, .int (x1_11 + (1 : Int32))), (0, .ref 0)]) (pc := 33) (td kX12_keeps 19 rfl) 1 rfl rfl (by decide) rfl ?_
          refine X_goto (pc := 36) (tgt := 11) (td kX12_keeps 20 rfl) (by decide) ?_
          refine X_sub [1, 0] rfl ?_
          exact hrec11 (x1_11 + (1 : Int32)) σ32
def f_X12_back (p1 : Int32) (σ : Mm) : Option (Int32 × Mm) := bn (pI σ 0 0 (0 : Int32)) (fun σ2 => cl (f_X12_isWalker p1 σ2) (fun r7 _ => jn (some ((0 : Int32), σ2)) (fun k21 => (if r7 = 0 then k21 else cl (f_X12_canTurn p1 σ2) (fun r15 _ => (if r15 = 0 then k21 else cl (f_X12_keeps σ2) (fun _ σ24 => ck (inb p1 12) (ck (inb ((17 : Int32) + p1) 41) (bn (pI σ24 36 ((17 : Int32) + p1).toNatClampNeg (gI σ24 9 p1.toNatClampNeg)) (fun σ41 => some ((1 : Int32), σ41)))))))))))
set_option maxHeartbeats 4000000 in
set_option maxRecDepth 100000 in
theorem x_X12_back (p1 : Int32) (σ : Mm) : Con (wsOf SHM) yX12_back cX12_back 2 (some .boolean) 4 [.ref 0, .int p1] σ (f_X12_back p1 σ) := by
  refine Con.of_X (by decide +kernel) (Nat.le_of_ble_eq_true rfl) ?_
  unfold f_X12_back
  show X (wsOf SHM) RX12 cX12_back 2 (some .boolean) 4 0 0 [(0, .ref 0), (1, .int p1)] [] σ _
  refine X_aload_n (pc := 0) (td kX12_back 0 rfl) rfl 0 rfl ?_
  refine X_iconst (v := (0 : Int32)) (pc := 1) (td kX12_back 1 rfl) (by decide) ?_
  refine X_putI (pc := 2) sM_0 rfl fk_X12_169 rfl rfl (td kX12_back 2 rfl) (fun σ2 => ?_)
  refine X_aload_n (pc := 5) (td kX12_back 3 rfl) rfl 0 rfl ?_
  refine X_iload_n (pc := 6) (td kX12_back 4 rfl) rfl 1 rfl ?_
  refine X_callip (pc := 7) (As := [.int p1]) (st := []) (p_X12_isWalker p1 σ2) sM_0 (x_X12_isWalker p1 σ2) mkX12_isWalker lk_X12_423 (by omega) rfl rfl (Nat.le_of_ble_eq_true rfl) (td kX12_back 5 rfl) (fun r7 hr7 => ?_)
  refine X_jn (P := fun k => X (wsOf SHM) RX12 cX12_back 2 (some .boolean) 4 0 21 [] [] σ2 k) ?_ (fun k21 h21 => ?_)
  · refine X_iconst (v := (0 : Int32)) (pc := 21) (td kX12_back 11 rfl) (by decide) ?_
    exact X_ret (pc := 22) (td kX12_back 12 rfl) rfl
  · refine X_if_eq (pc := 10) (tgt := 21) (td kX12_back 6 rfl) (by decide) (fun c_10 => ?_) (fun c_10 => ?_)
    · refine X_sub [] rfl ?_
      exact h21
    · refine X_aload_n (pc := 13) (td kX12_back 7 rfl) rfl 0 rfl ?_
      refine X_iload_n (pc := 14) (td kX12_back 8 rfl) rfl 1 rfl ?_
      refine X_callip (pc := 15) (As := [.int p1]) (st := []) (p_X12_canTurn p1 σ2) sM_0 (x_X12_canTurn p1 σ2) mkX12_canTurn lk_X12_445 (by omega) rfl rfl (Nat.le_of_ble_eq_true rfl) (td kX12_back 9 rfl) (fun r15 hr15 => ?_)
      refine X_if_ne (pc := 18) (tgt := 23) (td kX12_back 10 rfl) (by decide) (fun c_18 => ?_) (fun c_18 => ?_)
      · refine X_aload_n (pc := 23) (td kX12_back 13 rfl) rfl 0 rfl ?_
        refine X_callv (pc := 24) (As := []) (st := []) sM_0 (x_X12_keeps σ2) mkX12_keeps lk_X12_433 (by omega) rfl rfl (Nat.le_of_ble_eq_true rfl) (td kX12_back 14 rfl) (fun _ σ24 _ => ?_)
        refine X_aload_n (pc := 27) (td kX12_back 15 rfl) rfl 0 rfl ?_
        refine X_getF (b := 36) (pc := 28) sM_0 rfl fk_X12_117 (td kX12_back 16 rfl) ?_
        refine X_bipush (v := (17 : Int32)) (pc := 31) (td kX12_back 17 rfl) (by decide) ?_
        refine X_iload_n (pc := 33) (td kX12_back 18 rfl) rfl 1 rfl ?_
        refine X_iadd (pc := 34) (td kX12_back 19 rfl) ?_
        refine X_aload_n (pc := 35) (td kX12_back 20 rfl) rfl 0 rfl ?_
        refine X_getF (b := 9) (pc := 36) sM_0 rfl fk_X12_35 (td kX12_back 21 rfl) ?_
        refine X_iload_n (pc := 39) (td kX12_back 22 rfl) rfl 1 rfl ?_
        refine X_iald (pc := 40) sM_9 (td kX12_back 23 rfl) ?_
        refine X_iast (pc := 41) sM_36 (td kX12_back 24 rfl) (fun σ41 => ?_)
        refine X_iconst (v := (1 : Int32)) (pc := 42) (td kX12_back 25 rfl) (by decide) ?_
        exact X_ret (pc := 43) (td kX12_back 26 rfl) rfl
      · refine X_sub [] rfl ?_
        exact h21
def f_X12_signAt (p1 : Int32) (σ : Mm) : Option (Int32 × Mm) := (if p1 < (gI σ 0 3) then ck (inb p1 1000) (some ((gI σ 1 p1.toNatClampNeg), σ)) else some ((0 : Int32), σ))
set_option maxHeartbeats 4000000 in
set_option maxRecDepth 100000 in
theorem x_X12_signAt (p1 : Int32) (σ : Mm) : Con (wsOf SHM) yX12_signAt cX12_signAt 2 (some .int) 1 [.ref 0, .int p1] σ (f_X12_signAt p1 σ) := by
  refine Con.of_X (by decide +kernel) (Nat.le_of_ble_eq_true rfl) ?_
  unfold f_X12_signAt
  show X (wsOf SHM) RX12 cX12_signAt 2 (some .int) 1 0 0 [(0, .ref 0), (1, .int p1)] [] σ _
  refine X_iload_n (pc := 0) (td kX12_signAt 0 rfl) rfl 1 rfl ?_
  refine X_aload_n (pc := 1) (td kX12_signAt 1 rfl) rfl 0 rfl ?_
  refine X_getI (pc := 2) sM_0 rfl fk_X12_177 (td kX12_signAt 2 rfl) ?_
  refine X_icmp_ge (pc := 5) (tgt := 17) (td kX12_signAt 3 rfl) (by decide) (fun c_5 => ?_) (fun c_5 => ?_)
  · refine X_iconst (v := (0 : Int32)) (pc := 17) (td kX12_signAt 9 rfl) (by decide) ?_
    exact X_ret (pc := 18) (td kX12_signAt 10 rfl) rfl
  · refine X_aload_n (pc := 8) (td kX12_signAt 4 rfl) rfl 0 rfl ?_
    refine X_getF (b := 1) (pc := 9) sM_0 rfl fk_X12_7 (td kX12_signAt 5 rfl) ?_
    refine X_iload_n (pc := 12) (td kX12_signAt 6 rfl) rfl 1 rfl ?_
    refine X_iald (pc := 13) sM_1 (td kX12_signAt 7 rfl) ?_
    refine X_goto (pc := 14) (tgt := 18) (td kX12_signAt 8 rfl) (by decide) ?_
    exact X_ret (pc := 18) (td kX12_signAt 10 rfl) rfl
set_option maxHeartbeats 4000000 in
theorem p_X12_signAt (p1 : Int32) (σ : Mm) : Pu σ (f_X12_signAt p1 σ) := by
  unfold f_X12_signAt
  refine Pu_if ?_ ?_
  · refine Pu_ck ?_
    exact Pu_some
  · exact Pu_some
def J_X12_nextToken_322 (σ67 : Mm) (v1_96 : Int32) : Option (Int32 × Mm) := bn (pI σ67 0 4 ((gI σ67 0 4) + (1 : Int32))) (fun σ329 => jn (fun (y1_368 : Int32) => bn (pI σ329 0 6 y1_368) (fun σ368 => some (0, σ368))) (fun k368 => jn (k368 (3 : Int32)) (fun k363 => jn ((if v1_96 = (45 : Int32) then k363 else jn (k368 (4 : Int32)) (fun k367 => (if v1_96 < (59 : Int32) then k367 else (if (61 : Int32) < v1_96 then k367 else k363))))) (fun k345 => (if v1_96 < (40 : Int32) then k345 else (if (43 : Int32) < v1_96 then k345 else k363))))))
def F_X12_nextToken_224 (k299 : Mm → Option (Int32 × Mm)) (rec224 : Mm → Option (Int32 × Mm)) (σ_224 : Mm) : Option (Int32 × Mm) := cl (f_X12_signAt (gI σ_224 0 4) σ_224) (fun r229 _ => (if r229 < (48 : Int32) then k299 σ_224 else cl (f_X12_signAt (gI σ_224 0 4) σ_224) (fun r242 _ => (if (57 : Int32) < r242 then k299 σ_224 else jn (fun (σ_286 : Mm) => bn (pI σ_286 0 4 ((gI σ_286 0 4) + (1 : Int32))) (fun σ293 => rec224 σ293)) (fun k286 => (if ((gI σ_224 0 4) - (gI σ_224 0 5)) < (4 : Int32) then cl (f_X12_signAt (gI σ_224 0 4) σ_224) (fun r276 _ => bn (pI σ_224 0 8 ((((gI σ_224 0 8) * (10 : Int32)) + r276) - (48 : Int32))) (fun σ283 => k286 σ283)) else k286 σ_224))))))
def J_X12_nextToken_212 (σ67 : Mm) (v1_96 : Int32) : Option (Int32 × Mm) := jn (J_X12_nextToken_322 σ67 v1_96) (fun k322 => (if v1_96 < (48 : Int32) then k322 else (if (57 : Int32) < v1_96 then k322 else jn (fun (σ_299 : Mm) => jn (fun (y1_318 : Int32) => bn (pI σ_299 0 6 y1_318) (fun σ318 => some (0, σ318))) (fun k318 => (if (4 : Int32) < ((gI σ_299 0 4) - (gI σ_299 0 5)) then k318 (4 : Int32) else k318 (2 : Int32)))) (fun k299 => lq1 (F_X12_nextToken_224 k299) 1000000 σ67))))
def F_X12_nextToken_109 (k188 : Mm → Option (Int32 × Mm)) (rec109 : Mm → Option (Int32 × Mm)) (σ_109 : Mm) : Option (Int32 × Mm) := cl (f_X12_signAt (gI σ_109 0 4) σ_109) (fun r114 _ => (if r114 < (97 : Int32) then k188 σ_109 else cl (f_X12_signAt (gI σ_109 0 4) σ_109) (fun r127 _ => (if (122 : Int32) < r127 then k188 σ_109 else jn (fun (σ_175 : Mm) => bn (pI σ_175 0 4 ((gI σ_175 0 4) + (1 : Int32))) (fun σ182 => rec109 σ182)) (fun k175 => (if ((gI σ_109 0 4) - (gI σ_109 0 5)) < (8 : Int32) then cl (f_X12_signAt (gI σ_109 0 4) σ_109) (fun r163 _ => bn (pL σ_109 0 7 ((((gL σ_109 0 7) * (27 : Int64)) + r163.toInt64) - (96 : Int64))) (fun σ172 => k175 σ172)) else k175 σ_109))))))
def J_X12_nextToken_52 (σ_52 : Mm) : Option (Int32 × Mm) := bn (pI σ_52 0 5 (gI σ_52 0 4)) (fun σ57 => bn (pL σ57 0 7 (0 : Int64)) (fun σ62 => bn (pI σ62 0 8 (0 : Int32)) (fun σ67 => (if (gI σ67 0 4) = (gI σ67 0 3) then bn (pI σ67 0 6 (0 : Int32)) (fun σ83 => some (0, σ83)) else bn (gI σ67 0 4) (fun i_95 => ck (inb i_95 1000) (bn (gI σ67 1 i_95.toNatClampNeg) (fun v1_96 => jn (J_X12_nextToken_212 σ67 v1_96) (fun k212 => (if v1_96 < (97 : Int32) then k212 else (if (122 : Int32) < v1_96 then k212 else jn (fun (σ_188 : Mm) => jn (fun (y1_208 : Int32) => bn (pI σ_188 0 6 y1_208) (fun σ208 => some (0, σ208))) (fun k208 => (if (8 : Int32) < ((gI σ_188 0 4) - (gI σ_188 0 5)) then k208 (4 : Int32) else k208 (1 : Int32)))) (fun k188 => lq1 (F_X12_nextToken_109 k188) 1000000 σ67)))))))))))
def F_X12_nextToken_0 (k52 : Mm → Option (Int32 × Mm)) (rec0 : Mm → Option (Int32 × Mm)) (σ_0 : Mm) : Option (Int32 × Mm) := (if (gI σ_0 0 4) < (gI σ_0 0 3) then bn (gI σ_0 0 4) (fun i_19 => ck (inb i_19 1000) (jn (bn (pI σ_0 0 4 ((gI σ_0 0 4) + (1 : Int32))) (fun σ46 => rec0 σ46)) (fun k39 => (if (gI σ_0 1 i_19.toNatClampNeg) = (32 : Int32) then k39 else bn (gI σ_0 0 4) (fun i_33 => ck (inb i_33 1000) ((if (gI σ_0 1 i_33.toNatClampNeg) = (10 : Int32) then k39 else k52 σ_0))))))) else k52 σ_0)
def f_X12_nextToken (σ : Mm) : Option (Int32 × Mm) := jn (J_X12_nextToken_52) (fun k52 => lq1 (F_X12_nextToken_0 k52) 1000000 σ)
set_option maxHeartbeats 4000000 in
set_option maxRecDepth 100000 in
theorem x_X12_nextToken (σ : Mm) : Con (wsOf SHM) yX12_nextToken cX12_nextToken 2 none 2 [.ref 0] σ (f_X12_nextToken σ) := by
  refine Con.of_X (by decide +kernel) (Nat.le_of_ble_eq_true rfl) ?_
  unfold f_X12_nextToken
  show X (wsOf SHM) RX12 cX12_nextToken 2 none 2 0 0 [(0, .ref 0)] [] σ _
  refine X_jn (P := fun k => ∀ (σ_52 : Mm), X (wsOf SHM) RX12 cX12_nextToken 2 none 2 0 52 [(0, .ref 0)] [] σ_52 (k σ_52)) (fun σ_52 => ?_) (fun k52 h52 => ?_)
  · unfold J_X12_nextToken_52
    refine X_aload_n (pc := 52) (td kX12_nextToken 26 rfl) rfl 0 rfl ?_
    refine X_aload_n (pc := 53) (td kX12_nextToken 27 rfl) rfl 0 rfl ?_
    refine X_getI (pc := 54) sM_0 rfl fk_X12_180 (td kX12_nextToken 28 rfl) ?_
    refine X_putI (pc := 57) sM_0 rfl fk_X12_183 rfl rfl (td kX12_nextToken 29 rfl) (fun σ57 => ?_)
    refine X_aload_n (pc := 60) (td kX12_nextToken 30 rfl) rfl 0 rfl ?_
    refine X_lconst (v := (0 : Int64)) (pc := 61) (td kX12_nextToken 31 rfl) (by decide) ?_
    refine X_putL (pc := 62) sM_0 rfl fk_X12_186 (td kX12_nextToken 32 rfl) (fun σ62 => ?_)
    refine X_aload_n (pc := 65) (td kX12_nextToken 33 rfl) rfl 0 rfl ?_
    refine X_iconst (v := (0 : Int32)) (pc := 66) (td kX12_nextToken 34 rfl) (by decide) ?_
    refine X_putI (pc := 67) sM_0 rfl fk_X12_190 rfl rfl (td kX12_nextToken 35 rfl) (fun σ67 => ?_)
    refine X_aload_n (pc := 70) (td kX12_nextToken 36 rfl) rfl 0 rfl ?_
    refine X_getI (pc := 71) sM_0 rfl fk_X12_180 (td kX12_nextToken 37 rfl) ?_
    refine X_aload_n (pc := 74) (td kX12_nextToken 38 rfl) rfl 0 rfl ?_
    refine X_getI (pc := 75) sM_0 rfl fk_X12_177 (td kX12_nextToken 39 rfl) ?_
    refine X_icmp_ne (pc := 78) (tgt := 87) (td kX12_nextToken 40 rfl) (by decide) (fun c_78 => ?_) (fun c_78 => ?_)
    · refine X_aload_n (pc := 87) (td kX12_nextToken 45 rfl) rfl 0 rfl ?_
      refine X_getF (b := 1) (pc := 88) sM_0 rfl fk_X12_7 (td kX12_nextToken 46 rfl) ?_
      refine X_aload_n (pc := 91) (td kX12_nextToken 47 rfl) rfl 0 rfl ?_
      refine X_getI (pc := 92) sM_0 rfl fk_X12_180 (td kX12_nextToken 48 rfl) ?_
      refine X_bi (fun i_95 => ?_)
      refine X_iald (pc := 95) sM_1 (td kX12_nextToken 49 rfl) ?_
      refine X_bi (fun v1_96 => ?_)
      refine X_istore_n (L' := [(1, .int v1_96), (0, .ref 0)]) (pc := 96) (td kX12_nextToken 50 rfl) rfl (by decide) rfl ?_
      refine X_iload_n (pc := 97) (td kX12_nextToken 51 rfl) rfl 0 rfl ?_
      refine X_bipush (v := (97 : Int32)) (pc := 98) (td kX12_nextToken 52 rfl) (by decide) ?_
      refine X_jn (P := fun k => X (wsOf SHM) RX12 cX12_nextToken 2 none 2 0 212 [(0, .ref 0), (1, .int v1_96)] [] σ67 k) ?_ (fun k212 h212 => ?_)
      · unfold J_X12_nextToken_212
        refine X_iload_n (pc := 212) (td kX12_nextToken 110 rfl) rfl 1 rfl ?_
        refine X_bipush (v := (48 : Int32)) (pc := 213) (td kX12_nextToken 111 rfl) (by decide) ?_
        refine X_jn (P := fun k => X (wsOf SHM) RX12 cX12_nextToken 2 none 2 0 322 [(0, .ref 0), (1, .int v1_96)] [] σ67 k) ?_ (fun k322 h322 => ?_)
        · unfold J_X12_nextToken_322
          refine X_aload_n (pc := 322) (td kX12_nextToken 168 rfl) rfl 0 rfl ?_
          refine X_dup (pc := 323) (td kX12_nextToken 169 rfl) rfl ?_
          refine X_getI (pc := 324) sM_0 rfl fk_X12_180 (td kX12_nextToken 170 rfl) ?_
          refine X_iconst (v := (1 : Int32)) (pc := 327) (td kX12_nextToken 171 rfl) (by decide) ?_
          refine X_iadd (pc := 328) (td kX12_nextToken 172 rfl) ?_
          refine X_putI (pc := 329) sM_0 rfl fk_X12_180 rfl rfl (td kX12_nextToken 173 rfl) (fun σ329 => ?_)
          refine X_aload_n (pc := 332) (td kX12_nextToken 174 rfl) rfl 0 rfl ?_
          refine X_iload_n (pc := 333) (td kX12_nextToken 175 rfl) rfl 1 rfl ?_
          refine X_bipush (v := (40 : Int32)) (pc := 334) (td kX12_nextToken 176 rfl) (by decide) ?_
          refine X_jn (P := fun k => ∀ (y1_368 : Int32), X (wsOf SHM) RX12 cX12_nextToken 2 none 2 0 368 [] [.int y1_368, .ref 0] σ329 (k y1_368)) (fun y1_368 => ?_) (fun k368 h368 => ?_)
          · refine X_putI (pc := 368) sM_0 rfl fk_X12_193 rfl rfl (td kX12_nextToken 193 rfl) (fun σ368 => ?_)
            exact X_retv (pc := 371) (td kX12_nextToken 194 rfl)
          · refine X_jn (P := fun k => X (wsOf SHM) RX12 cX12_nextToken 2 none 2 0 363 [] [.ref 0] σ329 k) ?_ (fun k363 h363 => ?_)
            · refine X_iconst (v := (3 : Int32)) (pc := 363) (td kX12_nextToken 190 rfl) (by decide) ?_
              refine X_goto (pc := 364) (tgt := 368) (td kX12_nextToken 191 rfl) (by decide) ?_
              exact h368 (3 : Int32)
            · refine X_jn (P := fun k => X (wsOf SHM) RX12 cX12_nextToken 2 none 2 0 345 [(1, .int v1_96)] [.ref 0] σ329 k) ?_ (fun k345 h345 => ?_)
              · refine X_iload_n (pc := 345) (td kX12_nextToken 181 rfl) rfl 0 rfl ?_
                refine X_bipush (v := (45 : Int32)) (pc := 346) (td kX12_nextToken 182 rfl) (by decide) ?_
                refine X_icmp_eq (pc := 348) (tgt := 363) (td kX12_nextToken 183 rfl) (by decide) (fun c_348 => ?_) (fun c_348 => ?_)
                · refine X_sub [] rfl ?_
                  exact h363
                · refine X_iload_n (pc := 351) (td kX12_nextToken 184 rfl) rfl 0 rfl ?_
                  refine X_bipush (v := (59 : Int32)) (pc := 352) (td kX12_nextToken 185 rfl) (by decide) ?_
                  refine X_jn (P := fun k => X (wsOf SHM) RX12 cX12_nextToken 2 none 2 0 367 [] [.ref 0] σ329 k) ?_ (fun k367 h367 => ?_)
                  · refine X_iconst (v := (4 : Int32)) (pc := 367) (td kX12_nextToken 192 rfl) (by decide) ?_
                    exact h368 (4 : Int32)
                  · refine X_icmp_lt (pc := 354) (tgt := 367) (td kX12_nextToken 186 rfl) (by decide) (fun c_354 => ?_) (fun c_354 => ?_)
                    · refine X_sub [] rfl ?_
                      exact h367
                    · refine X_iload_n (pc := 357) (td kX12_nextToken 187 rfl) rfl 0 rfl ?_
                      refine X_bipush (v := (61 : Int32)) (pc := 358) (td kX12_nextToken 188 rfl) (by decide) ?_
                      refine X_icmp_gt (pc := 360) (tgt := 367) (td kX12_nextToken 189 rfl) (by decide) (fun c_360 => ?_) (fun c_360 => ?_)
                      · refine X_sub [] rfl ?_
                        exact h367
                      · refine X_sub [] rfl ?_
                        exact h363
              · refine X_icmp_lt (pc := 336) (tgt := 345) (td kX12_nextToken 177 rfl) (by decide) (fun c_336 => ?_) (fun c_336 => ?_)
                · refine X_sub [1] rfl ?_
                  exact h345
                · refine X_iload_n (pc := 339) (td kX12_nextToken 178 rfl) rfl 1 rfl ?_
                  refine X_bipush (v := (43 : Int32)) (pc := 340) (td kX12_nextToken 179 rfl) (by decide) ?_
                  refine X_icmp_le (pc := 342) (tgt := 363) (td kX12_nextToken 180 rfl) (by decide) (fun c_342 => ?_) (fun c_342 => ?_)
                  · refine X_sub [] rfl ?_
                    exact h363
                  · refine X_sub [1] rfl ?_
                    exact h345
        · refine X_icmp_lt (pc := 215) (tgt := 322) (td kX12_nextToken 112 rfl) (by decide) (fun c_215 => ?_) (fun c_215 => ?_)
          · exact h322
          · refine X_iload_n (pc := 218) (td kX12_nextToken 113 rfl) rfl 1 rfl ?_
            refine X_bipush (v := (57 : Int32)) (pc := 219) (td kX12_nextToken 114 rfl) (by decide) ?_
            refine X_icmp_gt (pc := 221) (tgt := 322) (td kX12_nextToken 115 rfl) (by decide) (fun c_221 => ?_) (fun c_221 => ?_)
            · exact h322
            · refine X_jn (P := fun k => ∀ (σ_299 : Mm), X (wsOf SHM) RX12 cX12_nextToken 2 none 2 0 299 [(0, .ref 0)] [] σ_299 (k σ_299)) (fun σ_299 => ?_) (fun k299 h299 => ?_)
              · refine X_aload_n (pc := 299) (td kX12_nextToken 155 rfl) rfl 0 rfl ?_
                refine X_aload_n (pc := 300) (td kX12_nextToken 156 rfl) rfl 0 rfl ?_
                refine X_getI (pc := 301) sM_0 rfl fk_X12_180 (td kX12_nextToken 157 rfl) ?_
                refine X_aload_n (pc := 304) (td kX12_nextToken 158 rfl) rfl 0 rfl ?_
                refine X_getI (pc := 305) sM_0 rfl fk_X12_183 (td kX12_nextToken 159 rfl) ?_
                refine X_isub (pc := 308) (td kX12_nextToken 160 rfl) ?_
                refine X_iconst (v := (4 : Int32)) (pc := 309) (td kX12_nextToken 161 rfl) (by decide) ?_
                refine X_jn (P := fun k => ∀ (y1_318 : Int32), X (wsOf SHM) RX12 cX12_nextToken 2 none 2 0 318 [] [.int y1_318, .ref 0] σ_299 (k y1_318)) (fun y1_318 => ?_) (fun k318 h318 => ?_)
                · refine X_putI (pc := 318) sM_0 rfl fk_X12_193 rfl rfl (td kX12_nextToken 166 rfl) (fun σ318 => ?_)
                  exact X_retv (pc := 321) (td kX12_nextToken 167 rfl)
                · refine X_icmp_le (pc := 310) (tgt := 317) (td kX12_nextToken 162 rfl) (by decide) (fun c_310 => ?_) (fun c_310 => ?_)
                  · refine X_iconst (v := (2 : Int32)) (pc := 317) (td kX12_nextToken 165 rfl) (by decide) ?_
                    refine X_sub [] rfl ?_
                    exact h318 (2 : Int32)
                  · refine X_iconst (v := (4 : Int32)) (pc := 313) (td kX12_nextToken 163 rfl) (by decide) ?_
                    refine X_goto (pc := 314) (tgt := 318) (td kX12_nextToken 164 rfl) (by decide) ?_
                    refine X_sub [] rfl ?_
                    exact h318 (4 : Int32)
              · refine X_sub [0] rfl ?_
                refine lq1_ind (P := fun σ_224 E => X (wsOf SHM) RX12 cX12_nextToken 2 none 2 0 224 [(0, .ref 0)] [] σ_224 E) (fun _ => X_none) (fun rec224 hrec224 σ_224 => ?_) _ _
                unfold F_X12_nextToken_224
                refine X_aload_n (pc := 224) (td kX12_nextToken 116 rfl) rfl 0 rfl ?_
                refine X_aload_n (pc := 225) (td kX12_nextToken 117 rfl) rfl 0 rfl ?_
                refine X_getI (pc := 226) sM_0 rfl fk_X12_180 (td kX12_nextToken 118 rfl) ?_
                refine X_callip (pc := 229) (As := [.int (gI σ_224 0 4)]) (st := []) (p_X12_signAt (gI σ_224 0 4) σ_224) sM_0 (x_X12_signAt (gI σ_224 0 4) σ_224) mkX12_signAt lk_X12_196 (by omega) rfl rfl (Nat.le_of_ble_eq_true rfl) (td kX12_nextToken 119 rfl) (fun r229 hr229 => ?_)
                refine X_bipush (v := (48 : Int32)) (pc := 232) (td kX12_nextToken 120 rfl) (by decide) ?_
                refine X_icmp_lt (pc := 234) (tgt := 299) (td kX12_nextToken 121 rfl) (by decide) (fun c_234 => ?_) (fun c_234 => ?_)
                · exact h299 σ_224
                · refine X_aload_n (pc := 237) (td kX12_nextToken 122 rfl) rfl 0 rfl ?_
                  refine X_aload_n (pc := 238) (td kX12_nextToken 123 rfl) rfl 0 rfl ?_
                  refine X_getI (pc := 239) sM_0 rfl fk_X12_180 (td kX12_nextToken 124 rfl) ?_
                  refine X_callip (pc := 242) (As := [.int (gI σ_224 0 4)]) (st := []) (p_X12_signAt (gI σ_224 0 4) σ_224) sM_0 (x_X12_signAt (gI σ_224 0 4) σ_224) mkX12_signAt lk_X12_196 (by omega) rfl rfl (Nat.le_of_ble_eq_true rfl) (td kX12_nextToken 125 rfl) (fun r242 hr242 => ?_)
                  refine X_bipush (v := (57 : Int32)) (pc := 245) (td kX12_nextToken 126 rfl) (by decide) ?_
                  refine X_icmp_gt (pc := 247) (tgt := 299) (td kX12_nextToken 127 rfl) (by decide) (fun c_247 => ?_) (fun c_247 => ?_)
                  · exact h299 σ_224
                  · refine X_aload_n (pc := 250) (td kX12_nextToken 128 rfl) rfl 0 rfl ?_
                    refine X_getI (pc := 251) sM_0 rfl fk_X12_180 (td kX12_nextToken 129 rfl) ?_
                    refine X_aload_n (pc := 254) (td kX12_nextToken 130 rfl) rfl 0 rfl ?_
                    refine X_getI (pc := 255) sM_0 rfl fk_X12_183 (td kX12_nextToken 131 rfl) ?_
                    refine X_isub (pc := 258) (td kX12_nextToken 132 rfl) ?_
                    refine X_iconst (v := (4 : Int32)) (pc := 259) (td kX12_nextToken 133 rfl) (by decide) ?_
                    refine X_jn (P := fun k => ∀ (σ_286 : Mm), X (wsOf SHM) RX12 cX12_nextToken 2 none 2 0 286 [(0, .ref 0)] [] σ_286 (k σ_286)) (fun σ_286 => ?_) (fun k286 h286 => ?_)
                    · refine X_aload_n (pc := 286) (td kX12_nextToken 148 rfl) rfl 0 rfl ?_
                      refine X_dup (pc := 287) (td kX12_nextToken 149 rfl) rfl ?_
                      refine X_getI (pc := 288) sM_0 rfl fk_X12_180 (td kX12_nextToken 150 rfl) ?_
                      refine X_iconst (v := (1 : Int32)) (pc := 291) (td kX12_nextToken 151 rfl) (by decide) ?_
                      refine X_iadd (pc := 292) (td kX12_nextToken 152 rfl) ?_
                      refine X_putI (pc := 293) sM_0 rfl fk_X12_180 rfl rfl (td kX12_nextToken 153 rfl) (fun σ293 => ?_)
                      refine X_goto (pc := 296) (tgt := 224) (td kX12_nextToken 154 rfl) (by decide) ?_
                      exact hrec224 σ293
                    · refine X_icmp_ge (pc := 260) (tgt := 286) (td kX12_nextToken 134 rfl) (by decide) (fun c_260 => ?_) (fun c_260 => ?_)
                      · exact h286 σ_224
                      · refine X_aload_n (pc := 263) (td kX12_nextToken 135 rfl) rfl 0 rfl ?_
                        refine X_aload_n (pc := 264) (td kX12_nextToken 136 rfl) rfl 0 rfl ?_
                        refine X_getI (pc := 265) sM_0 rfl fk_X12_190 (td kX12_nextToken 137 rfl) ?_
                        refine X_bipush (v := (10 : Int32)) (pc := 268) (td kX12_nextToken 138 rfl) (by decide) ?_
                        refine X_imul (pc := 270) (td kX12_nextToken 139 rfl) ?_
                        refine X_aload_n (pc := 271) (td kX12_nextToken 140 rfl) rfl 0 rfl ?_
                        refine X_aload_n (pc := 272) (td kX12_nextToken 141 rfl) rfl 0 rfl ?_
                        refine X_getI (pc := 273) sM_0 rfl fk_X12_180 (td kX12_nextToken 142 rfl) ?_
                        refine X_callip (pc := 276) (As := [.int (gI σ_224 0 4)]) (st := [.int ((gI σ_224 0 8) * (10 : Int32)), .ref 0]) (p_X12_signAt (gI σ_224 0 4) σ_224) sM_0 (x_X12_signAt (gI σ_224 0 4) σ_224) mkX12_signAt lk_X12_196 (by omega) rfl rfl (Nat.le_of_ble_eq_true rfl) (td kX12_nextToken 143 rfl) (fun r276 hr276 => ?_)
                        refine X_iadd (pc := 279) (td kX12_nextToken 144 rfl) ?_
                        refine X_bipush (v := (48 : Int32)) (pc := 280) (td kX12_nextToken 145 rfl) (by decide) ?_
                        refine X_isub (pc := 282) (td kX12_nextToken 146 rfl) ?_
                        refine X_putI (pc := 283) sM_0 rfl fk_X12_190 rfl rfl (td kX12_nextToken 147 rfl) (fun σ283 => ?_)
                        exact h286 σ283
      · refine X_icmp_lt (pc := 100) (tgt := 212) (td kX12_nextToken 53 rfl) (by decide) (fun c_100 => ?_) (fun c_100 => ?_)
        · refine X_sub [1, 0] rfl ?_
          exact h212
        · refine X_iload_n (pc := 103) (td kX12_nextToken 54 rfl) rfl 0 rfl ?_
          refine X_bipush (v := (122 : Int32)) (pc := 104) (td kX12_nextToken 55 rfl) (by decide) ?_
          refine X_icmp_gt (pc := 106) (tgt := 212) (td kX12_nextToken 56 rfl) (by decide) (fun c_106 => ?_) (fun c_106 => ?_)
          · refine X_sub [1, 0] rfl ?_
            exact h212
          · refine X_jn (P := fun k => ∀ (σ_188 : Mm), X (wsOf SHM) RX12 cX12_nextToken 2 none 2 0 188 [(0, .ref 0)] [] σ_188 (k σ_188)) (fun σ_188 => ?_) (fun k188 h188 => ?_)
            · refine X_aload_n (pc := 188) (td kX12_nextToken 97 rfl) rfl 0 rfl ?_
              refine X_aload_n (pc := 189) (td kX12_nextToken 98 rfl) rfl 0 rfl ?_
              refine X_getI (pc := 190) sM_0 rfl fk_X12_180 (td kX12_nextToken 99 rfl) ?_
              refine X_aload_n (pc := 193) (td kX12_nextToken 100 rfl) rfl 0 rfl ?_
              refine X_getI (pc := 194) sM_0 rfl fk_X12_183 (td kX12_nextToken 101 rfl) ?_
              refine X_isub (pc := 197) (td kX12_nextToken 102 rfl) ?_
              refine X_bipush (v := (8 : Int32)) (pc := 198) (td kX12_nextToken 103 rfl) (by decide) ?_
              refine X_jn (P := fun k => ∀ (y1_208 : Int32), X (wsOf SHM) RX12 cX12_nextToken 2 none 2 0 208 [] [.int y1_208, .ref 0] σ_188 (k y1_208)) (fun y1_208 => ?_) (fun k208 h208 => ?_)
              · refine X_putI (pc := 208) sM_0 rfl fk_X12_193 rfl rfl (td kX12_nextToken 108 rfl) (fun σ208 => ?_)
                exact X_retv (pc := 211) (td kX12_nextToken 109 rfl)
              · refine X_icmp_le (pc := 200) (tgt := 207) (td kX12_nextToken 104 rfl) (by decide) (fun c_200 => ?_) (fun c_200 => ?_)
                · refine X_iconst (v := (1 : Int32)) (pc := 207) (td kX12_nextToken 107 rfl) (by decide) ?_
                  refine X_sub [] rfl ?_
                  exact h208 (1 : Int32)
                · refine X_iconst (v := (4 : Int32)) (pc := 203) (td kX12_nextToken 105 rfl) (by decide) ?_
                  refine X_goto (pc := 204) (tgt := 208) (td kX12_nextToken 106 rfl) (by decide) ?_
                  refine X_sub [] rfl ?_
                  exact h208 (4 : Int32)
            · refine X_sub [1] rfl ?_
              refine lq1_ind (P := fun σ_109 E => X (wsOf SHM) RX12 cX12_nextToken 2 none 2 0 109 [(0, .ref 0)] [] σ_109 E) (fun _ => X_none) (fun rec109 hrec109 σ_109 => ?_) _ _
              unfold F_X12_nextToken_109
              refine X_aload_n (pc := 109) (td kX12_nextToken 57 rfl) rfl 0 rfl ?_
              refine X_aload_n (pc := 110) (td kX12_nextToken 58 rfl) rfl 0 rfl ?_
              refine X_getI (pc := 111) sM_0 rfl fk_X12_180 (td kX12_nextToken 59 rfl) ?_
              refine X_callip (pc := 114) (As := [.int (gI σ_109 0 4)]) (st := []) (p_X12_signAt (gI σ_109 0 4) σ_109) sM_0 (x_X12_signAt (gI σ_109 0 4) σ_109) mkX12_signAt lk_X12_196 (by omega) rfl rfl (Nat.le_of_ble_eq_true rfl) (td kX12_nextToken 60 rfl) (fun r114 hr114 => ?_)
              refine X_bipush (v := (97 : Int32)) (pc := 117) (td kX12_nextToken 61 rfl) (by decide) ?_
              refine X_icmp_lt (pc := 119) (tgt := 188) (td kX12_nextToken 62 rfl) (by decide) (fun c_119 => ?_) (fun c_119 => ?_)
              · exact h188 σ_109
              · refine X_aload_n (pc := 122) (td kX12_nextToken 63 rfl) rfl 0 rfl ?_
                refine X_aload_n (pc := 123) (td kX12_nextToken 64 rfl) rfl 0 rfl ?_
                refine X_getI (pc := 124) sM_0 rfl fk_X12_180 (td kX12_nextToken 65 rfl) ?_
                refine X_callip (pc := 127) (As := [.int (gI σ_109 0 4)]) (st := []) (p_X12_signAt (gI σ_109 0 4) σ_109) sM_0 (x_X12_signAt (gI σ_109 0 4) σ_109) mkX12_signAt lk_X12_196 (by omega) rfl rfl (Nat.le_of_ble_eq_true rfl) (td kX12_nextToken 66 rfl) (fun r127 hr127 => ?_)
                refine X_bipush (v := (122 : Int32)) (pc := 130) (td kX12_nextToken 67 rfl) (by decide) ?_
                refine X_icmp_gt (pc := 132) (tgt := 188) (td kX12_nextToken 68 rfl) (by decide) (fun c_132 => ?_) (fun c_132 => ?_)
                · exact h188 σ_109
                · refine X_aload_n (pc := 135) (td kX12_nextToken 69 rfl) rfl 0 rfl ?_
                  refine X_getI (pc := 136) sM_0 rfl fk_X12_180 (td kX12_nextToken 70 rfl) ?_
                  refine X_aload_n (pc := 139) (td kX12_nextToken 71 rfl) rfl 0 rfl ?_
                  refine X_getI (pc := 140) sM_0 rfl fk_X12_183 (td kX12_nextToken 72 rfl) ?_
                  refine X_isub (pc := 143) (td kX12_nextToken 73 rfl) ?_
                  refine X_bipush (v := (8 : Int32)) (pc := 144) (td kX12_nextToken 74 rfl) (by decide) ?_
                  refine X_jn (P := fun k => ∀ (σ_175 : Mm), X (wsOf SHM) RX12 cX12_nextToken 2 none 2 0 175 [(0, .ref 0)] [] σ_175 (k σ_175)) (fun σ_175 => ?_) (fun k175 h175 => ?_)
                  · refine X_aload_n (pc := 175) (td kX12_nextToken 90 rfl) rfl 0 rfl ?_
                    refine X_dup (pc := 176) (td kX12_nextToken 91 rfl) rfl ?_
                    refine X_getI (pc := 177) sM_0 rfl fk_X12_180 (td kX12_nextToken 92 rfl) ?_
                    refine X_iconst (v := (1 : Int32)) (pc := 180) (td kX12_nextToken 93 rfl) (by decide) ?_
                    refine X_iadd (pc := 181) (td kX12_nextToken 94 rfl) ?_
                    refine X_putI (pc := 182) sM_0 rfl fk_X12_180 rfl rfl (td kX12_nextToken 95 rfl) (fun σ182 => ?_)
                    refine X_goto (pc := 185) (tgt := 109) (td kX12_nextToken 96 rfl) (by decide) ?_
                    exact hrec109 σ182
                  · refine X_icmp_ge (pc := 146) (tgt := 175) (td kX12_nextToken 75 rfl) (by decide) (fun c_146 => ?_) (fun c_146 => ?_)
                    · exact h175 σ_109
                    · refine X_aload_n (pc := 149) (td kX12_nextToken 76 rfl) rfl 0 rfl ?_
                      refine X_aload_n (pc := 150) (td kX12_nextToken 77 rfl) rfl 0 rfl ?_
                      refine X_getL (pc := 151) sM_0 rfl fk_X12_186 (td kX12_nextToken 78 rfl) ?_
                      refine X_ldc2 (v := (27 : Int64)) (pc := 154) (td kX12_nextToken 79 rfl) cn_X12_200 ?_
                      refine X_lmul (pc := 157) (td kX12_nextToken 80 rfl) ?_
                      refine X_aload_n (pc := 158) (td kX12_nextToken 81 rfl) rfl 0 rfl ?_
                      refine X_aload_n (pc := 159) (td kX12_nextToken 82 rfl) rfl 0 rfl ?_
                      refine X_getI (pc := 160) sM_0 rfl fk_X12_180 (td kX12_nextToken 83 rfl) ?_
                      refine X_callip (pc := 163) (As := [.int (gI σ_109 0 4)]) (st := [.long ((gL σ_109 0 7) * (27 : Int64)), .ref 0]) (p_X12_signAt (gI σ_109 0 4) σ_109) sM_0 (x_X12_signAt (gI σ_109 0 4) σ_109) mkX12_signAt lk_X12_196 (by omega) rfl rfl (Nat.le_of_ble_eq_true rfl) (td kX12_nextToken 84 rfl) (fun r163 hr163 => ?_)
                      refine X_i2l (pc := 166) (td kX12_nextToken 85 rfl) ?_
                      refine X_ladd (pc := 167) (td kX12_nextToken 86 rfl) ?_
                      refine X_ldc2 (v := (96 : Int64)) (pc := 168) (td kX12_nextToken 87 rfl) cn_X12_202 ?_
                      refine X_lsub (pc := 171) (td kX12_nextToken 88 rfl) ?_
                      refine X_putL (pc := 172) sM_0 rfl fk_X12_186 (td kX12_nextToken 89 rfl) (fun σ172 => ?_)
                      exact h175 σ172
    · refine X_aload_n (pc := 81) (td kX12_nextToken 41 rfl) rfl 0 rfl ?_
      refine X_iconst (v := (0 : Int32)) (pc := 82) (td kX12_nextToken 42 rfl) (by decide) ?_
      refine X_putI (pc := 83) sM_0 rfl fk_X12_193 rfl rfl (td kX12_nextToken 43 rfl) (fun σ83 => ?_)
      exact X_retv (pc := 86) (td kX12_nextToken 44 rfl)
  · refine lq1_ind (P := fun σ_0 E => X (wsOf SHM) RX12 cX12_nextToken 2 none 2 0 0 [(0, .ref 0)] [] σ_0 E) (fun _ => X_none) (fun rec0 hrec0 σ_0 => ?_) _ _
    unfold F_X12_nextToken_0
    refine X_aload_n (pc := 0) (td kX12_nextToken 0 rfl) rfl 0 rfl ?_
    refine X_getI (pc := 1) sM_0 rfl fk_X12_180 (td kX12_nextToken 1 rfl) ?_
    refine X_aload_n (pc := 4) (td kX12_nextToken 2 rfl) rfl 0 rfl ?_
    refine X_getI (pc := 5) sM_0 rfl fk_X12_177 (td kX12_nextToken 3 rfl) ?_
    refine X_icmp_ge (pc := 8) (tgt := 52) (td kX12_nextToken 4 rfl) (by decide) (fun c_8 => ?_) (fun c_8 => ?_)
    · exact h52 σ_0
    · refine X_aload_n (pc := 11) (td kX12_nextToken 5 rfl) rfl 0 rfl ?_
      refine X_getF (b := 1) (pc := 12) sM_0 rfl fk_X12_7 (td kX12_nextToken 6 rfl) ?_
      refine X_aload_n (pc := 15) (td kX12_nextToken 7 rfl) rfl 0 rfl ?_
      refine X_getI (pc := 16) sM_0 rfl fk_X12_180 (td kX12_nextToken 8 rfl) ?_
      refine X_bi (fun i_19 => ?_)
      refine X_iald (pc := 19) sM_1 (td kX12_nextToken 9 rfl) ?_
      refine X_bipush (v := (32 : Int32)) (pc := 20) (td kX12_nextToken 10 rfl) (by decide) ?_
      refine X_jn (P := fun k => X (wsOf SHM) RX12 cX12_nextToken 2 none 2 0 39 [(0, .ref 0)] [] σ_0 k) ?_ (fun k39 h39 => ?_)
      · refine X_aload_n (pc := 39) (td kX12_nextToken 19 rfl) rfl 0 rfl ?_
        refine X_dup (pc := 40) (td kX12_nextToken 20 rfl) rfl ?_
        refine X_getI (pc := 41) sM_0 rfl fk_X12_180 (td kX12_nextToken 21 rfl) ?_
        refine X_iconst (v := (1 : Int32)) (pc := 44) (td kX12_nextToken 22 rfl) (by decide) ?_
        refine X_iadd (pc := 45) (td kX12_nextToken 23 rfl) ?_
        refine X_putI (pc := 46) sM_0 rfl fk_X12_180 rfl rfl (td kX12_nextToken 24 rfl) (fun σ46 => ?_)
        refine X_goto (pc := 49) (tgt := 0) (td kX12_nextToken 25 rfl) (by decide) ?_
        exact hrec0 σ46
      · refine X_icmp_eq (pc := 22) (tgt := 39) (td kX12_nextToken 11 rfl) (by decide) (fun c_22 => ?_) (fun c_22 => ?_)
        · exact h39
        · refine X_aload_n (pc := 25) (td kX12_nextToken 12 rfl) rfl 0 rfl ?_
          refine X_getF (b := 1) (pc := 26) sM_0 rfl fk_X12_7 (td kX12_nextToken 13 rfl) ?_
          refine X_aload_n (pc := 29) (td kX12_nextToken 14 rfl) rfl 0 rfl ?_
          refine X_getI (pc := 30) sM_0 rfl fk_X12_180 (td kX12_nextToken 15 rfl) ?_
          refine X_bi (fun i_33 => ?_)
          refine X_iald (pc := 33) sM_1 (td kX12_nextToken 16 rfl) ?_
          refine X_bipush (v := (10 : Int32)) (pc := 34) (td kX12_nextToken 17 rfl) (by decide) ?_
          refine X_icmp_ne (pc := 36) (tgt := 52) (td kX12_nextToken 18 rfl) (by decide) (fun c_36 => ?_) (fun c_36 => ?_)
          · exact h52 σ_0
          · exact h39
def f_X12_begins (σ : Mm) : Option (Int32 × Mm) := bn (pI σ 0 3 (gI σ 0 1)) (fun σ5 => bn (pI σ5 0 1 (0 : Int32)) (fun σ10 => bn (pI σ10 0 4 (0 : Int32)) (fun σ15 => cl (f_X12_nextToken σ15) (fun _ σ19 => some (0, σ19)))))
set_option maxHeartbeats 4000000 in
set_option maxRecDepth 100000 in
theorem x_X12_begins (σ : Mm) : Con (wsOf SHM) yX12_begins cX12_begins 1 none 3 [.ref 0] σ (f_X12_begins σ) := by
  refine Con.of_X (by decide +kernel) (Nat.le_of_ble_eq_true rfl) ?_
  unfold f_X12_begins
  show X (wsOf SHM) RX12 cX12_begins 1 none 3 0 0 [(0, .ref 0)] [] σ _
  refine X_aload_n (pc := 0) (td kX12_begins 0 rfl) rfl 0 rfl ?_
  refine X_aload_n (pc := 1) (td kX12_begins 1 rfl) rfl 0 rfl ?_
  refine X_getI (pc := 2) sM_0 rfl fk_X12_174 (td kX12_begins 2 rfl) ?_
  refine X_putI (pc := 5) sM_0 rfl fk_X12_177 rfl rfl (td kX12_begins 3 rfl) (fun σ5 => ?_)
  refine X_aload_n (pc := 8) (td kX12_begins 4 rfl) rfl 0 rfl ?_
  refine X_iconst (v := (0 : Int32)) (pc := 9) (td kX12_begins 5 rfl) (by decide) ?_
  refine X_putI (pc := 10) sM_0 rfl fk_X12_174 rfl rfl (td kX12_begins 6 rfl) (fun σ10 => ?_)
  refine X_aload_n (pc := 13) (td kX12_begins 7 rfl) rfl 0 rfl ?_
  refine X_iconst (v := (0 : Int32)) (pc := 14) (td kX12_begins 8 rfl) (by decide) ?_
  refine X_putI (pc := 15) sM_0 rfl fk_X12_180 rfl rfl (td kX12_begins 9 rfl) (fun σ15 => ?_)
  refine X_aload_n (pc := 18) (td kX12_begins 10 rfl) rfl 0 rfl ?_
  refine X_callv (pc := 19) (As := []) (st := []) sM_0 (x_X12_nextToken σ15) mkX12_nextToken lk_X12_239 (by omega) rfl rfl (Nat.le_of_ble_eq_true rfl) (td kX12_begins 11 rfl) (fun _ σ19 _ => ?_)
  exact X_retv (pc := 22) (td kX12_begins 12 rfl)
def f_X12_between (p1 : Int32) (p2 : Int32) (p3 : Int32) (σ : Mm) : Option (Int32 × Mm) := (if p1 < p2 then some (p2, σ) else (if p3 < p1 then some (p3, σ) else some (p1, σ)))
set_option maxHeartbeats 4000000 in
set_option maxRecDepth 100000 in
theorem x_X12_between (p1 : Int32) (p2 : Int32) (p3 : Int32) (σ : Mm) : Con (wsOf SHM) yX12_between cX12_between 3 (some .int) 1 [.int p1, .int p2, .int p3] σ (f_X12_between p1 p2 p3 σ) := by
  refine Con.of_X (by decide +kernel) (Nat.le_of_ble_eq_true rfl) ?_
  unfold f_X12_between
  show X (wsOf SHM) RX12 cX12_between 3 (some .int) 1 0 0 [(0, .int p1), (1, .int p2), (2, .int p3)] [] σ _
  refine X_iload_n (pc := 0) (td kX12_between 0 rfl) rfl 0 rfl ?_
  refine X_iload_n (pc := 1) (td kX12_between 1 rfl) rfl 1 rfl ?_
  refine X_icmp_ge (pc := 2) (tgt := 9) (td kX12_between 2 rfl) (by decide) (fun c_2 => ?_) (fun c_2 => ?_)
  · refine X_iload_n (pc := 9) (td kX12_between 5 rfl) rfl 0 rfl ?_
    refine X_iload_n (pc := 10) (td kX12_between 6 rfl) rfl 2 rfl ?_
    refine X_icmp_le (pc := 11) (tgt := 18) (td kX12_between 7 rfl) (by decide) (fun c_11 => ?_) (fun c_11 => ?_)
    · refine X_iload_n (pc := 18) (td kX12_between 10 rfl) rfl 0 rfl ?_
      exact X_ret (pc := 19) (td kX12_between 11 rfl) rfl
    · refine X_iload_n (pc := 14) (td kX12_between 8 rfl) rfl 2 rfl ?_
      refine X_goto (pc := 15) (tgt := 19) (td kX12_between 9 rfl) (by decide) ?_
      exact X_ret (pc := 19) (td kX12_between 11 rfl) rfl
  · refine X_iload_n (pc := 5) (td kX12_between 3 rfl) rfl 1 rfl ?_
    refine X_goto (pc := 6) (tgt := 19) (td kX12_between 4 rfl) (by decide) ?_
    exact X_ret (pc := 19) (td kX12_between 11 rfl) rfl
set_option maxHeartbeats 4000000 in
theorem p_X12_between (p1 : Int32) (p2 : Int32) (p3 : Int32) (σ : Mm) : Pu σ (f_X12_between p1 p2 p3 σ) := by
  unfold f_X12_between
  refine Pu_if ?_ ?_
  · exact Pu_some
  · refine Pu_if ?_ ?_
    · exact Pu_some
    · exact Pu_some
def F_X12_bits_4 (p1 : Int32) (k24 : Int32 → Option (Int32 × Mm)) (rec4 : Int32 → Int32 → Option (Int32 × Mm)) (x1_4 : Int32) (x2_4 : Int32) : Option (Int32 × Mm) := (if x2_4 < (8 : Int32) then bn (x1_4 + ((p1 >>> (x2_4 &&& 31)) &&& (1 : Int32))) (fun v1_17 => rec4 v1_17 (x2_4 + (1 : Int32))) else k24 x1_4)
def f_X12_bits (p1 : Int32) (σ : Mm) : Option (Int32 × Mm) := jn (fun (x1_24 : Int32) => some (x1_24, σ)) (fun k24 => lq2 (F_X12_bits_4 p1 k24) 1000000 (0 : Int32) (0 : Int32))
set_option maxHeartbeats 4000000 in
set_option maxRecDepth 100000 in
theorem x_X12_bits (p1 : Int32) (σ : Mm) : Con (wsOf SHM) yX12_bits cX12_bits 3 (some .int) 1 [.int p1] σ (f_X12_bits p1 σ) := by
  refine Con.of_X (by decide +kernel) (Nat.le_of_ble_eq_true rfl) ?_
  unfold f_X12_bits
  show X (wsOf SHM) RX12 cX12_bits 3 (some .int) 1 0 0 [(0, .int p1)] [] σ _
  refine X_iconst (v := (0 : Int32)) (pc := 0) (td kX12_bits 0 rfl) (by decide) ?_
  refine X_istore_n (L' := [(1, .int (0 : Int32)), (0, .int p1)]) (pc := 1) (td kX12_bits 1 rfl) rfl (by decide) rfl ?_
  refine X_iconst (v := (0 : Int32)) (pc := 2) (td kX12_bits 2 rfl) (by decide) ?_
  refine X_istore_n (L' := [(2, .int (0 : Int32)), (1, .int (0 : Int32)), (0, .int p1)]) (pc := 3) (td kX12_bits 3 rfl) rfl (by decide) rfl ?_
  refine X_jn (P := fun k => ∀ (x1_24 : Int32), X (wsOf SHM) RX12 cX12_bits 3 (some .int) 1 0 24 [(1, .int x1_24)] [] σ (k x1_24)) (fun x1_24 => ?_) (fun k24 h24 => ?_)
  · refine X_iload_n (pc := 24) (td kX12_bits 17 rfl) rfl 0 rfl ?_
    exact X_ret (pc := 25) (td kX12_bits 18 rfl) rfl
  · refine X_sub [2, 1, 0] rfl ?_
    refine lq2_ind (P := fun x1_4 x2_4 E => X (wsOf SHM) RX12 cX12_bits 3 (some .int) 1 0 4 [(0, .int p1), (1, .int x1_4), (2, .int x2_4)] [] σ E) (fun _ _ => X_none) (fun rec4 hrec4 x1_4 x2_4 => ?_) _ _ _
    unfold F_X12_bits_4
    refine X_iload_n (pc := 4) (td kX12_bits 4 rfl) rfl 2 rfl ?_
    refine X_bipush (v := (8 : Int32)) (pc := 5) (td kX12_bits 5 rfl) (by decide) ?_
    refine X_icmp_ge (pc := 7) (tgt := 24) (td kX12_bits 6 rfl) (by decide) (fun c_7 => ?_) (fun c_7 => ?_)
    · refine X_sub [1] rfl ?_
      exact h24 x1_4
    · refine X_iload_n (pc := 10) (td kX12_bits 7 rfl) rfl 1 rfl ?_
      refine X_iload_n (pc := 11) (td kX12_bits 8 rfl) rfl 0 rfl ?_
      refine X_iload_n (pc := 12) (td kX12_bits 9 rfl) rfl 2 rfl ?_
      refine X_ishr (pc := 13) (td kX12_bits 10 rfl) ?_
      refine X_iconst (v := (1 : Int32)) (pc := 14) (td kX12_bits 11 rfl) (by decide) ?_
      refine X_iand (pc := 15) (td kX12_bits 12 rfl) ?_
      refine X_iadd (pc := 16) (td kX12_bits 13 rfl) ?_
      refine X_bi (fun v1_17 => ?_)
      refine X_istore_n (L' := [(1, .int v1_17), (0, .int p1), (2, .int x2_4)]) (pc := 17) (td kX12_bits 14 rfl) rfl (by decide) rfl ?_
      refine X_iinc (v := (x2_4 + (1 : Int32))) (L' := [(2, .int (x2_4 + (1 : Int32))), (1, .int v1_17), (0, .int p1)]) (pc := 18) (td kX12_bits 15 rfl) 2 rfl rfl (by decide) rfl ?_
      refine X_goto (pc := 21) (tgt := 4) (td kX12_bits 16 rfl) (by decide) ?_
      refine X_sub [2, 1, 0] rfl ?_
      exact hrec4 v1_17 (x2_4 + (1 : Int32))
set_option maxHeartbeats 4000000 in
theorem p_X12_bits (p1 : Int32) (σ : Mm) : Pu σ (f_X12_bits p1 σ) := by
  unfold f_X12_bits
  refine Pu_jn (fun k => ∀ (x1_24 : Int32), Pu σ (k x1_24)) (fun x1_24 => ?_) (fun k24 h24 => ?_)
  · exact Pu_some
  · refine lq2_ind (P := fun _ _ E => Pu σ E) (fun _ _ => Pu_none) (fun rec4 hrec4 x1_4 x2_4 => ?_) _ _ _
    unfold F_X12_bits_4
    refine Pu_if ?_ ?_
    · refine Pu_bn (fun _ => ?_)
      exact hrec4 _ _
    · exact h24 _
def F_X12_notes_12 (p1 : Int32) (k52 : Mm → Option (Int32 × Mm)) (rec12 : Int32 → Mm → Option (Int32 × Mm)) (x2_12 : Int32) (σ_12 : Mm) : Option (Int32 × Mm) := ck (inb (2 : Int32) 8) ((if x2_12 < (gI σ_12 2 (2 : Int32).toNatClampNeg) then ck (inb x2_12 6) (jn (fun (σ_46 : Mm) => rec12 (x2_12 + (1 : Int32)) σ_46) (fun k46 => (if (gI σ_12 45 x2_12.toNatClampNeg) < 0 then cl (f_X12_isHome x2_12 σ_12) (fun r33 _ => (if r33 = 0 then k46 σ_12 else ck (inb x2_12 6) (bn (pI σ_12 45 x2_12.toNatClampNeg p1) (fun σ45 => k46 σ45)))) else k46 σ_12))) else k52 σ_12))
def f_X12_notes (p1 : Int32) (σ : Mm) : Option (Int32 × Mm) := cl (f_X12_burning σ) (fun r6 _ => ck (inb p1 100) (bn (pI σ 46 p1.toNatClampNeg r6) (fun σ9 => jn (fun (σ_52 : Mm) => some (0, σ_52)) (fun k52 => lq2 (F_X12_notes_12 p1 k52) 1000000 (0 : Int32) σ9))))
set_option maxHeartbeats 4000000 in
set_option maxRecDepth 100000 in
theorem x_X12_notes (p1 : Int32) (σ : Mm) : Con (wsOf SHM) yX12_notes cX12_notes 3 none 2 [.ref 0, .int p1] σ (f_X12_notes p1 σ) := by
  refine Con.of_X (by decide +kernel) (Nat.le_of_ble_eq_true rfl) ?_
  unfold f_X12_notes
  show X (wsOf SHM) RX12 cX12_notes 3 none 2 0 0 [(0, .ref 0), (1, .int p1)] [] σ _
  refine X_aload_n (pc := 0) (td kX12_notes 0 rfl) rfl 0 rfl ?_
  refine X_getF (b := 46) (pc := 1) sM_0 rfl fk_X12_151 (td kX12_notes 1 rfl) ?_
  refine X_iload_n (pc := 4) (td kX12_notes 2 rfl) rfl 1 rfl ?_
  refine X_aload_n (pc := 5) (td kX12_notes 3 rfl) rfl 0 rfl ?_
  refine X_callip (pc := 6) (As := []) (st := [.int p1, .ref 46]) (p_X12_burning σ) sM_0 (x_X12_burning σ) mkX12_burning lk_X12_451 (by omega) rfl rfl (Nat.le_of_ble_eq_true rfl) (td kX12_notes 4 rfl) (fun r6 hr6 => ?_)
  refine X_iast (pc := 9) sM_46 (td kX12_notes 5 rfl) (fun σ9 => ?_)
  refine X_iconst (v := (0 : Int32)) (pc := 10) (td kX12_notes 6 rfl) (by decide) ?_
  refine X_istore_n (L' := [(2, .int (0 : Int32)), (0, .ref 0), (1, .int p1)]) (pc := 11) (td kX12_notes 7 rfl) rfl (by decide) rfl ?_
  refine X_jn (P := fun k => ∀ (σ_52 : Mm), X (wsOf SHM) RX12 cX12_notes 3 none 2 0 52 [] [] σ_52 (k σ_52)) (fun σ_52 => ?_) (fun k52 h52 => ?_)
  · exact X_retv (pc := 52) (td kX12_notes 30 rfl)
  · refine X_sub [1, 2, 0] rfl ?_
    refine lq2_ind (P := fun x2_12 σ_12 E => X (wsOf SHM) RX12 cX12_notes 3 none 2 0 12 [(0, .ref 0), (1, .int p1), (2, .int x2_12)] [] σ_12 E) (fun _ _ => X_none) (fun rec12 hrec12 x2_12 σ_12 => ?_) _ _ _
    unfold F_X12_notes_12
    refine X_iload_n (pc := 12) (td kX12_notes 8 rfl) rfl 2 rfl ?_
    refine X_aload_n (pc := 13) (td kX12_notes 9 rfl) rfl 0 rfl ?_
    refine X_getF (b := 2) (pc := 14) sM_0 rfl fk_X12_13 (td kX12_notes 10 rfl) ?_
    refine X_iconst (v := (2 : Int32)) (pc := 17) (td kX12_notes 11 rfl) (by decide) ?_
    refine X_iald (pc := 18) sM_2 (td kX12_notes 12 rfl) ?_
    refine X_icmp_ge (pc := 19) (tgt := 52) (td kX12_notes 13 rfl) (by decide) (fun c_19 => ?_) (fun c_19 => ?_)
    · refine X_sub [] rfl ?_
      exact h52 σ_12
    · refine X_aload_n (pc := 22) (td kX12_notes 14 rfl) rfl 0 rfl ?_
      refine X_getF (b := 45) (pc := 23) sM_0 rfl fk_X12_148 (td kX12_notes 15 rfl) ?_
      refine X_iload_n (pc := 26) (td kX12_notes 16 rfl) rfl 2 rfl ?_
      refine X_iald (pc := 27) sM_45 (td kX12_notes 17 rfl) ?_
      refine X_jn (P := fun k => ∀ (σ_46 : Mm), X (wsOf SHM) RX12 cX12_notes 3 none 2 0 46 [(0, .ref 0), (1, .int p1), (2, .int x2_12)] [] σ_46 (k σ_46)) (fun σ_46 => ?_) (fun k46 h46 => ?_)
      · refine X_iinc (v := (x2_12 + (1 : Int32))) (L' := [(2, .int (x2_12 + (1 : Int32))), (0, .ref 0), (1, .int p1)]) (pc := 46) (td kX12_notes 28 rfl) 2 rfl rfl (by decide) rfl ?_
        refine X_goto (pc := 49) (tgt := 12) (td kX12_notes 29 rfl) (by decide) ?_
        refine X_sub [1, 2, 0] rfl ?_
        exact hrec12 (x2_12 + (1 : Int32)) σ_46
      · refine X_if_ge (pc := 28) (tgt := 46) (td kX12_notes 18 rfl) (by decide) (fun c_28 => ?_) (fun c_28 => ?_)
        · exact h46 σ_12
        · refine X_aload_n (pc := 31) (td kX12_notes 19 rfl) rfl 0 rfl ?_
          refine X_iload_n (pc := 32) (td kX12_notes 20 rfl) rfl 2 rfl ?_
          refine X_callip (pc := 33) (As := [.int x2_12]) (st := []) (p_X12_isHome x2_12 σ_12) sM_0 (x_X12_isHome x2_12 σ_12) mkX12_isHome lk_X12_387 (by omega) rfl rfl (Nat.le_of_ble_eq_true rfl) (td kX12_notes 21 rfl) (fun r33 hr33 => ?_)
          refine X_if_eq (pc := 36) (tgt := 46) (td kX12_notes 22 rfl) (by decide) (fun c_36 => ?_) (fun c_36 => ?_)
          · exact h46 σ_12
          · refine X_aload_n (pc := 39) (td kX12_notes 23 rfl) rfl 0 rfl ?_
            refine X_getF (b := 45) (pc := 40) sM_0 rfl fk_X12_148 (td kX12_notes 24 rfl) ?_
            refine X_iload_n (pc := 43) (td kX12_notes 25 rfl) rfl 2 rfl ?_
            refine X_iload_n (pc := 44) (td kX12_notes 26 rfl) rfl 1 rfl ?_
            refine X_iast (pc := 45) sM_45 (td kX12_notes 27 rfl) (fun σ45 => ?_)
            exact h46 σ45
def f_X12_opens (p1 : Int32) (σ : Mm) : Option (Int32 × Mm) := ck (inb p1 7) (bn (pI σ 18 p1.toNatClampNeg (0 : Int32)) (fun σ6 => ck (inb p1 7) (bn (pI σ6 20 p1.toNatClampNeg (0 : Int32)) (fun σ13 => ck (inb p1 7) (bn (pI σ13 21 p1.toNatClampNeg (0 : Int32)) (fun σ20 => ck (inb p1 7) (bn (pI σ20 22 p1.toNatClampNeg (20 : Int32)) (fun σ28 => ck (inb p1 7) (bn (pI σ28 24 p1.toNatClampNeg (0 : Int32)) (fun σ35 => some (0, σ35)))))))))))
set_option maxHeartbeats 4000000 in
set_option maxRecDepth 100000 in
theorem x_X12_opens (p1 : Int32) (σ : Mm) : Con (wsOf SHM) yX12_opens cX12_opens 2 none 1 [.ref 0, .int p1] σ (f_X12_opens p1 σ) := by
  refine Con.of_X (by decide +kernel) (Nat.le_of_ble_eq_true rfl) ?_
  unfold f_X12_opens
  show X (wsOf SHM) RX12 cX12_opens 2 none 1 0 0 [(0, .ref 0), (1, .int p1)] [] σ _
  refine X_aload_n (pc := 0) (td kX12_opens 0 rfl) rfl 0 rfl ?_
  refine X_getF (b := 18) (pc := 1) sM_0 rfl fk_X12_63 (td kX12_opens 1 rfl) ?_
  refine X_iload_n (pc := 4) (td kX12_opens 2 rfl) rfl 1 rfl ?_
  refine X_iconst (v := (0 : Int32)) (pc := 5) (td kX12_opens 3 rfl) (by decide) ?_
  refine X_iast (pc := 6) sM_18 (td kX12_opens 4 rfl) (fun σ6 => ?_)
  refine X_aload_n (pc := 7) (td kX12_opens 5 rfl) rfl 0 rfl ?_
  refine X_getF (b := 20) (pc := 8) sM_0 rfl fk_X12_69 (td kX12_opens 6 rfl) ?_
  refine X_iload_n (pc := 11) (td kX12_opens 7 rfl) rfl 1 rfl ?_
  refine X_iconst (v := (0 : Int32)) (pc := 12) (td kX12_opens 8 rfl) (by decide) ?_
  refine X_iast (pc := 13) sM_20 (td kX12_opens 9 rfl) (fun σ13 => ?_)
  refine X_aload_n (pc := 14) (td kX12_opens 10 rfl) rfl 0 rfl ?_
  refine X_getF (b := 21) (pc := 15) sM_0 rfl fk_X12_72 (td kX12_opens 11 rfl) ?_
  refine X_iload_n (pc := 18) (td kX12_opens 12 rfl) rfl 1 rfl ?_
  refine X_iconst (v := (0 : Int32)) (pc := 19) (td kX12_opens 13 rfl) (by decide) ?_
  refine X_iast (pc := 20) sM_21 (td kX12_opens 14 rfl) (fun σ20 => ?_)
  refine X_aload_n (pc := 21) (td kX12_opens 15 rfl) rfl 0 rfl ?_
  refine X_getF (b := 22) (pc := 22) sM_0 rfl fk_X12_75 (td kX12_opens 16 rfl) ?_
  refine X_iload_n (pc := 25) (td kX12_opens 17 rfl) rfl 1 rfl ?_
  refine X_bipush (v := (20 : Int32)) (pc := 26) (td kX12_opens 18 rfl) (by decide) ?_
  refine X_iast (pc := 28) sM_22 (td kX12_opens 19 rfl) (fun σ28 => ?_)
  refine X_aload_n (pc := 29) (td kX12_opens 20 rfl) rfl 0 rfl ?_
  refine X_getF (b := 24) (pc := 30) sM_0 rfl fk_X12_81 (td kX12_opens 21 rfl) ?_
  refine X_iload_n (pc := 33) (td kX12_opens 22 rfl) rfl 1 rfl ?_
  refine X_iconst (v := (0 : Int32)) (pc := 34) (td kX12_opens 23 rfl) (by decide) ?_
  refine X_iast (pc := 35) sM_24 (td kX12_opens 24 rfl) (fun σ35 => ?_)
  exact X_retv (pc := 36) (td kX12_opens 25 rfl)
def f_X12_sums (p1 : Int32) (σ : Mm) : Option (Int32 × Mm) := ck (inb p1 7) (jn (fun (y2_45 : Int32) => ck (inb p1 7) (bn (pI σ 21 p1.toNatClampNeg y2_45) (fun σ45 => ck (inb p1 7) (bn (pI σ45 24 p1.toNatClampNeg (0 : Int32)) (fun σ52 => some (0, σ52)))))) (fun k45 => (if (gI σ 22 p1.toNatClampNeg) = (21 : Int32) then ck (inb p1 7) (ck (inb p1 7) (k45 ((gI σ 21 p1.toNatClampNeg) - (gI σ 23 p1.toNatClampNeg)))) else ck (inb p1 7) (ck (inb p1 7) (k45 ((gI σ 21 p1.toNatClampNeg) + (gI σ 23 p1.toNatClampNeg)))))))
set_option maxHeartbeats 4000000 in
set_option maxRecDepth 100000 in
theorem x_X12_sums (p1 : Int32) (σ : Mm) : Con (wsOf SHM) yX12_sums cX12_sums 2 none 1 [.ref 0, .int p1] σ (f_X12_sums p1 σ) := by
  refine Con.of_X (by decide +kernel) (Nat.le_of_ble_eq_true rfl) ?_
  unfold f_X12_sums
  show X (wsOf SHM) RX12 cX12_sums 2 none 1 0 0 [(0, .ref 0), (1, .int p1)] [] σ _
  refine X_aload_n (pc := 0) (td kX12_sums 0 rfl) rfl 0 rfl ?_
  refine X_getF (b := 21) (pc := 1) sM_0 rfl fk_X12_72 (td kX12_sums 1 rfl) ?_
  refine X_iload_n (pc := 4) (td kX12_sums 2 rfl) rfl 1 rfl ?_
  refine X_aload_n (pc := 5) (td kX12_sums 3 rfl) rfl 0 rfl ?_
  refine X_getF (b := 22) (pc := 6) sM_0 rfl fk_X12_75 (td kX12_sums 4 rfl) ?_
  refine X_iload_n (pc := 9) (td kX12_sums 5 rfl) rfl 1 rfl ?_
  refine X_iald (pc := 10) sM_22 (td kX12_sums 6 rfl) ?_
  refine X_bipush (v := (21 : Int32)) (pc := 11) (td kX12_sums 7 rfl) (by decide) ?_
  refine X_jn (P := fun k => ∀ (y2_45 : Int32), X (wsOf SHM) RX12 cX12_sums 2 none 1 0 45 [(0, .ref 0), (1, .int p1)] [.int y2_45, .int p1, .ref 21] σ (k y2_45)) (fun y2_45 => ?_) (fun k45 h45 => ?_)
  · refine X_iast (pc := 45) sM_21 (td kX12_sums 28 rfl) (fun σ45 => ?_)
    refine X_aload_n (pc := 46) (td kX12_sums 29 rfl) rfl 0 rfl ?_
    refine X_getF (b := 24) (pc := 47) sM_0 rfl fk_X12_81 (td kX12_sums 30 rfl) ?_
    refine X_iload_n (pc := 50) (td kX12_sums 31 rfl) rfl 1 rfl ?_
    refine X_iconst (v := (0 : Int32)) (pc := 51) (td kX12_sums 32 rfl) (by decide) ?_
    refine X_iast (pc := 52) sM_24 (td kX12_sums 33 rfl) (fun σ52 => ?_)
    exact X_retv (pc := 53) (td kX12_sums 34 rfl)
  · refine X_icmp_ne (pc := 13) (tgt := 32) (td kX12_sums 8 rfl) (by decide) (fun c_13 => ?_) (fun c_13 => ?_)
    · refine X_aload_n (pc := 32) (td kX12_sums 19 rfl) rfl 0 rfl ?_
      refine X_getF (b := 21) (pc := 33) sM_0 rfl fk_X12_72 (td kX12_sums 20 rfl) ?_
      refine X_iload_n (pc := 36) (td kX12_sums 21 rfl) rfl 1 rfl ?_
      refine X_iald (pc := 37) sM_21 (td kX12_sums 22 rfl) ?_
      refine X_aload_n (pc := 38) (td kX12_sums 23 rfl) rfl 0 rfl ?_
      refine X_getF (b := 23) (pc := 39) sM_0 rfl fk_X12_78 (td kX12_sums 24 rfl) ?_
      refine X_iload_n (pc := 42) (td kX12_sums 25 rfl) rfl 1 rfl ?_
      refine X_iald (pc := 43) sM_23 (td kX12_sums 26 rfl) ?_
      refine X_iadd (pc := 44) (td kX12_sums 27 rfl) ?_
      exact h45 ((gI σ 21 p1.toNatClampNeg) + (gI σ 23 p1.toNatClampNeg))
    · refine X_aload_n (pc := 16) (td kX12_sums 9 rfl) rfl 0 rfl ?_
      refine X_getF (b := 21) (pc := 17) sM_0 rfl fk_X12_72 (td kX12_sums 10 rfl) ?_
      refine X_iload_n (pc := 20) (td kX12_sums 11 rfl) rfl 1 rfl ?_
      refine X_iald (pc := 21) sM_21 (td kX12_sums 12 rfl) ?_
      refine X_aload_n (pc := 22) (td kX12_sums 13 rfl) rfl 0 rfl ?_
      refine X_getF (b := 23) (pc := 23) sM_0 rfl fk_X12_78 (td kX12_sums 14 rfl) ?_
      refine X_iload_n (pc := 26) (td kX12_sums 15 rfl) rfl 1 rfl ?_
      refine X_iald (pc := 27) sM_23 (td kX12_sums 16 rfl) ?_
      refine X_isub (pc := 28) (td kX12_sums 17 rfl) ?_
      refine X_goto (pc := 29) (tgt := 45) (td kX12_sums 18 rfl) (by decide) ?_
      exact h45 ((gI σ 21 p1.toNatClampNeg) - (gI σ 23 p1.toNatClampNeg))
def J_X12_tests_106 (p1 : Int32) (σ2 : Mm) (x2_106 : Int32) : Option (Int32 × Mm) := ck (inb p1 7) (jn (fun (x2_136 : Int32) => ck (inb p1 7) (bn (pI σ2 17 p1.toNatClampNeg x2_136) (fun σ142 => ck (inb p1 7) (bn (pI σ142 20 p1.toNatClampNeg (0 : Int32)) (fun σ149 => ck (inb p1 7) (bn (pI σ149 21 p1.toNatClampNeg (0 : Int32)) (fun σ156 => ck (inb p1 7) (bn (pI σ156 22 p1.toNatClampNeg (20 : Int32)) (fun σ164 => some (0, σ164)))))))))) (fun k136 => (if (gI σ2 18 p1.toNatClampNeg) = (27 : Int32) then ck (inb p1 7) (jn (fun (y0_135 : Int32) => k136 y0_135) (fun k135 => jn (k135 (1 : Int32)) (fun k130 => (if (gI σ2 17 p1.toNatClampNeg) = 0 then (if x2_106 = 0 then k135 (0 : Int32) else k130) else k130)))) else k136 x2_106)))
def J_X12_tests_44 (p1 : Int32) (σ2 : Mm) (x2_44 : Int32) : Option (Int32 × Mm) := ck (inb p1 7) (jn (fun (x2_76 : Int32) => ck (inb p1 7) (jn (J_X12_tests_106 p1 σ2) (fun k106 => (if (gI σ2 18 p1.toNatClampNeg) = (26 : Int32) then ck (inb p1 7) (jn (fun (y0_105 : Int32) => k106 y0_105) (fun k105 => jn (k105 (0 : Int32)) (fun k104 => (if (gI σ2 17 p1.toNatClampNeg) = 0 then k104 else (if x2_76 = 0 then k104 else k105 (1 : Int32)))))) else k106 x2_76)))) (fun k76 => (if (gI σ2 20 p1.toNatClampNeg) = (25 : Int32) then ck (inb p1 7) (ck (inb p1 7) (jn (fun (y0_75 : Int32) => k76 y0_75) (fun k75 => (if (gI σ2 19 p1.toNatClampNeg) = (gI σ2 21 p1.toNatClampNeg) then k75 (1 : Int32) else k75 (0 : Int32))))) else k76 x2_44)))
def f_X12_tests (p1 : Int32) (σ : Mm) : Option (Int32 × Mm) := cl (f_X12_sums p1 σ) (fun _ σ2 => ck (inb p1 7) (bn (gI σ2 21 p1.toNatClampNeg) (fun v2_11 => ck (inb p1 7) (jn (J_X12_tests_44 p1 σ2) (fun k44 => (if (gI σ2 20 p1.toNatClampNeg) = (24 : Int32) then ck (inb p1 7) (ck (inb p1 7) (jn (fun (y0_43 : Int32) => k44 y0_43) (fun k43 => (if (gI σ2 19 p1.toNatClampNeg) < (gI σ2 21 p1.toNatClampNeg) then k43 (1 : Int32) else k43 (0 : Int32))))) else k44 v2_11))))))
set_option maxHeartbeats 4000000 in
set_option maxRecDepth 100000 in
theorem x_X12_tests (p1 : Int32) (σ : Mm) : Con (wsOf SHM) yX12_tests cX12_tests 3 none 2 [.ref 0, .int p1] σ (f_X12_tests p1 σ) := by
  refine Con.of_X (by decide +kernel) (Nat.le_of_ble_eq_true rfl) ?_
  unfold f_X12_tests
  show X (wsOf SHM) RX12 cX12_tests 3 none 2 0 0 [(0, .ref 0), (1, .int p1)] [] σ _
  refine X_aload_n (pc := 0) (td kX12_tests 0 rfl) rfl 0 rfl ?_
  refine X_iload_n (pc := 1) (td kX12_tests 1 rfl) rfl 1 rfl ?_
  refine X_callv (pc := 2) (As := [.int p1]) (st := []) sM_0 (x_X12_sums p1 σ) mkX12_sums lk_X12_246 (by omega) rfl rfl (Nat.le_of_ble_eq_true rfl) (td kX12_tests 2 rfl) (fun _ σ2 _ => ?_)
  refine X_aload_n (pc := 5) (td kX12_tests 3 rfl) rfl 0 rfl ?_
  refine X_getF (b := 21) (pc := 6) sM_0 rfl fk_X12_72 (td kX12_tests 4 rfl) ?_
  refine X_iload_n (pc := 9) (td kX12_tests 5 rfl) rfl 1 rfl ?_
  refine X_iald (pc := 10) sM_21 (td kX12_tests 6 rfl) ?_
  refine X_bi (fun v2_11 => ?_)
  refine X_istore_n (L' := [(2, .int v2_11), (0, .ref 0), (1, .int p1)]) (pc := 11) (td kX12_tests 7 rfl) rfl (by decide) rfl ?_
  refine X_aload_n (pc := 12) (td kX12_tests 8 rfl) rfl 1 rfl ?_
  refine X_getF (b := 20) (pc := 13) sM_0 rfl fk_X12_69 (td kX12_tests 9 rfl) ?_
  refine X_iload_n (pc := 16) (td kX12_tests 10 rfl) rfl 2 rfl ?_
  refine X_iald (pc := 17) sM_20 (td kX12_tests 11 rfl) ?_
  refine X_bipush (v := (24 : Int32)) (pc := 18) (td kX12_tests 12 rfl) (by decide) ?_
  refine X_jn (P := fun k => ∀ (x2_44 : Int32), X (wsOf SHM) RX12 cX12_tests 3 none 2 0 44 [(0, .ref 0), (1, .int p1), (2, .int x2_44)] [] σ2 (k x2_44)) (fun x2_44 => ?_) (fun k44 h44 => ?_)
  · unfold J_X12_tests_44
    refine X_aload_n (pc := 44) (td kX12_tests 27 rfl) rfl 0 rfl ?_
    refine X_getF (b := 20) (pc := 45) sM_0 rfl fk_X12_69 (td kX12_tests 28 rfl) ?_
    refine X_iload_n (pc := 48) (td kX12_tests 29 rfl) rfl 1 rfl ?_
    refine X_iald (pc := 49) sM_20 (td kX12_tests 30 rfl) ?_
    refine X_bipush (v := (25 : Int32)) (pc := 50) (td kX12_tests 31 rfl) (by decide) ?_
    refine X_jn (P := fun k => ∀ (x2_76 : Int32), X (wsOf SHM) RX12 cX12_tests 3 none 2 0 76 [(0, .ref 0), (1, .int p1), (2, .int x2_76)] [] σ2 (k x2_76)) (fun x2_76 => ?_) (fun k76 h76 => ?_)
    · refine X_aload_n (pc := 76) (td kX12_tests 46 rfl) rfl 0 rfl ?_
      refine X_getF (b := 18) (pc := 77) sM_0 rfl fk_X12_63 (td kX12_tests 47 rfl) ?_
      refine X_iload_n (pc := 80) (td kX12_tests 48 rfl) rfl 1 rfl ?_
      refine X_iald (pc := 81) sM_18 (td kX12_tests 49 rfl) ?_
      refine X_bipush (v := (26 : Int32)) (pc := 82) (td kX12_tests 50 rfl) (by decide) ?_
      refine X_jn (P := fun k => ∀ (x2_106 : Int32), X (wsOf SHM) RX12 cX12_tests 3 none 2 0 106 [(0, .ref 0), (1, .int p1), (2, .int x2_106)] [] σ2 (k x2_106)) (fun x2_106 => ?_) (fun k106 h106 => ?_)
      · unfold J_X12_tests_106
        refine X_aload_n (pc := 106) (td kX12_tests 63 rfl) rfl 0 rfl ?_
        refine X_getF (b := 18) (pc := 107) sM_0 rfl fk_X12_63 (td kX12_tests 64 rfl) ?_
        refine X_iload_n (pc := 110) (td kX12_tests 65 rfl) rfl 1 rfl ?_
        refine X_iald (pc := 111) sM_18 (td kX12_tests 66 rfl) ?_
        refine X_bipush (v := (27 : Int32)) (pc := 112) (td kX12_tests 67 rfl) (by decide) ?_
        refine X_jn (P := fun k => ∀ (x2_136 : Int32), X (wsOf SHM) RX12 cX12_tests 3 none 2 0 136 [(0, .ref 0), (1, .int p1), (2, .int x2_136)] [] σ2 (k x2_136)) (fun x2_136 => ?_) (fun k136 h136 => ?_)
        · refine X_aload_n (pc := 136) (td kX12_tests 80 rfl) rfl 0 rfl ?_
          refine X_getF (b := 17) (pc := 137) sM_0 rfl fk_X12_60 (td kX12_tests 81 rfl) ?_
          refine X_iload_n (pc := 140) (td kX12_tests 82 rfl) rfl 1 rfl ?_
          refine X_iload_n (pc := 141) (td kX12_tests 83 rfl) rfl 2 rfl ?_
          refine X_iast (pc := 142) sM_17 (td kX12_tests 84 rfl) (fun σ142 => ?_)
          refine X_aload_n (pc := 143) (td kX12_tests 85 rfl) rfl 0 rfl ?_
          refine X_getF (b := 20) (pc := 144) sM_0 rfl fk_X12_69 (td kX12_tests 86 rfl) ?_
          refine X_iload_n (pc := 147) (td kX12_tests 87 rfl) rfl 1 rfl ?_
          refine X_iconst (v := (0 : Int32)) (pc := 148) (td kX12_tests 88 rfl) (by decide) ?_
          refine X_iast (pc := 149) sM_20 (td kX12_tests 89 rfl) (fun σ149 => ?_)
          refine X_aload_n (pc := 150) (td kX12_tests 90 rfl) rfl 0 rfl ?_
          refine X_getF (b := 21) (pc := 151) sM_0 rfl fk_X12_72 (td kX12_tests 91 rfl) ?_
          refine X_iload_n (pc := 154) (td kX12_tests 92 rfl) rfl 1 rfl ?_
          refine X_iconst (v := (0 : Int32)) (pc := 155) (td kX12_tests 93 rfl) (by decide) ?_
          refine X_iast (pc := 156) sM_21 (td kX12_tests 94 rfl) (fun σ156 => ?_)
          refine X_aload_n (pc := 157) (td kX12_tests 95 rfl) rfl 0 rfl ?_
          refine X_getF (b := 22) (pc := 158) sM_0 rfl fk_X12_75 (td kX12_tests 96 rfl) ?_
          refine X_iload_n (pc := 161) (td kX12_tests 97 rfl) rfl 1 rfl ?_
          refine X_bipush (v := (20 : Int32)) (pc := 162) (td kX12_tests 98 rfl) (by decide) ?_
          refine X_iast (pc := 164) sM_22 (td kX12_tests 99 rfl) (fun σ164 => ?_)
          exact X_retv (pc := 165) (td kX12_tests 100 rfl)
        · refine X_icmp_ne (pc := 114) (tgt := 136) (td kX12_tests 68 rfl) (by decide) (fun c_114 => ?_) (fun c_114 => ?_)
          · exact h136 x2_106
          · refine X_aload_n (pc := 117) (td kX12_tests 69 rfl) rfl 0 rfl ?_
            refine X_getF (b := 17) (pc := 118) sM_0 rfl fk_X12_60 (td kX12_tests 70 rfl) ?_
            refine X_iload_n (pc := 121) (td kX12_tests 71 rfl) rfl 1 rfl ?_
            refine X_iald (pc := 122) sM_17 (td kX12_tests 72 rfl) ?_
            refine X_jn (P := fun k => ∀ (y0_135 : Int32), X (wsOf SHM) RX12 cX12_tests 3 none 2 0 135 [(0, .ref 0), (1, .int p1)] [.int y0_135] σ2 (k y0_135)) (fun y0_135 => ?_) (fun k135 h135 => ?_)
            · refine X_istore_n (L' := [(2, .int y0_135), (0, .ref 0), (1, .int p1)]) (pc := 135) (td kX12_tests 79 rfl) rfl (by decide) rfl ?_
              refine X_sub [1, 2, 0] rfl ?_
              exact h136 y0_135
            · refine X_jn (P := fun k => X (wsOf SHM) RX12 cX12_tests 3 none 2 0 130 [(0, .ref 0), (1, .int p1)] [] σ2 k) ?_ (fun k130 h130 => ?_)
              · refine X_iconst (v := (1 : Int32)) (pc := 130) (td kX12_tests 76 rfl) (by decide) ?_
                refine X_goto (pc := 131) (tgt := 135) (td kX12_tests 77 rfl) (by decide) ?_
                exact h135 (1 : Int32)
              · refine X_if_ne (pc := 123) (tgt := 130) (td kX12_tests 73 rfl) (by decide) (fun c_123 => ?_) (fun c_123 => ?_)
                · refine X_sub [0, 1] rfl ?_
                  exact h130
                · refine X_iload_n (pc := 126) (td kX12_tests 74 rfl) rfl 2 rfl ?_
                  refine X_if_eq (pc := 127) (tgt := 134) (td kX12_tests 75 rfl) (by decide) (fun c_127 => ?_) (fun c_127 => ?_)
                  · refine X_iconst (v := (0 : Int32)) (pc := 134) (td kX12_tests 78 rfl) (by decide) ?_
                    refine X_sub [0, 1] rfl ?_
                    exact h135 (0 : Int32)
                  · refine X_sub [0, 1] rfl ?_
                    exact h130
      · refine X_icmp_ne (pc := 84) (tgt := 106) (td kX12_tests 51 rfl) (by decide) (fun c_84 => ?_) (fun c_84 => ?_)
        · exact h106 x2_76
        · refine X_aload_n (pc := 87) (td kX12_tests 52 rfl) rfl 0 rfl ?_
          refine X_getF (b := 17) (pc := 88) sM_0 rfl fk_X12_60 (td kX12_tests 53 rfl) ?_
          refine X_iload_n (pc := 91) (td kX12_tests 54 rfl) rfl 1 rfl ?_
          refine X_iald (pc := 92) sM_17 (td kX12_tests 55 rfl) ?_
          refine X_jn (P := fun k => ∀ (y0_105 : Int32), X (wsOf SHM) RX12 cX12_tests 3 none 2 0 105 [(0, .ref 0), (1, .int p1)] [.int y0_105] σ2 (k y0_105)) (fun y0_105 => ?_) (fun k105 h105 => ?_)
          · refine X_istore_n (L' := [(2, .int y0_105), (0, .ref 0), (1, .int p1)]) (pc := 105) (td kX12_tests 62 rfl) rfl (by decide) rfl ?_
            refine X_sub [1, 2, 0] rfl ?_
            exact h106 y0_105
          · refine X_jn (P := fun k => X (wsOf SHM) RX12 cX12_tests 3 none 2 0 104 [(0, .ref 0), (1, .int p1)] [] σ2 k) ?_ (fun k104 h104 => ?_)
            · refine X_iconst (v := (0 : Int32)) (pc := 104) (td kX12_tests 61 rfl) (by decide) ?_
              exact h105 (0 : Int32)
            · refine X_if_eq (pc := 93) (tgt := 104) (td kX12_tests 56 rfl) (by decide) (fun c_93 => ?_) (fun c_93 => ?_)
              · refine X_sub [0, 1] rfl ?_
                exact h104
              · refine X_iload_n (pc := 96) (td kX12_tests 57 rfl) rfl 2 rfl ?_
                refine X_if_eq (pc := 97) (tgt := 104) (td kX12_tests 58 rfl) (by decide) (fun c_97 => ?_) (fun c_97 => ?_)
                · refine X_sub [0, 1] rfl ?_
                  exact h104
                · refine X_iconst (v := (1 : Int32)) (pc := 100) (td kX12_tests 59 rfl) (by decide) ?_
                  refine X_goto (pc := 101) (tgt := 105) (td kX12_tests 60 rfl) (by decide) ?_
                  refine X_sub [0, 1] rfl ?_
                  exact h105 (1 : Int32)
    · refine X_icmp_ne (pc := 52) (tgt := 76) (td kX12_tests 32 rfl) (by decide) (fun c_52 => ?_) (fun c_52 => ?_)
      · exact h76 x2_44
      · refine X_aload_n (pc := 55) (td kX12_tests 33 rfl) rfl 0 rfl ?_
        refine X_getF (b := 19) (pc := 56) sM_0 rfl fk_X12_66 (td kX12_tests 34 rfl) ?_
        refine X_iload_n (pc := 59) (td kX12_tests 35 rfl) rfl 1 rfl ?_
        refine X_iald (pc := 60) sM_19 (td kX12_tests 36 rfl) ?_
        refine X_aload_n (pc := 61) (td kX12_tests 37 rfl) rfl 0 rfl ?_
        refine X_getF (b := 21) (pc := 62) sM_0 rfl fk_X12_72 (td kX12_tests 38 rfl) ?_
        refine X_iload_n (pc := 65) (td kX12_tests 39 rfl) rfl 1 rfl ?_
        refine X_iald (pc := 66) sM_21 (td kX12_tests 40 rfl) ?_
        refine X_jn (P := fun k => ∀ (y0_75 : Int32), X (wsOf SHM) RX12 cX12_tests 3 none 2 0 75 [(0, .ref 0), (1, .int p1)] [.int y0_75] σ2 (k y0_75)) (fun y0_75 => ?_) (fun k75 h75 => ?_)
        · refine X_istore_n (L' := [(2, .int y0_75), (0, .ref 0), (1, .int p1)]) (pc := 75) (td kX12_tests 45 rfl) rfl (by decide) rfl ?_
          refine X_sub [1, 2, 0] rfl ?_
          exact h76 y0_75
        · refine X_icmp_ne (pc := 67) (tgt := 74) (td kX12_tests 41 rfl) (by decide) (fun c_67 => ?_) (fun c_67 => ?_)
          · refine X_iconst (v := (0 : Int32)) (pc := 74) (td kX12_tests 44 rfl) (by decide) ?_
            refine X_sub [0, 1] rfl ?_
            exact h75 (0 : Int32)
          · refine X_iconst (v := (1 : Int32)) (pc := 70) (td kX12_tests 42 rfl) (by decide) ?_
            refine X_goto (pc := 71) (tgt := 75) (td kX12_tests 43 rfl) (by decide) ?_
            refine X_sub [0, 1] rfl ?_
            exact h75 (1 : Int32)
  · refine X_icmp_ne (pc := 20) (tgt := 44) (td kX12_tests 13 rfl) (by decide) (fun c_20 => ?_) (fun c_20 => ?_)
    · refine X_sub [1, 2, 0] rfl ?_
      exact h44 v2_11
    · refine X_aload_n (pc := 23) (td kX12_tests 14 rfl) rfl 1 rfl ?_
      refine X_getF (b := 19) (pc := 24) sM_0 rfl fk_X12_66 (td kX12_tests 15 rfl) ?_
      refine X_iload_n (pc := 27) (td kX12_tests 16 rfl) rfl 2 rfl ?_
      refine X_iald (pc := 28) sM_19 (td kX12_tests 17 rfl) ?_
      refine X_aload_n (pc := 29) (td kX12_tests 18 rfl) rfl 1 rfl ?_
      refine X_getF (b := 21) (pc := 30) sM_0 rfl fk_X12_72 (td kX12_tests 19 rfl) ?_
      refine X_iload_n (pc := 33) (td kX12_tests 20 rfl) rfl 2 rfl ?_
      refine X_iald (pc := 34) sM_21 (td kX12_tests 21 rfl) ?_
      refine X_jn (P := fun k => ∀ (y0_43 : Int32), X (wsOf SHM) RX12 cX12_tests 3 none 2 0 43 [(0, .ref 0), (1, .int p1)] [.int y0_43] σ2 (k y0_43)) (fun y0_43 => ?_) (fun k43 h43 => ?_)
      · refine X_istore_n (L' := [(2, .int y0_43), (0, .ref 0), (1, .int p1)]) (pc := 43) (td kX12_tests 26 rfl) rfl (by decide) rfl ?_
        refine X_sub [1, 2, 0] rfl ?_
        exact h44 y0_43
      · refine X_icmp_ge (pc := 35) (tgt := 42) (td kX12_tests 22 rfl) (by decide) (fun c_35 => ?_) (fun c_35 => ?_)
        · refine X_iconst (v := (0 : Int32)) (pc := 42) (td kX12_tests 25 rfl) (by decide) ?_
          refine X_sub [1, 2] rfl ?_
          exact h43 (0 : Int32)
        · refine X_iconst (v := (1 : Int32)) (pc := 38) (td kX12_tests 23 rfl) (by decide) ?_
          refine X_goto (pc := 39) (tgt := 43) (td kX12_tests 24 rfl) (by decide) ?_
          refine X_sub [1, 2] rfl ?_
          exact h43 (1 : Int32)
def J_X12_worked_137 (x2_14 : Int32) (σ_14 : Mm) (v4_30 : Int32) (k329 : Int32 → Mm → Option (Int32 × Mm)) : Option (Int32 × Mm) := cl (f_X12_sums x2_14 σ_14) (fun _ σ139 => ck (inb x2_14 7) (ck (inb x2_14 7) (bn (pI σ139 19 x2_14.toNatClampNeg (gI σ139 21 x2_14.toNatClampNeg)) (fun σ153 => ck (inb x2_14 7) (bn (pI σ153 20 x2_14.toNatClampNeg v4_30) (fun σ161 => ck (inb x2_14 7) (bn (pI σ161 21 x2_14.toNatClampNeg (0 : Int32)) (fun σ168 => ck (inb x2_14 7) (bn (pI σ168 22 x2_14.toNatClampNeg (20 : Int32)) (fun σ176 => k329 x2_14 σ176))))))))))
def F_X12_worked_268 (x2_268 : Int32) (x5_268 : Int32) (σ_268 : Mm) (k300 : Int32 → Int32 → Option (Int32 × Mm)) (rec268 : Int32 → Int32 → Option (Int32 × Mm)) (x2_268 : Int32) (x5_268 : Int32) : Option (Int32 × Mm) := (if 0 < x2_268 then ck (inb x2_268 7) ((if (gI σ_268 25 x2_268.toNatClampNeg) = (1 : Int32) then jn (fun (y0_292 : Int32) => rec268 (x2_268 + (-1 : Int32)) y0_292) (fun k292 => (if x5_268 = 0 then k292 (1 : Int32) else k292 (0 : Int32))) else k300 x2_268 x5_268)) else k300 x2_268 x5_268)
def J_X12_worked_268 (k329 : Int32 → Mm → Option (Int32 × Mm)) (x2_268 : Int32) (x5_268 : Int32) (σ_268 : Mm) : Option (Int32 × Mm) := jn (fun (x2_300 : Int32) (x5_300 : Int32) => ck (inb x2_300 7) (jn (fun (y2_328 : Int32) => ck (inb x2_300 7) (bn (pI σ_268 23 x2_300.toNatClampNeg y2_328) (fun σ328 => k329 x2_300 σ328))) (fun k328 => (if (gI σ_268 24 x2_300.toNatClampNeg) = 0 then k328 x5_300 else ck (inb x2_300 7) (k328 ((gI σ_268 23 x2_300.toNatClampNeg) * x5_300)))))) (fun k300 => lq2 (F_X12_worked_268 x2_268 x5_268 σ_268 k300) 1000000 x2_268 x5_268)
def F_X12_worked_14 (p1 : Int32) (k335 : Mm → Option (Int32 × Mm)) (rec14 : Int32 → Int32 → Mm → Option (Int32 × Mm)) (x2_14 : Int32) (x3_14 : Int32) (σ_14 : Mm) : Option (Int32 × Mm) := ck (inb p1 2) ((if x3_14 < (gI σ_14 13 p1.toNatClampNeg) then ck (inb x3_14 2000) (bn (gI σ_14 14 x3_14.toNatClampNeg) (fun v4_30 => jn (fun (x2_329 : Int32) (σ_329 : Mm) => rec14 x2_329 (x3_14 + (1 : Int32)) σ_329) (fun k329 => jn (jn (fun (y2_66 : Int32) => ck (inb (x2_14 + (1 : Int32)) 7) (bn (pI σ_14 25 (x2_14 + (1 : Int32)).toNatClampNeg y2_66) (fun σ66 => cl (f_X12_opens (x2_14 + (1 : Int32)) σ66) (fun _ σ69 => k329 (x2_14 + (1 : Int32)) σ69)))) (fun k66 => (if v4_30 = (30 : Int32) then k66 (1 : Int32) else k66 (0 : Int32)))) (fun k46 => (if v4_30 = (28 : Int32) then k46 else (if v4_30 = (30 : Int32) then k46 else jn (cl (f_X12_sums x2_14 σ_14) (fun _ σ91 => ck (inb x2_14 7) (bn (pI σ91 22 x2_14.toNatClampNeg v4_30) (fun σ101 => k329 x2_14 σ101)))) (fun k89 => (if v4_30 = (20 : Int32) then k89 else (if v4_30 = (21 : Int32) then k89 else (if v4_30 = (22 : Int32) then ck (inb x2_14 7) (bn (pI σ_14 24 x2_14.toNatClampNeg v4_30) (fun σ119 => k329 x2_14 σ119)) else jn (J_X12_worked_137 x2_14 σ_14 v4_30 k329) (fun k137 => (if v4_30 = (24 : Int32) then k137 else (if v4_30 = (25 : Int32) then k137 else jn (cl (f_X12_tests x2_14 σ_14) (fun _ σ196 => ck (inb x2_14 7) (bn (pI σ196 18 x2_14.toNatClampNeg v4_30) (fun σ206 => k329 x2_14 σ206)))) (fun k194 => (if v4_30 = (26 : Int32) then k194 else (if v4_30 = (27 : Int32) then k194 else jn (fun (y0_243 : Int32) => jn (J_X12_worked_268 k329) (fun k268 => (if v4_30 = (29 : Int32) then cl (f_X12_tests x2_14 σ_14) (fun _ σ254 => ck (inb x2_14 7) (bn (gI σ254 17 x2_14.toNatClampNeg) (fun v5_263 => k268 (x2_14 + (-1 : Int32)) v5_263 σ254))) else k268 x2_14 y0_243 σ_14))) (fun k243 => (if v4_30 < (100 : Int32) then (if v4_30 < (20 : Int32) then ck (inb v4_30 20) (k243 (gI σ_14 26 v4_30.toNatClampNeg)) else k243 (0 : Int32)) else k243 (v4_30 - (100 : Int32)))))))))))))))))))) else k335 σ_14))
def f_X12_worked (p1 : Int32) (σ : Mm) : Option (Int32 × Mm) := cl (f_X12_opens (0 : Int32) σ) (fun _ σ4 => ck (inb p1 2) (bn (gI σ4 12 p1.toNatClampNeg) (fun v3_13 => jn (fun (σ_335 : Mm) => cl (f_X12_tests (0 : Int32) σ_335) (fun _ σ337 => ck (inb (0 : Int32) 7) (some ((gI σ337 17 (0 : Int32).toNatClampNeg), σ337)))) (fun k335 => lq3 (F_X12_worked_14 p1 k335) 1000000 (0 : Int32) v3_13 σ4))))
set_option maxHeartbeats 4000000 in
set_option maxRecDepth 100000 in
theorem x_X12_worked (p1 : Int32) (σ : Mm) : Con (wsOf SHM) yX12_worked cX12_worked 6 (some .int) 3 [.ref 0, .int p1] σ (f_X12_worked p1 σ) := by
  refine Con.of_X (by decide +kernel) (Nat.le_of_ble_eq_true rfl) ?_
  unfold f_X12_worked
  show X (wsOf SHM) RX12 cX12_worked 6 (some .int) 3 0 0 [(0, .ref 0), (1, .int p1)] [] σ _
  refine X_iconst (v := (0 : Int32)) (pc := 0) (td kX12_worked 0 rfl) (by decide) ?_
  refine X_istore_n (L' := [(2, .int (0 : Int32)), (0, .ref 0), (1, .int p1)]) (pc := 1) (td kX12_worked 1 rfl) rfl (by decide) rfl ?_
  refine X_aload_n (pc := 2) (td kX12_worked 2 rfl) rfl 1 rfl ?_
  refine X_iconst (v := (0 : Int32)) (pc := 3) (td kX12_worked 3 rfl) (by decide) ?_
  refine X_callv (pc := 4) (As := [.int (0 : Int32)]) (st := []) sM_0 (x_X12_opens (0 : Int32) σ) mkX12_opens lk_X12_249 (by omega) rfl rfl (Nat.le_of_ble_eq_true rfl) (td kX12_worked 4 rfl) (fun _ σ4 _ => ?_)
  refine X_aload_n (pc := 7) (td kX12_worked 5 rfl) rfl 1 rfl ?_
  refine X_getF (b := 12) (pc := 8) sM_0 rfl fk_X12_44 (td kX12_worked 6 rfl) ?_
  refine X_iload_n (pc := 11) (td kX12_worked 7 rfl) rfl 2 rfl ?_
  refine X_iald (pc := 12) sM_12 (td kX12_worked 8 rfl) ?_
  refine X_bi (fun v3_13 => ?_)
  refine X_istore_n (L' := [(3, .int v3_13), (2, .int (0 : Int32)), (0, .ref 0), (1, .int p1)]) (pc := 13) (td kX12_worked 9 rfl) rfl (by decide) rfl ?_
  refine X_jn (P := fun k => ∀ (σ_335 : Mm), X (wsOf SHM) RX12 cX12_worked 6 (some .int) 3 0 335 [(0, .ref 0)] [] σ_335 (k σ_335)) (fun σ_335 => ?_) (fun k335 h335 => ?_)
  · refine X_aload_n (pc := 335) (td kX12_worked 178 rfl) rfl 0 rfl ?_
    refine X_iconst (v := (0 : Int32)) (pc := 336) (td kX12_worked 179 rfl) (by decide) ?_
    refine X_callv (pc := 337) (As := [.int (0 : Int32)]) (st := []) sM_0 (x_X12_tests (0 : Int32) σ_335) mkX12_tests lk_X12_252 (by omega) rfl rfl (Nat.le_of_ble_eq_true rfl) (td kX12_worked 180 rfl) (fun _ σ337 _ => ?_)
    refine X_aload_n (pc := 340) (td kX12_worked 181 rfl) rfl 0 rfl ?_
    refine X_getF (b := 17) (pc := 341) sM_0 rfl fk_X12_60 (td kX12_worked 182 rfl) ?_
    refine X_iconst (v := (0 : Int32)) (pc := 344) (td kX12_worked 183 rfl) (by decide) ?_
    refine X_iald (pc := 345) sM_17 (td kX12_worked 184 rfl) ?_
    exact X_ret (pc := 346) (td kX12_worked 185 rfl) rfl
  · refine X_sub [2, 3, 1, 0] rfl ?_
    refine lq3_ind (P := fun x2_14 x3_14 σ_14 E => X (wsOf SHM) RX12 cX12_worked 6 (some .int) 3 0 14 [(0, .ref 0), (1, .int p1), (2, .int x2_14), (3, .int x3_14)] [] σ_14 E) (fun _ _ _ => X_none) (fun rec14 hrec14 x2_14 x3_14 σ_14 => ?_) _ _ _ _
    unfold F_X12_worked_14
    refine X_iload_n (pc := 14) (td kX12_worked 10 rfl) rfl 3 rfl ?_
    refine X_aload_n (pc := 15) (td kX12_worked 11 rfl) rfl 0 rfl ?_
    refine X_getF (b := 13) (pc := 16) sM_0 rfl fk_X12_47 (td kX12_worked 12 rfl) ?_
    refine X_iload_n (pc := 19) (td kX12_worked 13 rfl) rfl 1 rfl ?_
    refine X_iald (pc := 20) sM_13 (td kX12_worked 14 rfl) ?_
    refine X_icmp_ge (pc := 21) (tgt := 335) (td kX12_worked 15 rfl) (by decide) (fun c_21 => ?_) (fun c_21 => ?_)
    · refine X_sub [0] rfl ?_
      exact h335 σ_14
    · refine X_aload_n (pc := 24) (td kX12_worked 16 rfl) rfl 0 rfl ?_
      refine X_getF (b := 14) (pc := 25) sM_0 rfl fk_X12_50 (td kX12_worked 17 rfl) ?_
      refine X_iload_n (pc := 28) (td kX12_worked 18 rfl) rfl 3 rfl ?_
      refine X_iald (pc := 29) sM_14 (td kX12_worked 19 rfl) ?_
      refine X_bi (fun v4_30 => ?_)
      refine X_istore (L' := [(4, .int v4_30), (0, .ref 0), (1, .int p1), (2, .int x2_14), (3, .int x3_14)]) (pc := 30) (td kX12_worked 20 rfl) (by decide) rfl ?_
      refine X_iload (pc := 32) (td kX12_worked 21 rfl) 0 rfl ?_
      refine X_bipush (v := (28 : Int32)) (pc := 34) (td kX12_worked 22 rfl) (by decide) ?_
      refine X_jn (P := fun k => ∀ (x2_329 : Int32) (σ_329 : Mm), X (wsOf SHM) RX12 cX12_worked 6 (some .int) 3 0 329 [(0, .ref 0), (1, .int p1), (2, .int x2_329), (3, .int x3_14)] [] σ_329 (k x2_329 σ_329)) (fun x2_329 σ_329 => ?_) (fun k329 h329 => ?_)
      · refine X_iinc (v := (x3_14 + (1 : Int32))) (L' := [(3, .int (x3_14 + (1 : Int32))), (0, .ref 0), (1, .int p1), (2, .int x2_329)]) (pc := 329) (td kX12_worked 176 rfl) 3 rfl rfl (by decide) rfl ?_
        refine X_goto (pc := 332) (tgt := 14) (td kX12_worked 177 rfl) (by decide) ?_
        refine X_sub [1, 2, 3, 0] rfl ?_
        exact hrec14 x2_329 (x3_14 + (1 : Int32)) σ_329
      · refine X_jn (P := fun k => X (wsOf SHM) RX12 cX12_worked 6 (some .int) 3 0 46 [(0, .ref 0), (1, .int p1), (2, .int x2_14), (3, .int x3_14), (4, .int v4_30)] [] σ_14 k) ?_ (fun k46 h46 => ?_)
        · refine X_iinc (v := (x2_14 + (1 : Int32))) (L' := [(2, .int (x2_14 + (1 : Int32))), (0, .ref 0), (1, .int p1), (3, .int x3_14), (4, .int v4_30)]) (pc := 46) (td kX12_worked 27 rfl) 2 rfl rfl (by decide) rfl ?_
          refine X_aload_n (pc := 49) (td kX12_worked 28 rfl) rfl 1 rfl ?_
          refine X_getF (b := 25) (pc := 50) sM_0 rfl fk_X12_84 (td kX12_worked 29 rfl) ?_
          refine X_iload_n (pc := 53) (td kX12_worked 30 rfl) rfl 0 rfl ?_
          refine X_iload (pc := 54) (td kX12_worked 31 rfl) 4 rfl ?_
          refine X_bipush (v := (30 : Int32)) (pc := 56) (td kX12_worked 32 rfl) (by decide) ?_
          refine X_jn (P := fun k => ∀ (y2_66 : Int32), X (wsOf SHM) RX12 cX12_worked 6 (some .int) 3 0 66 [(0, .ref 0), (1, .int p1), (2, .int (x2_14 + (1 : Int32))), (3, .int x3_14)] [.int y2_66, .int (x2_14 + (1 : Int32)), .ref 25] σ_14 (k y2_66)) (fun y2_66 => ?_) (fun k66 h66 => ?_)
          · refine X_iast (pc := 66) sM_25 (td kX12_worked 37 rfl) (fun σ66 => ?_)
            refine X_aload_n (pc := 67) (td kX12_worked 38 rfl) rfl 0 rfl ?_
            refine X_iload_n (pc := 68) (td kX12_worked 39 rfl) rfl 2 rfl ?_
            refine X_callv (pc := 69) (As := [.int (x2_14 + (1 : Int32))]) (st := []) sM_0 (x_X12_opens (x2_14 + (1 : Int32)) σ66) mkX12_opens lk_X12_249 (by omega) rfl rfl (Nat.le_of_ble_eq_true rfl) (td kX12_worked 40 rfl) (fun _ σ69 _ => ?_)
            refine X_goto (pc := 72) (tgt := 329) (td kX12_worked 41 rfl) (by decide) ?_
            exact h329 (x2_14 + (1 : Int32)) σ69
          · refine X_icmp_ne (pc := 58) (tgt := 65) (td kX12_worked 33 rfl) (by decide) (fun c_58 => ?_) (fun c_58 => ?_)
            · refine X_iconst (v := (0 : Int32)) (pc := 65) (td kX12_worked 36 rfl) (by decide) ?_
              refine X_sub [1, 2, 0, 3] rfl ?_
              exact h66 (0 : Int32)
            · refine X_iconst (v := (1 : Int32)) (pc := 61) (td kX12_worked 34 rfl) (by decide) ?_
              refine X_goto (pc := 62) (tgt := 66) (td kX12_worked 35 rfl) (by decide) ?_
              refine X_sub [1, 2, 0, 3] rfl ?_
              exact h66 (1 : Int32)
        · refine X_icmp_eq (pc := 36) (tgt := 46) (td kX12_worked 23 rfl) (by decide) (fun c_36 => ?_) (fun c_36 => ?_)
          · refine X_sub [1, 2, 3, 4, 0] rfl ?_
            exact h46
          · refine X_iload (pc := 39) (td kX12_worked 24 rfl) 0 rfl ?_
            refine X_bipush (v := (30 : Int32)) (pc := 41) (td kX12_worked 25 rfl) (by decide) ?_
            refine X_icmp_ne (pc := 43) (tgt := 75) (td kX12_worked 26 rfl) (by decide) (fun c_43 => ?_) (fun c_43 => ?_)
            · refine X_iload (pc := 75) (td kX12_worked 42 rfl) 0 rfl ?_
              refine X_bipush (v := (20 : Int32)) (pc := 77) (td kX12_worked 43 rfl) (by decide) ?_
              refine X_jn (P := fun k => X (wsOf SHM) RX12 cX12_worked 6 (some .int) 3 0 89 [(0, .ref 0), (1, .int p1), (2, .int x2_14), (3, .int x3_14), (4, .int v4_30)] [] σ_14 k) ?_ (fun k89 h89 => ?_)
              · refine X_aload_n (pc := 89) (td kX12_worked 48 rfl) rfl 0 rfl ?_
                refine X_iload_n (pc := 90) (td kX12_worked 49 rfl) rfl 2 rfl ?_
                refine X_callv (pc := 91) (As := [.int x2_14]) (st := []) sM_0 (x_X12_sums x2_14 σ_14) mkX12_sums lk_X12_246 (by omega) rfl rfl (Nat.le_of_ble_eq_true rfl) (td kX12_worked 50 rfl) (fun _ σ91 _ => ?_)
                refine X_aload_n (pc := 94) (td kX12_worked 51 rfl) rfl 0 rfl ?_
                refine X_getF (b := 22) (pc := 95) sM_0 rfl fk_X12_75 (td kX12_worked 52 rfl) ?_
                refine X_iload_n (pc := 98) (td kX12_worked 53 rfl) rfl 2 rfl ?_
                refine X_iload (pc := 99) (td kX12_worked 54 rfl) 4 rfl ?_
                refine X_iast (pc := 101) sM_22 (td kX12_worked 55 rfl) (fun σ101 => ?_)
                refine X_goto (pc := 102) (tgt := 329) (td kX12_worked 56 rfl) (by decide) ?_
                refine X_sub [0, 1, 2, 3] rfl ?_
                exact h329 x2_14 σ101
              · refine X_icmp_eq (pc := 79) (tgt := 89) (td kX12_worked 44 rfl) (by decide) (fun c_79 => ?_) (fun c_79 => ?_)
                · refine X_sub [1, 2, 3, 4, 0] rfl ?_
                  exact h89
                · refine X_iload (pc := 82) (td kX12_worked 45 rfl) 0 rfl ?_
                  refine X_bipush (v := (21 : Int32)) (pc := 84) (td kX12_worked 46 rfl) (by decide) ?_
                  refine X_icmp_ne (pc := 86) (tgt := 105) (td kX12_worked 47 rfl) (by decide) (fun c_86 => ?_) (fun c_86 => ?_)
                  · refine X_iload (pc := 105) (td kX12_worked 57 rfl) 0 rfl ?_
                    refine X_bipush (v := (22 : Int32)) (pc := 107) (td kX12_worked 58 rfl) (by decide) ?_
                    refine X_icmp_ne (pc := 109) (tgt := 123) (td kX12_worked 59 rfl) (by decide) (fun c_109 => ?_) (fun c_109 => ?_)
                    · refine X_iload (pc := 123) (td kX12_worked 66 rfl) 0 rfl ?_
                      refine X_bipush (v := (24 : Int32)) (pc := 125) (td kX12_worked 67 rfl) (by decide) ?_
                      refine X_jn (P := fun k => X (wsOf SHM) RX12 cX12_worked 6 (some .int) 3 0 137 [(0, .ref 0), (1, .int p1), (2, .int x2_14), (3, .int x3_14), (4, .int v4_30)] [] σ_14 k) ?_ (fun k137 h137 => ?_)
                      · unfold J_X12_worked_137
                        refine X_aload_n (pc := 137) (td kX12_worked 72 rfl) rfl 0 rfl ?_
                        refine X_iload_n (pc := 138) (td kX12_worked 73 rfl) rfl 2 rfl ?_
                        refine X_callv (pc := 139) (As := [.int x2_14]) (st := []) sM_0 (x_X12_sums x2_14 σ_14) mkX12_sums lk_X12_246 (by omega) rfl rfl (Nat.le_of_ble_eq_true rfl) (td kX12_worked 74 rfl) (fun _ σ139 _ => ?_)
                        refine X_aload_n (pc := 142) (td kX12_worked 75 rfl) rfl 0 rfl ?_
                        refine X_getF (b := 19) (pc := 143) sM_0 rfl fk_X12_66 (td kX12_worked 76 rfl) ?_
                        refine X_iload_n (pc := 146) (td kX12_worked 77 rfl) rfl 2 rfl ?_
                        refine X_aload_n (pc := 147) (td kX12_worked 78 rfl) rfl 0 rfl ?_
                        refine X_getF (b := 21) (pc := 148) sM_0 rfl fk_X12_72 (td kX12_worked 79 rfl) ?_
                        refine X_iload_n (pc := 151) (td kX12_worked 80 rfl) rfl 2 rfl ?_
                        refine X_iald (pc := 152) sM_21 (td kX12_worked 81 rfl) ?_
                        refine X_iast (pc := 153) sM_19 (td kX12_worked 82 rfl) (fun σ153 => ?_)
                        refine X_aload_n (pc := 154) (td kX12_worked 83 rfl) rfl 0 rfl ?_
                        refine X_getF (b := 20) (pc := 155) sM_0 rfl fk_X12_69 (td kX12_worked 84 rfl) ?_
                        refine X_iload_n (pc := 158) (td kX12_worked 85 rfl) rfl 2 rfl ?_
                        refine X_iload (pc := 159) (td kX12_worked 86 rfl) 4 rfl ?_
                        refine X_iast (pc := 161) sM_20 (td kX12_worked 87 rfl) (fun σ161 => ?_)
                        refine X_aload_n (pc := 162) (td kX12_worked 88 rfl) rfl 0 rfl ?_
                        refine X_getF (b := 21) (pc := 163) sM_0 rfl fk_X12_72 (td kX12_worked 89 rfl) ?_
                        refine X_iload_n (pc := 166) (td kX12_worked 90 rfl) rfl 2 rfl ?_
                        refine X_iconst (v := (0 : Int32)) (pc := 167) (td kX12_worked 91 rfl) (by decide) ?_
                        refine X_iast (pc := 168) sM_21 (td kX12_worked 92 rfl) (fun σ168 => ?_)
                        refine X_aload_n (pc := 169) (td kX12_worked 93 rfl) rfl 0 rfl ?_
                        refine X_getF (b := 22) (pc := 170) sM_0 rfl fk_X12_75 (td kX12_worked 94 rfl) ?_
                        refine X_iload_n (pc := 173) (td kX12_worked 95 rfl) rfl 2 rfl ?_
                        refine X_bipush (v := (20 : Int32)) (pc := 174) (td kX12_worked 96 rfl) (by decide) ?_
                        refine X_iast (pc := 176) sM_22 (td kX12_worked 97 rfl) (fun σ176 => ?_)
                        refine X_goto (pc := 177) (tgt := 329) (td kX12_worked 98 rfl) (by decide) ?_
                        refine X_sub [0, 1, 2, 3] rfl ?_
                        exact h329 x2_14 σ176
                      · refine X_icmp_eq (pc := 127) (tgt := 137) (td kX12_worked 68 rfl) (by decide) (fun c_127 => ?_) (fun c_127 => ?_)
                        · refine X_sub [1, 2, 3, 4, 0] rfl ?_
                          exact h137
                        · refine X_iload (pc := 130) (td kX12_worked 69 rfl) 0 rfl ?_
                          refine X_bipush (v := (25 : Int32)) (pc := 132) (td kX12_worked 70 rfl) (by decide) ?_
                          refine X_icmp_ne (pc := 134) (tgt := 180) (td kX12_worked 71 rfl) (by decide) (fun c_134 => ?_) (fun c_134 => ?_)
                          · refine X_iload (pc := 180) (td kX12_worked 99 rfl) 0 rfl ?_
                            refine X_bipush (v := (26 : Int32)) (pc := 182) (td kX12_worked 100 rfl) (by decide) ?_
                            refine X_jn (P := fun k => X (wsOf SHM) RX12 cX12_worked 6 (some .int) 3 0 194 [(0, .ref 0), (1, .int p1), (2, .int x2_14), (3, .int x3_14), (4, .int v4_30)] [] σ_14 k) ?_ (fun k194 h194 => ?_)
                            · refine X_aload_n (pc := 194) (td kX12_worked 105 rfl) rfl 0 rfl ?_
                              refine X_iload_n (pc := 195) (td kX12_worked 106 rfl) rfl 2 rfl ?_
                              refine X_callv (pc := 196) (As := [.int x2_14]) (st := []) sM_0 (x_X12_tests x2_14 σ_14) mkX12_tests lk_X12_252 (by omega) rfl rfl (Nat.le_of_ble_eq_true rfl) (td kX12_worked 107 rfl) (fun _ σ196 _ => ?_)
                              refine X_aload_n (pc := 199) (td kX12_worked 108 rfl) rfl 0 rfl ?_
                              refine X_getF (b := 18) (pc := 200) sM_0 rfl fk_X12_63 (td kX12_worked 109 rfl) ?_
                              refine X_iload_n (pc := 203) (td kX12_worked 110 rfl) rfl 2 rfl ?_
                              refine X_iload (pc := 204) (td kX12_worked 111 rfl) 4 rfl ?_
                              refine X_iast (pc := 206) sM_18 (td kX12_worked 112 rfl) (fun σ206 => ?_)
                              refine X_goto (pc := 207) (tgt := 329) (td kX12_worked 113 rfl) (by decide) ?_
                              refine X_sub [0, 1, 2, 3] rfl ?_
                              exact h329 x2_14 σ206
                            · refine X_icmp_eq (pc := 184) (tgt := 194) (td kX12_worked 101 rfl) (by decide) (fun c_184 => ?_) (fun c_184 => ?_)
                              · refine X_sub [1, 2, 3, 4, 0] rfl ?_
                                exact h194
                              · refine X_iload (pc := 187) (td kX12_worked 102 rfl) 0 rfl ?_
                                refine X_bipush (v := (27 : Int32)) (pc := 189) (td kX12_worked 103 rfl) (by decide) ?_
                                refine X_icmp_ne (pc := 191) (tgt := 210) (td kX12_worked 104 rfl) (by decide) (fun c_191 => ?_) (fun c_191 => ?_)
                                · refine X_iload (pc := 210) (td kX12_worked 114 rfl) 0 rfl ?_
                                  refine X_bipush (v := (100 : Int32)) (pc := 212) (td kX12_worked 115 rfl) (by decide) ?_
                                  refine X_jn (P := fun k => ∀ (y0_243 : Int32), X (wsOf SHM) RX12 cX12_worked 6 (some .int) 3 0 243 [(0, .ref 0), (1, .int p1), (2, .int x2_14), (3, .int x3_14), (4, .int v4_30)] [.int y0_243] σ_14 (k y0_243)) (fun y0_243 => ?_) (fun k243 h243 => ?_)
                                  · refine X_istore (L' := [(5, .int y0_243), (0, .ref 0), (1, .int p1), (2, .int x2_14), (3, .int x3_14), (4, .int v4_30)]) (pc := 243) (td kX12_worked 130 rfl) (by decide) rfl ?_
                                    refine X_iload (pc := 245) (td kX12_worked 131 rfl) 5 rfl ?_
                                    refine X_bipush (v := (29 : Int32)) (pc := 247) (td kX12_worked 132 rfl) (by decide) ?_
                                    refine X_jn (P := fun k => ∀ (x2_268 : Int32) (x5_268 : Int32) (σ_268 : Mm), X (wsOf SHM) RX12 cX12_worked 6 (some .int) 3 0 268 [(0, .ref 0), (1, .int p1), (2, .int x2_268), (3, .int x3_14), (5, .int x5_268)] [] σ_268 (k x2_268 x5_268 σ_268)) (fun x2_268 x5_268 σ_268 => ?_) (fun k268 h268 => ?_)
                                    · unfold J_X12_worked_268
                                      refine X_jn (P := fun k => ∀ (x2_300 : Int32) (x5_300 : Int32), X (wsOf SHM) RX12 cX12_worked 6 (some .int) 3 0 300 [(0, .ref 0), (1, .int p1), (2, .int x2_300), (3, .int x3_14), (5, .int x5_300)] [] σ_268 (k x2_300 x5_300)) (fun x2_300 x5_300 => ?_) (fun k300 h300 => ?_)
                                      · refine X_aload_n (pc := 300) (td kX12_worked 159 rfl) rfl 0 rfl ?_
                                        refine X_getF (b := 23) (pc := 301) sM_0 rfl fk_X12_78 (td kX12_worked 160 rfl) ?_
                                        refine X_iload_n (pc := 304) (td kX12_worked 161 rfl) rfl 2 rfl ?_
                                        refine X_aload_n (pc := 305) (td kX12_worked 162 rfl) rfl 0 rfl ?_
                                        refine X_getF (b := 24) (pc := 306) sM_0 rfl fk_X12_81 (td kX12_worked 163 rfl) ?_
                                        refine X_iload_n (pc := 309) (td kX12_worked 164 rfl) rfl 2 rfl ?_
                                        refine X_iald (pc := 310) sM_24 (td kX12_worked 165 rfl) ?_
                                        refine X_jn (P := fun k => ∀ (y2_328 : Int32), X (wsOf SHM) RX12 cX12_worked 6 (some .int) 3 0 328 [(0, .ref 0), (1, .int p1), (2, .int x2_300), (3, .int x3_14)] [.int y2_328, .int x2_300, .ref 23] σ_268 (k y2_328)) (fun y2_328 => ?_) (fun k328 h328 => ?_)
                                        · refine X_iast (pc := 328) sM_23 (td kX12_worked 175 rfl) (fun σ328 => ?_)
                                          exact h329 x2_300 σ328
                                        · refine X_if_ne (pc := 311) (tgt := 319) (td kX12_worked 166 rfl) (by decide) (fun c_311 => ?_) (fun c_311 => ?_)
                                          · refine X_aload_n (pc := 319) (td kX12_worked 169 rfl) rfl 0 rfl ?_
                                            refine X_getF (b := 23) (pc := 320) sM_0 rfl fk_X12_78 (td kX12_worked 170 rfl) ?_
                                            refine X_iload_n (pc := 323) (td kX12_worked 171 rfl) rfl 2 rfl ?_
                                            refine X_iald (pc := 324) sM_23 (td kX12_worked 172 rfl) ?_
                                            refine X_iload (pc := 325) (td kX12_worked 173 rfl) 4 rfl ?_
                                            refine X_imul (pc := 327) (td kX12_worked 174 rfl) ?_
                                            refine X_sub [0, 1, 2, 3] rfl ?_
                                            exact h328 ((gI σ_268 23 x2_300.toNatClampNeg) * x5_300)
                                          · refine X_iload (pc := 314) (td kX12_worked 167 rfl) 4 rfl ?_
                                            refine X_goto (pc := 316) (tgt := 328) (td kX12_worked 168 rfl) (by decide) ?_
                                            refine X_sub [0, 1, 2, 3] rfl ?_
                                            exact h328 x5_300
                                      · refine lq2_ind (P := fun x2_268 x5_268 E => X (wsOf SHM) RX12 cX12_worked 6 (some .int) 3 0 268 [(0, .ref 0), (1, .int p1), (2, .int x2_268), (3, .int x3_14), (5, .int x5_268)] [] σ_268 E) (fun _ _ => X_none) (fun rec268 hrec268 x2_268 x5_268 => ?_) _ _ _
                                        unfold F_X12_worked_268
                                        refine X_iload_n (pc := 268) (td kX12_worked 143 rfl) rfl 2 rfl ?_
                                        refine X_if_le (pc := 269) (tgt := 300) (td kX12_worked 144 rfl) (by decide) (fun c_269 => ?_) (fun c_269 => ?_)
                                        · exact h300 x2_268 x5_268
                                        · refine X_aload_n (pc := 272) (td kX12_worked 145 rfl) rfl 0 rfl ?_
                                          refine X_getF (b := 25) (pc := 273) sM_0 rfl fk_X12_84 (td kX12_worked 146 rfl) ?_
                                          refine X_iload_n (pc := 276) (td kX12_worked 147 rfl) rfl 2 rfl ?_
                                          refine X_iald (pc := 277) sM_25 (td kX12_worked 148 rfl) ?_
                                          refine X_iconst (v := (1 : Int32)) (pc := 278) (td kX12_worked 149 rfl) (by decide) ?_
                                          refine X_icmp_ne (pc := 279) (tgt := 300) (td kX12_worked 150 rfl) (by decide) (fun c_279 => ?_) (fun c_279 => ?_)
                                          · exact h300 x2_268 x5_268
                                          · refine X_iload (pc := 282) (td kX12_worked 151 rfl) 4 rfl ?_
                                            refine X_jn (P := fun k => ∀ (y0_292 : Int32), X (wsOf SHM) RX12 cX12_worked 6 (some .int) 3 0 292 [(0, .ref 0), (1, .int p1), (2, .int x2_268), (3, .int x3_14)] [.int y0_292] σ_268 (k y0_292)) (fun y0_292 => ?_) (fun k292 h292 => ?_)
                                            · refine X_istore (L' := [(5, .int y0_292), (0, .ref 0), (1, .int p1), (2, .int x2_268), (3, .int x3_14)]) (pc := 292) (td kX12_worked 156 rfl) (by decide) rfl ?_
                                              refine X_iinc (v := (x2_268 + (-1 : Int32))) (L' := [(2, .int (x2_268 + (-1 : Int32))), (5, .int y0_292), (0, .ref 0), (1, .int p1), (3, .int x3_14)]) (pc := 294) (td kX12_worked 157 rfl) 3 rfl rfl (by decide) rfl ?_
                                              refine X_goto (pc := 297) (tgt := 268) (td kX12_worked 158 rfl) (by decide) ?_
                                              refine X_sub [2, 3, 0, 4, 1] rfl ?_
                                              exact hrec268 (x2_268 + (-1 : Int32)) y0_292
                                            · refine X_if_ne (pc := 284) (tgt := 291) (td kX12_worked 152 rfl) (by decide) (fun c_284 => ?_) (fun c_284 => ?_)
                                              · refine X_iconst (v := (0 : Int32)) (pc := 291) (td kX12_worked 155 rfl) (by decide) ?_
                                                refine X_sub [0, 1, 2, 3] rfl ?_
                                                exact h292 (0 : Int32)
                                              · refine X_iconst (v := (1 : Int32)) (pc := 287) (td kX12_worked 153 rfl) (by decide) ?_
                                                refine X_goto (pc := 288) (tgt := 292) (td kX12_worked 154 rfl) (by decide) ?_
                                                refine X_sub [0, 1, 2, 3] rfl ?_
                                                exact h292 (1 : Int32)
                                    · refine X_icmp_ne (pc := 249) (tgt := 268) (td kX12_worked 133 rfl) (by decide) (fun c_249 => ?_) (fun c_249 => ?_)
                                      · refine X_sub [1, 2, 3, 4, 0] rfl ?_
                                        exact h268 x2_14 y0_243 σ_14
                                      · refine X_aload_n (pc := 252) (td kX12_worked 134 rfl) rfl 1 rfl ?_
                                        refine X_iload_n (pc := 253) (td kX12_worked 135 rfl) rfl 3 rfl ?_
                                        refine X_callv (pc := 254) (As := [.int x2_14]) (st := []) sM_0 (x_X12_tests x2_14 σ_14) mkX12_tests lk_X12_252 (by omega) rfl rfl (Nat.le_of_ble_eq_true rfl) (td kX12_worked 136 rfl) (fun _ σ254 _ => ?_)
                                        refine X_aload_n (pc := 257) (td kX12_worked 137 rfl) rfl 1 rfl ?_
                                        refine X_getF (b := 17) (pc := 258) sM_0 rfl fk_X12_60 (td kX12_worked 138 rfl) ?_
                                        refine X_iload_n (pc := 261) (td kX12_worked 139 rfl) rfl 3 rfl ?_
                                        refine X_iald (pc := 262) sM_17 (td kX12_worked 140 rfl) ?_
                                        refine X_bi (fun v5_263 => ?_)
                                        refine X_istore (L' := [(5, .int v5_263), (0, .ref 0), (1, .int p1), (2, .int x2_14), (3, .int x3_14), (4, .int v4_30)]) (pc := 263) (td kX12_worked 141 rfl) (by decide) rfl ?_
                                        refine X_iinc (v := (x2_14 + (-1 : Int32))) (L' := [(2, .int (x2_14 + (-1 : Int32))), (5, .int v5_263), (0, .ref 0), (1, .int p1), (3, .int x3_14), (4, .int v4_30)]) (pc := 265) (td kX12_worked 142 rfl) 3 rfl rfl (by decide) rfl ?_
                                        refine X_sub [2, 3, 0, 4, 1] rfl ?_
                                        exact h268 (x2_14 + (-1 : Int32)) v5_263 σ254
                                  · refine X_icmp_lt (pc := 214) (tgt := 225) (td kX12_worked 116 rfl) (by decide) (fun c_214 => ?_) (fun c_214 => ?_)
                                    · refine X_iload (pc := 225) (td kX12_worked 121 rfl) 0 rfl ?_
                                      refine X_bipush (v := (20 : Int32)) (pc := 227) (td kX12_worked 122 rfl) (by decide) ?_
                                      refine X_icmp_ge (pc := 229) (tgt := 242) (td kX12_worked 123 rfl) (by decide) (fun c_229 => ?_) (fun c_229 => ?_)
                                      · refine X_iconst (v := (0 : Int32)) (pc := 242) (td kX12_worked 129 rfl) (by decide) ?_
                                        refine X_sub [1, 2, 3, 4, 0] rfl ?_
                                        exact h243 (0 : Int32)
                                      · refine X_aload_n (pc := 232) (td kX12_worked 124 rfl) rfl 1 rfl ?_
                                        refine X_getF (b := 26) (pc := 233) sM_0 rfl fk_X12_87 (td kX12_worked 125 rfl) ?_
                                        refine X_iload (pc := 236) (td kX12_worked 126 rfl) 0 rfl ?_
                                        refine X_iald (pc := 238) sM_26 (td kX12_worked 127 rfl) ?_
                                        refine X_goto (pc := 239) (tgt := 243) (td kX12_worked 128 rfl) (by decide) ?_
                                        refine X_sub [1, 2, 3, 4, 0] rfl ?_
                                        exact h243 (gI σ_14 26 v4_30.toNatClampNeg)
                                    · refine X_iload (pc := 217) (td kX12_worked 117 rfl) 0 rfl ?_
                                      refine X_bipush (v := (100 : Int32)) (pc := 219) (td kX12_worked 118 rfl) (by decide) ?_
                                      refine X_isub (pc := 221) (td kX12_worked 119 rfl) ?_
                                      refine X_goto (pc := 222) (tgt := 243) (td kX12_worked 120 rfl) (by decide) ?_
                                      refine X_sub [1, 2, 3, 4, 0] rfl ?_
                                      exact h243 (v4_30 - (100 : Int32))
                                · refine X_sub [1, 2, 3, 4, 0] rfl ?_
                                  exact h194
                          · refine X_sub [1, 2, 3, 4, 0] rfl ?_
                            exact h137
                    · refine X_aload_n (pc := 112) (td kX12_worked 60 rfl) rfl 1 rfl ?_
                      refine X_getF (b := 24) (pc := 113) sM_0 rfl fk_X12_81 (td kX12_worked 61 rfl) ?_
                      refine X_iload_n (pc := 116) (td kX12_worked 62 rfl) rfl 3 rfl ?_
                      refine X_iload (pc := 117) (td kX12_worked 63 rfl) 0 rfl ?_
                      refine X_iast (pc := 119) sM_24 (td kX12_worked 64 rfl) (fun σ119 => ?_)
                      refine X_goto (pc := 120) (tgt := 329) (td kX12_worked 65 rfl) (by decide) ?_
                      refine X_sub [1, 2, 3, 4] rfl ?_
                      exact h329 x2_14 σ119
                  · refine X_sub [1, 2, 3, 4, 0] rfl ?_
                    exact h89
            · refine X_sub [1, 2, 3, 4, 0] rfl ?_
              exact h46
def f_X12_burnsBy (p1 : Int32) (p2 : Int32) (p3 : Int32) (σ : Mm) : Option (Int32 × Mm) := ck (inb p1 16) (bn ((gI σ 7 p1.toNatClampNeg) + (gI σ 0 56)) (fun v4_11 => ck (inb (0 : Int32) 2) (ck (inb (0 : Int32) 2) (jn (fun (x4_78 : Int32) (σ_78 : Mm) => cl (f_X12_between x4_78 (0 : Int32) (30 : Int32) σ_78) (fun r84 _ => some ((imx p2 r84), σ_78))) (fun k78 => (if (gI σ 12 (0 : Int32).toNatClampNeg) < (gI σ 13 (0 : Int32).toNatClampNeg) then ck (inb p1 16) (ck (inb (1 : Int32) 20) (bn (pI σ 26 (1 : Int32).toNatClampNeg ((gI σ 7 p1.toNatClampNeg) + (gI σ 0 56))) (fun σ44 => ck (inb (2 : Int32) 20) (bn (pI σ44 26 (2 : Int32).toNatClampNeg p2) (fun σ51 => ck (inb (3 : Int32) 20) (bn (pI σ51 26 (3 : Int32).toNatClampNeg p3) (fun σ58 => ck (inb (0 : Int32) 41) (ck (inb (4 : Int32) 20) (bn (pI σ58 26 (4 : Int32).toNatClampNeg (gI σ58 36 (0 : Int32).toNatClampNeg)) (fun σ70 => cl (f_X12_worked (0 : Int32) σ70) (fun r73 σ73 => k78 r73 σ73))))))))))) else k78 v4_11 σ))))))
set_option maxHeartbeats 4000000 in
set_option maxRecDepth 100000 in
theorem x_X12_burnsBy (p1 : Int32) (p2 : Int32) (p3 : Int32) (σ : Mm) : Con (wsOf SHM) yX12_burnsBy cX12_burnsBy 5 (some .int) 4 [.ref 0, .int p1, .int p2, .int p3] σ (f_X12_burnsBy p1 p2 p3 σ) := by
  refine Con.of_X (by decide +kernel) (Nat.le_of_ble_eq_true rfl) ?_
  unfold f_X12_burnsBy
  show X (wsOf SHM) RX12 cX12_burnsBy 5 (some .int) 4 0 0 [(0, .ref 0), (1, .int p1), (2, .int p2), (3, .int p3)] [] σ _
  refine X_aload_n (pc := 0) (td kX12_burnsBy 0 rfl) rfl 0 rfl ?_
  refine X_getF (b := 7) (pc := 1) sM_0 rfl fk_X12_29 (td kX12_burnsBy 1 rfl) ?_
  refine X_iload_n (pc := 4) (td kX12_burnsBy 2 rfl) rfl 1 rfl ?_
  refine X_iald (pc := 5) sM_7 (td kX12_burnsBy 3 rfl) ?_
  refine X_aload_n (pc := 6) (td kX12_burnsBy 4 rfl) rfl 0 rfl ?_
  refine X_getI (pc := 7) sM_0 rfl fk_X12_396 (td kX12_burnsBy 5 rfl) ?_
  refine X_iadd (pc := 10) (td kX12_burnsBy 6 rfl) ?_
  refine X_bi (fun v4_11 => ?_)
  refine X_istore (L' := [(4, .int v4_11), (0, .ref 0), (1, .int p1), (2, .int p2), (3, .int p3)]) (pc := 11) (td kX12_burnsBy 7 rfl) (by decide) rfl ?_
  refine X_aload_n (pc := 13) (td kX12_burnsBy 8 rfl) rfl 1 rfl ?_
  refine X_getF (b := 13) (pc := 14) sM_0 rfl fk_X12_47 (td kX12_burnsBy 9 rfl) ?_
  refine X_iconst (v := (0 : Int32)) (pc := 17) (td kX12_burnsBy 10 rfl) (by decide) ?_
  refine X_iald (pc := 18) sM_13 (td kX12_burnsBy 11 rfl) ?_
  refine X_aload_n (pc := 19) (td kX12_burnsBy 12 rfl) rfl 1 rfl ?_
  refine X_getF (b := 12) (pc := 20) sM_0 rfl fk_X12_44 (td kX12_burnsBy 13 rfl) ?_
  refine X_iconst (v := (0 : Int32)) (pc := 23) (td kX12_burnsBy 14 rfl) (by decide) ?_
  refine X_iald (pc := 24) sM_12 (td kX12_burnsBy 15 rfl) ?_
  refine X_jn (P := fun k => ∀ (x4_78 : Int32) (σ_78 : Mm), X (wsOf SHM) RX12 cX12_burnsBy 5 (some .int) 4 0 78 [(2, .int p2), (4, .int x4_78)] [] σ_78 (k x4_78 σ_78)) (fun x4_78 σ_78 => ?_) (fun k78 h78 => ?_)
  · refine X_iload_n (pc := 78) (td kX12_burnsBy 50 rfl) rfl 0 rfl ?_
    refine X_iload (pc := 79) (td kX12_burnsBy 51 rfl) 1 rfl ?_
    refine X_iconst (v := (0 : Int32)) (pc := 81) (td kX12_burnsBy 52 rfl) (by decide) ?_
    refine X_bipush (v := (30 : Int32)) (pc := 82) (td kX12_burnsBy 53 rfl) (by decide) ?_
    refine X_callsip (pc := 84) (As := [.int x4_78, .int (0 : Int32), .int (30 : Int32)]) (st := [.int p2]) (p_X12_between x4_78 (0 : Int32) (30 : Int32) σ_78) (x_X12_between x4_78 (0 : Int32) (30 : Int32) σ_78) mkX12_between lk_X12_402 (by omega) rfl rfl (Nat.le_of_ble_eq_true rfl) (td kX12_burnsBy 54 rfl) (fun r84 hr84 => ?_)
    refine X_mmax2 (pc := 87) (td kX12_burnsBy 55 rfl) lm_X12_405 (by omega) (Nat.le_of_ble_eq_true rfl) ?_
    exact X_ret (pc := 90) (td kX12_burnsBy 56 rfl) rfl
  · refine X_icmp_le (pc := 25) (tgt := 78) (td kX12_burnsBy 16 rfl) (by decide) (fun c_25 => ?_) (fun c_25 => ?_)
    · refine X_sub [3, 0] rfl ?_
      exact h78 v4_11 σ
    · refine X_aload_n (pc := 28) (td kX12_burnsBy 17 rfl) rfl 1 rfl ?_
      refine X_getF (b := 26) (pc := 29) sM_0 rfl fk_X12_87 (td kX12_burnsBy 18 rfl) ?_
      refine X_iconst (v := (1 : Int32)) (pc := 32) (td kX12_burnsBy 19 rfl) (by decide) ?_
      refine X_aload_n (pc := 33) (td kX12_burnsBy 20 rfl) rfl 1 rfl ?_
      refine X_getF (b := 7) (pc := 34) sM_0 rfl fk_X12_29 (td kX12_burnsBy 21 rfl) ?_
      refine X_iload_n (pc := 37) (td kX12_burnsBy 22 rfl) rfl 2 rfl ?_
      refine X_iald (pc := 38) sM_7 (td kX12_burnsBy 23 rfl) ?_
      refine X_aload_n (pc := 39) (td kX12_burnsBy 24 rfl) rfl 1 rfl ?_
      refine X_getI (pc := 40) sM_0 rfl fk_X12_396 (td kX12_burnsBy 25 rfl) ?_
      refine X_iadd (pc := 43) (td kX12_burnsBy 26 rfl) ?_
      refine X_iast (pc := 44) sM_26 (td kX12_burnsBy 27 rfl) (fun σ44 => ?_)
      refine X_aload_n (pc := 45) (td kX12_burnsBy 28 rfl) rfl 1 rfl ?_
      refine X_getF (b := 26) (pc := 46) sM_0 rfl fk_X12_87 (td kX12_burnsBy 29 rfl) ?_
      refine X_iconst (v := (2 : Int32)) (pc := 49) (td kX12_burnsBy 30 rfl) (by decide) ?_
      refine X_iload_n (pc := 50) (td kX12_burnsBy 31 rfl) rfl 3 rfl ?_
      refine X_iast (pc := 51) sM_26 (td kX12_burnsBy 32 rfl) (fun σ51 => ?_)
      refine X_aload_n (pc := 52) (td kX12_burnsBy 33 rfl) rfl 1 rfl ?_
      refine X_getF (b := 26) (pc := 53) sM_0 rfl fk_X12_87 (td kX12_burnsBy 34 rfl) ?_
      refine X_iconst (v := (3 : Int32)) (pc := 56) (td kX12_burnsBy 35 rfl) (by decide) ?_
      refine X_iload_n (pc := 57) (td kX12_burnsBy 36 rfl) rfl 4 rfl ?_
      refine X_iast (pc := 58) sM_26 (td kX12_burnsBy 37 rfl) (fun σ58 => ?_)
      refine X_aload_n (pc := 59) (td kX12_burnsBy 38 rfl) rfl 1 rfl ?_
      refine X_getF (b := 26) (pc := 60) sM_0 rfl fk_X12_87 (td kX12_burnsBy 39 rfl) ?_
      refine X_iconst (v := (4 : Int32)) (pc := 63) (td kX12_burnsBy 40 rfl) (by decide) ?_
      refine X_aload_n (pc := 64) (td kX12_burnsBy 41 rfl) rfl 1 rfl ?_
      refine X_getF (b := 36) (pc := 65) sM_0 rfl fk_X12_117 (td kX12_burnsBy 42 rfl) ?_
      refine X_iconst (v := (0 : Int32)) (pc := 68) (td kX12_burnsBy 43 rfl) (by decide) ?_
      refine X_iald (pc := 69) sM_36 (td kX12_burnsBy 44 rfl) ?_
      refine X_iast (pc := 70) sM_26 (td kX12_burnsBy 45 rfl) (fun σ70 => ?_)
      refine X_aload_n (pc := 71) (td kX12_burnsBy 46 rfl) rfl 1 rfl ?_
      refine X_iconst (v := (0 : Int32)) (pc := 72) (td kX12_burnsBy 47 rfl) (by decide) ?_
      refine X_calli (pc := 73) (As := [.int (0 : Int32)]) (st := []) sM_0 (x_X12_worked (0 : Int32) σ70) mkX12_worked lk_X12_399 (by omega) rfl rfl (Nat.le_of_ble_eq_true rfl) (td kX12_burnsBy 48 rfl) (fun r73 σ73 _ hr73 => ?_)
      refine X_istore (L' := [(4, .int r73), (0, .ref 0), (1, .int p1), (2, .int p2), (3, .int p3)]) (pc := 76) (td kX12_burnsBy 49 rfl) (by decide) rfl ?_
      refine X_sub [3, 0] rfl ?_
      exact h78 r73 σ73
def J_X12_goesAlong_41 (p1 : Int32) (p2 : Int32) (σ : Mm) (y2_41 : Int32) : Option (Int32 × Mm) := ck (inb ((11 : Int32) + p1) 41) (bn (pI σ 36 ((11 : Int32) + p1).toNatClampNeg y2_41) (fun σ41 => ck (inb p1 12) ((if (gI σ41 8 p1.toNatClampNeg) = (3 : Int32) then ck (inb ((35 : Int32) + p1) 41) (bn (pI σ41 36 ((35 : Int32) + p1).toNatClampNeg p2) (fun σ62 => bn ((29 : Int32) + p1) (fun i_79 => ck (inb i_79 41) (ck (inb ((29 : Int32) + p1) 41) (bn (pI σ62 36 ((29 : Int32) + p1).toNatClampNeg (irm ((gI σ62 36 i_79.toNatClampNeg) + (1 : Int32)) (3 : Int32))) (fun σ84 => some (0, σ84))))))) else some (0, σ41)))))
def f_X12_goesAlong (p1 : Int32) (p2 : Int32) (σ : Mm) : Option (Int32 × Mm) := ck (inb p2 16) (bn ((11 : Int32) + p1) (fun i_22 => ck (inb i_22 41) (jn (J_X12_goesAlong_41 p1 p2 σ) (fun k41 => (if (gI σ 5 p2.toNatClampNeg) = (gI σ 36 i_22.toNatClampNeg) then ck (inb p2 16) (k41 (gI σ 6 p2.toNatClampNeg)) else ck (inb p2 16) (k41 (gI σ 5 p2.toNatClampNeg)))))))
set_option maxHeartbeats 4000000 in
set_option maxRecDepth 100000 in
theorem x_X12_goesAlong (p1 : Int32) (p2 : Int32) (σ : Mm) : Con (wsOf SHM) yX12_goesAlong cX12_goesAlong 3 none 1 [.ref 0, .int p1, .int p2] σ (f_X12_goesAlong p1 p2 σ) := by
  refine Con.of_X (by decide +kernel) (Nat.le_of_ble_eq_true rfl) ?_
  unfold f_X12_goesAlong
  show X (wsOf SHM) RX12 cX12_goesAlong 3 none 1 0 0 [(0, .ref 0), (1, .int p1), (2, .int p2)] [] σ _
  refine X_aload_n (pc := 0) (td kX12_goesAlong 0 rfl) rfl 0 rfl ?_
  refine X_getF (b := 36) (pc := 1) sM_0 rfl fk_X12_117 (td kX12_goesAlong 1 rfl) ?_
  refine X_bipush (v := (11 : Int32)) (pc := 4) (td kX12_goesAlong 2 rfl) (by decide) ?_
  refine X_iload_n (pc := 6) (td kX12_goesAlong 3 rfl) rfl 1 rfl ?_
  refine X_iadd (pc := 7) (td kX12_goesAlong 4 rfl) ?_
  refine X_aload_n (pc := 8) (td kX12_goesAlong 5 rfl) rfl 0 rfl ?_
  refine X_getF (b := 5) (pc := 9) sM_0 rfl fk_X12_23 (td kX12_goesAlong 6 rfl) ?_
  refine X_iload_n (pc := 12) (td kX12_goesAlong 7 rfl) rfl 2 rfl ?_
  refine X_iald (pc := 13) sM_5 (td kX12_goesAlong 8 rfl) ?_
  refine X_aload_n (pc := 14) (td kX12_goesAlong 9 rfl) rfl 0 rfl ?_
  refine X_getF (b := 36) (pc := 15) sM_0 rfl fk_X12_117 (td kX12_goesAlong 10 rfl) ?_
  refine X_bipush (v := (11 : Int32)) (pc := 18) (td kX12_goesAlong 11 rfl) (by decide) ?_
  refine X_iload_n (pc := 20) (td kX12_goesAlong 12 rfl) rfl 1 rfl ?_
  refine X_iadd (pc := 21) (td kX12_goesAlong 13 rfl) ?_
  refine X_bi (fun i_22 => ?_)
  refine X_iald (pc := 22) sM_36 (td kX12_goesAlong 14 rfl) ?_
  refine X_jn (P := fun k => ∀ (y2_41 : Int32), X (wsOf SHM) RX12 cX12_goesAlong 3 none 1 0 41 [(0, .ref 0), (1, .int p1), (2, .int p2)] [.int y2_41, .int ((11 : Int32) + p1), .ref 36] σ (k y2_41)) (fun y2_41 => ?_) (fun k41 h41 => ?_)
  · unfold J_X12_goesAlong_41
    refine X_iast (pc := 41) sM_36 (td kX12_goesAlong 25 rfl) (fun σ41 => ?_)
    refine X_aload_n (pc := 42) (td kX12_goesAlong 26 rfl) rfl 0 rfl ?_
    refine X_getF (b := 8) (pc := 43) sM_0 rfl fk_X12_32 (td kX12_goesAlong 27 rfl) ?_
    refine X_iload_n (pc := 46) (td kX12_goesAlong 28 rfl) rfl 1 rfl ?_
    refine X_iald (pc := 47) sM_8 (td kX12_goesAlong 29 rfl) ?_
    refine X_iconst (v := (3 : Int32)) (pc := 48) (td kX12_goesAlong 30 rfl) (by decide) ?_
    refine X_icmp_eq (pc := 49) (tgt := 53) (td kX12_goesAlong 31 rfl) (by decide) (fun c_49 => ?_) (fun c_49 => ?_)
    · refine X_aload_n (pc := 53) (td kX12_goesAlong 33 rfl) rfl 0 rfl ?_
      refine X_getF (b := 36) (pc := 54) sM_0 rfl fk_X12_117 (td kX12_goesAlong 34 rfl) ?_
      refine X_bipush (v := (35 : Int32)) (pc := 57) (td kX12_goesAlong 35 rfl) (by decide) ?_
      refine X_iload_n (pc := 59) (td kX12_goesAlong 36 rfl) rfl 1 rfl ?_
      refine X_iadd (pc := 60) (td kX12_goesAlong 37 rfl) ?_
      refine X_iload_n (pc := 61) (td kX12_goesAlong 38 rfl) rfl 2 rfl ?_
      refine X_iast (pc := 62) sM_36 (td kX12_goesAlong 39 rfl) (fun σ62 => ?_)
      refine X_aload_n (pc := 63) (td kX12_goesAlong 40 rfl) rfl 0 rfl ?_
      refine X_getF (b := 36) (pc := 64) sM_0 rfl fk_X12_117 (td kX12_goesAlong 41 rfl) ?_
      refine X_bipush (v := (29 : Int32)) (pc := 67) (td kX12_goesAlong 42 rfl) (by decide) ?_
      refine X_iload_n (pc := 69) (td kX12_goesAlong 43 rfl) rfl 1 rfl ?_
      refine X_iadd (pc := 70) (td kX12_goesAlong 44 rfl) ?_
      refine X_aload_n (pc := 71) (td kX12_goesAlong 45 rfl) rfl 0 rfl ?_
      refine X_getF (b := 36) (pc := 72) sM_0 rfl fk_X12_117 (td kX12_goesAlong 46 rfl) ?_
      refine X_bipush (v := (29 : Int32)) (pc := 75) (td kX12_goesAlong 47 rfl) (by decide) ?_
      refine X_iload_n (pc := 77) (td kX12_goesAlong 48 rfl) rfl 1 rfl ?_
      refine X_iadd (pc := 78) (td kX12_goesAlong 49 rfl) ?_
      refine X_bi (fun i_79 => ?_)
      refine X_iald (pc := 79) sM_36 (td kX12_goesAlong 50 rfl) ?_
      refine X_iconst (v := (1 : Int32)) (pc := 80) (td kX12_goesAlong 51 rfl) (by decide) ?_
      refine X_iadd (pc := 81) (td kX12_goesAlong 52 rfl) ?_
      refine X_iconst (v := (3 : Int32)) (pc := 82) (td kX12_goesAlong 53 rfl) (by decide) ?_
      refine X_irem2 (pc := 83) (td kX12_goesAlong 54 rfl) (by decide) ?_
      refine X_iast (pc := 84) sM_36 (td kX12_goesAlong 55 rfl) (fun σ84 => ?_)
      exact X_retv (pc := 85) (td kX12_goesAlong 56 rfl)
    · exact X_retv (pc := 52) (td kX12_goesAlong 32 rfl)
  · refine X_icmp_ne (pc := 23) (tgt := 35) (td kX12_goesAlong 15 rfl) (by decide) (fun c_23 => ?_) (fun c_23 => ?_)
    · refine X_aload_n (pc := 35) (td kX12_goesAlong 21 rfl) rfl 0 rfl ?_
      refine X_getF (b := 5) (pc := 36) sM_0 rfl fk_X12_23 (td kX12_goesAlong 22 rfl) ?_
      refine X_iload_n (pc := 39) (td kX12_goesAlong 23 rfl) rfl 2 rfl ?_
      refine X_iald (pc := 40) sM_5 (td kX12_goesAlong 24 rfl) ?_
      exact h41 (gI σ 5 p2.toNatClampNeg)
    · refine X_aload_n (pc := 26) (td kX12_goesAlong 16 rfl) rfl 0 rfl ?_
      refine X_getF (b := 6) (pc := 27) sM_0 rfl fk_X12_26 (td kX12_goesAlong 17 rfl) ?_
      refine X_iload_n (pc := 30) (td kX12_goesAlong 18 rfl) rfl 2 rfl ?_
      refine X_iald (pc := 31) sM_6 (td kX12_goesAlong 19 rfl) ?_
      refine X_goto (pc := 32) (tgt := 41) (td kX12_goesAlong 20 rfl) (by decide) ?_
      exact h41 (gI σ 6 p2.toNatClampNeg)
def F_X12_passes_134 (k208 : Mm → Option (Int32 × Mm)) (rec134 : Int32 → Mm → Option (Int32 × Mm)) (x2_134 : Int32) (σ_134 : Mm) : Option (Int32 × Mm) := ck (inb (1 : Int32) 8) ((if x2_134 < (gI σ_134 2 (1 : Int32).toNatClampNeg) then bn ((3 : Int32) + x2_134) (fun i_159 => ck (inb i_159 41) (ck (inb ((3 : Int32) + x2_134) 41) (bn (pI σ_134 36 ((3 : Int32) + x2_134).toNatClampNeg (imx (0 : Int32) ((gI σ_134 36 i_159.toNatClampNeg) - (1 : Int32)))) (fun σ165 => ck (inb x2_134 8) (jn (fun (σ_202 : Mm) => rec134 (x2_134 + (1 : Int32)) σ_202) (fun k202 => (if 0 < (gI σ165 42 x2_134.toNatClampNeg) then bn ((3 : Int32) + x2_134) (fun i_191 => ck (inb i_191 41) (ck (inb x2_134 8) (cl (f_X12_burnsBy x2_134 (gI σ165 36 i_191.toNatClampNeg) (gI σ165 42 x2_134.toNatClampNeg) σ165) (fun r198 σ198 => ck (inb ((3 : Int32) + x2_134) 41) (bn (pI σ198 36 ((3 : Int32) + x2_134).toNatClampNeg r198) (fun σ201 => k202 σ201)))))) else k202 σ165))))))) else k208 σ_134))
def J_X12_passes_132 (x1_132 : Int32) (σ_132 : Mm) : Option (Int32 × Mm) := jn (fun (σ_208 : Mm) => ck (inb (0 : Int32) 41) (ck (inb (0 : Int32) 41) (bn (pI σ_208 36 (0 : Int32).toNatClampNeg ((gI σ_208 36 (0 : Int32).toNatClampNeg) + (1 : Int32))) (fun σ217 => ck (inb (2 : Int32) 41) (ck (inb (2 : Int32) 41) (bn (pI σ217 36 (2 : Int32).toNatClampNeg ((gI σ217 36 (2 : Int32).toNatClampNeg) + x1_132)) (fun σ227 => some (x1_132, σ227)))))))) (fun k208 => lq2 (F_X12_passes_134 k208) 1000000 (0 : Int32) σ_132)
def F_X12_passes_25 (k132 : Int32 → Mm → Option (Int32 × Mm)) (rec25 : Int32 → Int32 → Mm → Option (Int32 × Mm)) (x1_25 : Int32) (x2_25 : Int32) (σ_25 : Mm) : Option (Int32 × Mm) := ck (inb (2 : Int32) 8) ((if x2_25 < (gI σ_25 2 (2 : Int32).toNatClampNeg) then ck (inb x2_25 6) (bn (pI σ_25 43 x2_25.toNatClampNeg (0 : Int32)) (fun σ41 => cl (f_X12_isOut x2_25 σ41) (fun r44 _ => jn (fun (x1_126 : Int32) (σ_126 : Mm) => rec25 x1_126 (x2_25 + (1 : Int32)) σ_126) (fun k126 => (if r44 = 0 then k126 x1_25 σ41 else cl (f_X12_lanesAhead x2_25 σ41) (fun r55 _ => ck (inb r55 8) (ck (inb r55 8) (bn (pI σ41 42 r55.toNatClampNeg ((gI σ41 42 r55.toNatClampNeg) + (1 : Int32))) (fun σ68 => bn ((3 : Int32) + r55) (fun i_81 => ck (inb i_81 41) (jn (fun (y2_110 : Int32) => ck (inb x2_25 6) (bn (pI σ68 43 x2_25.toNatClampNeg y2_110) (fun σ110 => ck (inb x2_25 6) (bn (x1_25 + (gI σ110 43 x2_25.toNatClampNeg)) (fun v1_119 => cl (f_X12_goesAlong x2_25 r55 σ110) (fun _ σ123 => k126 v1_119 σ123)))))) (fun k110 => jn (k110 (0 : Int32)) (fun k109 => (if (gI σ68 36 i_81.toNatClampNeg) = 0 then ck (inb x2_25 12) ((if (gI σ68 8 x2_25.toNatClampNeg) = (1 : Int32) then k109 else ck (inb x2_25 12) ((if (gI σ68 8 x2_25.toNatClampNeg) = (2 : Int32) then k109 else k110 (1 : Int32))))) else k109)))))))))))))) else k132 x1_25 σ_25))
def F_X12_passes_4 (k23 : Mm → Option (Int32 × Mm)) (rec4 : Int32 → Mm → Option (Int32 × Mm)) (x2_4 : Int32) (σ_4 : Mm) : Option (Int32 × Mm) := (if x2_4 < (8 : Int32) then ck (inb x2_4 8) (bn (pI σ_4 42 x2_4.toNatClampNeg (0 : Int32)) (fun σ16 => rec4 (x2_4 + (1 : Int32)) σ16)) else k23 σ_4)
def f_X12_passes (σ : Mm) : Option (Int32 × Mm) := jn (fun (σ_23 : Mm) => jn (J_X12_passes_132) (fun k132 => lq3 (F_X12_passes_25 k132) 1000000 (0 : Int32) (0 : Int32) σ_23)) (fun k23 => lq2 (F_X12_passes_4 k23) 1000000 (0 : Int32) σ)
set_option maxHeartbeats 4000000 in
set_option maxRecDepth 100000 in
theorem x_X12_passes (σ : Mm) : Con (wsOf SHM) yX12_passes cX12_passes 4 (some .int) 5 [.ref 0] σ (f_X12_passes σ) := by
  refine Con.of_X (by decide +kernel) (Nat.le_of_ble_eq_true rfl) ?_
  unfold f_X12_passes
  show X (wsOf SHM) RX12 cX12_passes 4 (some .int) 5 0 0 [(0, .ref 0)] [] σ _
  refine X_iconst (v := (0 : Int32)) (pc := 0) (td kX12_passes 0 rfl) (by decide) ?_
  refine X_istore_n (L' := [(1, .int (0 : Int32)), (0, .ref 0)]) (pc := 1) (td kX12_passes 1 rfl) rfl (by decide) rfl ?_
  refine X_iconst (v := (0 : Int32)) (pc := 2) (td kX12_passes 2 rfl) (by decide) ?_
  refine X_istore_n (L' := [(2, .int (0 : Int32)), (1, .int (0 : Int32)), (0, .ref 0)]) (pc := 3) (td kX12_passes 3 rfl) rfl (by decide) rfl ?_
  refine X_jn (P := fun k => ∀ (σ_23 : Mm), X (wsOf SHM) RX12 cX12_passes 4 (some .int) 5 0 23 [(0, .ref 0), (1, .int (0 : Int32))] [] σ_23 (k σ_23)) (fun σ_23 => ?_) (fun k23 h23 => ?_)
  · refine X_iconst (v := (0 : Int32)) (pc := 23) (td kX12_passes 14 rfl) (by decide) ?_
    refine X_istore_n (L' := [(2, .int (0 : Int32)), (0, .ref 0), (1, .int (0 : Int32))]) (pc := 24) (td kX12_passes 15 rfl) rfl (by decide) rfl ?_
    refine X_jn (P := fun k => ∀ (x1_132 : Int32) (σ_132 : Mm), X (wsOf SHM) RX12 cX12_passes 4 (some .int) 5 0 132 [(0, .ref 0), (1, .int x1_132)] [] σ_132 (k x1_132 σ_132)) (fun x1_132 σ_132 => ?_) (fun k132 h132 => ?_)
    · unfold J_X12_passes_132
      refine X_iconst (v := (0 : Int32)) (pc := 132) (td kX12_passes 83 rfl) (by decide) ?_
      refine X_istore_n (L' := [(2, .int (0 : Int32)), (0, .ref 0), (1, .int x1_132)]) (pc := 133) (td kX12_passes 84 rfl) rfl (by decide) rfl ?_
      refine X_jn (P := fun k => ∀ (σ_208 : Mm), X (wsOf SHM) RX12 cX12_passes 4 (some .int) 5 0 208 [(0, .ref 0), (1, .int x1_132)] [] σ_208 (k σ_208)) (fun σ_208 => ?_) (fun k208 h208 => ?_)
      · refine X_aload_n (pc := 208) (td kX12_passes 133 rfl) rfl 0 rfl ?_
        refine X_getF (b := 36) (pc := 209) sM_0 rfl fk_X12_117 (td kX12_passes 134 rfl) ?_
        refine X_iconst (v := (0 : Int32)) (pc := 212) (td kX12_passes 135 rfl) (by decide) ?_
        refine X_dup2 (pc := 213) (td kX12_passes 136 rfl) rfl rfl ?_
        refine X_iald (pc := 214) sM_36 (td kX12_passes 137 rfl) ?_
        refine X_iconst (v := (1 : Int32)) (pc := 215) (td kX12_passes 138 rfl) (by decide) ?_
        refine X_iadd (pc := 216) (td kX12_passes 139 rfl) ?_
        refine X_iast (pc := 217) sM_36 (td kX12_passes 140 rfl) (fun σ217 => ?_)
        refine X_aload_n (pc := 218) (td kX12_passes 141 rfl) rfl 0 rfl ?_
        refine X_getF (b := 36) (pc := 219) sM_0 rfl fk_X12_117 (td kX12_passes 142 rfl) ?_
        refine X_iconst (v := (2 : Int32)) (pc := 222) (td kX12_passes 143 rfl) (by decide) ?_
        refine X_dup2 (pc := 223) (td kX12_passes 144 rfl) rfl rfl ?_
        refine X_iald (pc := 224) sM_36 (td kX12_passes 145 rfl) ?_
        refine X_iload_n (pc := 225) (td kX12_passes 146 rfl) rfl 1 rfl ?_
        refine X_iadd (pc := 226) (td kX12_passes 147 rfl) ?_
        refine X_iast (pc := 227) sM_36 (td kX12_passes 148 rfl) (fun σ227 => ?_)
        refine X_iload_n (pc := 228) (td kX12_passes 149 rfl) rfl 1 rfl ?_
        exact X_ret (pc := 229) (td kX12_passes 150 rfl) rfl
      · refine X_sub [1, 2, 0] rfl ?_
        refine lq2_ind (P := fun x2_134 σ_134 E => X (wsOf SHM) RX12 cX12_passes 4 (some .int) 5 0 134 [(0, .ref 0), (1, .int x1_132), (2, .int x2_134)] [] σ_134 E) (fun _ _ => X_none) (fun rec134 hrec134 x2_134 σ_134 => ?_) _ _ _
        unfold F_X12_passes_134
        refine X_iload_n (pc := 134) (td kX12_passes 85 rfl) rfl 2 rfl ?_
        refine X_aload_n (pc := 135) (td kX12_passes 86 rfl) rfl 0 rfl ?_
        refine X_getF (b := 2) (pc := 136) sM_0 rfl fk_X12_13 (td kX12_passes 87 rfl) ?_
        refine X_iconst (v := (1 : Int32)) (pc := 139) (td kX12_passes 88 rfl) (by decide) ?_
        refine X_iald (pc := 140) sM_2 (td kX12_passes 89 rfl) ?_
        refine X_icmp_ge (pc := 141) (tgt := 208) (td kX12_passes 90 rfl) (by decide) (fun c_141 => ?_) (fun c_141 => ?_)
        · refine X_sub [0, 1] rfl ?_
          exact h208 σ_134
        · refine X_aload_n (pc := 144) (td kX12_passes 91 rfl) rfl 0 rfl ?_
          refine X_getF (b := 36) (pc := 145) sM_0 rfl fk_X12_117 (td kX12_passes 92 rfl) ?_
          refine X_iconst (v := (3 : Int32)) (pc := 148) (td kX12_passes 93 rfl) (by decide) ?_
          refine X_iload_n (pc := 149) (td kX12_passes 94 rfl) rfl 2 rfl ?_
          refine X_iadd (pc := 150) (td kX12_passes 95 rfl) ?_
          refine X_iconst (v := (0 : Int32)) (pc := 151) (td kX12_passes 96 rfl) (by decide) ?_
          refine X_aload_n (pc := 152) (td kX12_passes 97 rfl) rfl 0 rfl ?_
          refine X_getF (b := 36) (pc := 153) sM_0 rfl fk_X12_117 (td kX12_passes 98 rfl) ?_
          refine X_iconst (v := (3 : Int32)) (pc := 156) (td kX12_passes 99 rfl) (by decide) ?_
          refine X_iload_n (pc := 157) (td kX12_passes 100 rfl) rfl 2 rfl ?_
          refine X_iadd (pc := 158) (td kX12_passes 101 rfl) ?_
          refine X_bi (fun i_159 => ?_)
          refine X_iald (pc := 159) sM_36 (td kX12_passes 102 rfl) ?_
          refine X_iconst (v := (1 : Int32)) (pc := 160) (td kX12_passes 103 rfl) (by decide) ?_
          refine X_isub (pc := 161) (td kX12_passes 104 rfl) ?_
          refine X_mmax2 (pc := 162) (td kX12_passes 105 rfl) lm_X12_405 (by omega) (Nat.le_of_ble_eq_true rfl) ?_
          refine X_iast (pc := 165) sM_36 (td kX12_passes 106 rfl) (fun σ165 => ?_)
          refine X_aload_n (pc := 166) (td kX12_passes 107 rfl) rfl 0 rfl ?_
          refine X_getF (b := 42) (pc := 167) sM_0 rfl fk_X12_139 (td kX12_passes 108 rfl) ?_
          refine X_iload_n (pc := 170) (td kX12_passes 109 rfl) rfl 2 rfl ?_
          refine X_iald (pc := 171) sM_42 (td kX12_passes 110 rfl) ?_
          refine X_jn (P := fun k => ∀ (σ_202 : Mm), X (wsOf SHM) RX12 cX12_passes 4 (some .int) 5 0 202 [(0, .ref 0), (1, .int x1_132), (2, .int x2_134)] [] σ_202 (k σ_202)) (fun σ_202 => ?_) (fun k202 h202 => ?_)
          · refine X_iinc (v := (x2_134 + (1 : Int32))) (L' := [(2, .int (x2_134 + (1 : Int32))), (0, .ref 0), (1, .int x1_132)]) (pc := 202) (td kX12_passes 131 rfl) 2 rfl rfl (by decide) rfl ?_
            refine X_goto (pc := 205) (tgt := 134) (td kX12_passes 132 rfl) (by decide) ?_
            refine X_sub [1, 2, 0] rfl ?_
            exact hrec134 (x2_134 + (1 : Int32)) σ_202
          · refine X_if_le (pc := 172) (tgt := 202) (td kX12_passes 111 rfl) (by decide) (fun c_172 => ?_) (fun c_172 => ?_)
            · exact h202 σ165
            · refine X_aload_n (pc := 175) (td kX12_passes 112 rfl) rfl 0 rfl ?_
              refine X_getF (b := 36) (pc := 176) sM_0 rfl fk_X12_117 (td kX12_passes 113 rfl) ?_
              refine X_iconst (v := (3 : Int32)) (pc := 179) (td kX12_passes 114 rfl) (by decide) ?_
              refine X_iload_n (pc := 180) (td kX12_passes 115 rfl) rfl 2 rfl ?_
              refine X_iadd (pc := 181) (td kX12_passes 116 rfl) ?_
              refine X_aload_n (pc := 182) (td kX12_passes 117 rfl) rfl 0 rfl ?_
              refine X_iload_n (pc := 183) (td kX12_passes 118 rfl) rfl 2 rfl ?_
              refine X_aload_n (pc := 184) (td kX12_passes 119 rfl) rfl 0 rfl ?_
              refine X_getF (b := 36) (pc := 185) sM_0 rfl fk_X12_117 (td kX12_passes 120 rfl) ?_
              refine X_iconst (v := (3 : Int32)) (pc := 188) (td kX12_passes 121 rfl) (by decide) ?_
              refine X_iload_n (pc := 189) (td kX12_passes 122 rfl) rfl 2 rfl ?_
              refine X_iadd (pc := 190) (td kX12_passes 123 rfl) ?_
              refine X_bi (fun i_191 => ?_)
              refine X_iald (pc := 191) sM_36 (td kX12_passes 124 rfl) ?_
              refine X_aload_n (pc := 192) (td kX12_passes 125 rfl) rfl 0 rfl ?_
              refine X_getF (b := 42) (pc := 193) sM_0 rfl fk_X12_139 (td kX12_passes 126 rfl) ?_
              refine X_iload_n (pc := 196) (td kX12_passes 127 rfl) rfl 2 rfl ?_
              refine X_iald (pc := 197) sM_42 (td kX12_passes 128 rfl) ?_
              refine X_calli (pc := 198) (As := [.int x2_134, .int (gI σ165 36 i_191.toNatClampNeg), .int (gI σ165 42 x2_134.toNatClampNeg)]) (st := [.int ((3 : Int32) + x2_134), .ref 36]) sM_0 (x_X12_burnsBy x2_134 (gI σ165 36 i_191.toNatClampNeg) (gI σ165 42 x2_134.toNatClampNeg) σ165) mkX12_burnsBy lk_X12_417 (by omega) rfl rfl (Nat.le_of_ble_eq_true rfl) (td kX12_passes 129 rfl) (fun r198 σ198 _ hr198 => ?_)
              refine X_iast (pc := 201) sM_36 (td kX12_passes 130 rfl) (fun σ201 => ?_)
              exact h202 σ201
    · refine X_sub [1, 2, 0] rfl ?_
      refine lq3_ind (P := fun x1_25 x2_25 σ_25 E => X (wsOf SHM) RX12 cX12_passes 4 (some .int) 5 0 25 [(0, .ref 0), (1, .int x1_25), (2, .int x2_25)] [] σ_25 E) (fun _ _ _ => X_none) (fun rec25 hrec25 x1_25 x2_25 σ_25 => ?_) _ _ _ _
      unfold F_X12_passes_25
      refine X_iload_n (pc := 25) (td kX12_passes 16 rfl) rfl 2 rfl ?_
      refine X_aload_n (pc := 26) (td kX12_passes 17 rfl) rfl 0 rfl ?_
      refine X_getF (b := 2) (pc := 27) sM_0 rfl fk_X12_13 (td kX12_passes 18 rfl) ?_
      refine X_iconst (v := (2 : Int32)) (pc := 30) (td kX12_passes 19 rfl) (by decide) ?_
      refine X_iald (pc := 31) sM_2 (td kX12_passes 20 rfl) ?_
      refine X_icmp_ge (pc := 32) (tgt := 132) (td kX12_passes 21 rfl) (by decide) (fun c_32 => ?_) (fun c_32 => ?_)
      · refine X_sub [0, 1] rfl ?_
        exact h132 x1_25 σ_25
      · refine X_aload_n (pc := 35) (td kX12_passes 22 rfl) rfl 0 rfl ?_
        refine X_getF (b := 43) (pc := 36) sM_0 rfl fk_X12_142 (td kX12_passes 23 rfl) ?_
        refine X_iload_n (pc := 39) (td kX12_passes 24 rfl) rfl 2 rfl ?_
        refine X_iconst (v := (0 : Int32)) (pc := 40) (td kX12_passes 25 rfl) (by decide) ?_
        refine X_iast (pc := 41) sM_43 (td kX12_passes 26 rfl) (fun σ41 => ?_)
        refine X_aload_n (pc := 42) (td kX12_passes 27 rfl) rfl 0 rfl ?_
        refine X_iload_n (pc := 43) (td kX12_passes 28 rfl) rfl 2 rfl ?_
        refine X_callip (pc := 44) (As := [.int x2_25]) (st := []) (p_X12_isOut x2_25 σ41) sM_0 (x_X12_isOut x2_25 σ41) mkX12_isOut lk_X12_408 (by omega) rfl rfl (Nat.le_of_ble_eq_true rfl) (td kX12_passes 29 rfl) (fun r44 hr44 => ?_)
        refine X_jn (P := fun k => ∀ (x1_126 : Int32) (σ_126 : Mm), X (wsOf SHM) RX12 cX12_passes 4 (some .int) 5 0 126 [(0, .ref 0), (1, .int x1_126), (2, .int x2_25)] [] σ_126 (k x1_126 σ_126)) (fun x1_126 σ_126 => ?_) (fun k126 h126 => ?_)
        · refine X_iinc (v := (x2_25 + (1 : Int32))) (L' := [(2, .int (x2_25 + (1 : Int32))), (0, .ref 0), (1, .int x1_126)]) (pc := 126) (td kX12_passes 81 rfl) 2 rfl rfl (by decide) rfl ?_
          refine X_goto (pc := 129) (tgt := 25) (td kX12_passes 82 rfl) (by decide) ?_
          refine X_sub [1, 2, 0] rfl ?_
          exact hrec25 x1_126 (x2_25 + (1 : Int32)) σ_126
        · refine X_if_ne (pc := 47) (tgt := 53) (td kX12_passes 30 rfl) (by decide) (fun c_47 => ?_) (fun c_47 => ?_)
          · refine X_aload_n (pc := 53) (td kX12_passes 32 rfl) rfl 0 rfl ?_
            refine X_iload_n (pc := 54) (td kX12_passes 33 rfl) rfl 2 rfl ?_
            refine X_callip (pc := 55) (As := [.int x2_25]) (st := []) (p_X12_lanesAhead x2_25 σ41) sM_0 (x_X12_lanesAhead x2_25 σ41) mkX12_lanesAhead lk_X12_411 (by omega) rfl rfl (Nat.le_of_ble_eq_true rfl) (td kX12_passes 34 rfl) (fun r55 hr55 => ?_)
            refine X_istore_n (L' := [(3, .int r55), (0, .ref 0), (1, .int x1_25), (2, .int x2_25)]) (pc := 58) (td kX12_passes 35 rfl) rfl (by decide) rfl ?_
            refine X_aload_n (pc := 59) (td kX12_passes 36 rfl) rfl 1 rfl ?_
            refine X_getF (b := 42) (pc := 60) sM_0 rfl fk_X12_139 (td kX12_passes 37 rfl) ?_
            refine X_iload_n (pc := 63) (td kX12_passes 38 rfl) rfl 0 rfl ?_
            refine X_dup2 (pc := 64) (td kX12_passes 39 rfl) rfl rfl ?_
            refine X_iald (pc := 65) sM_42 (td kX12_passes 40 rfl) ?_
            refine X_iconst (v := (1 : Int32)) (pc := 66) (td kX12_passes 41 rfl) (by decide) ?_
            refine X_iadd (pc := 67) (td kX12_passes 42 rfl) ?_
            refine X_iast (pc := 68) sM_42 (td kX12_passes 43 rfl) (fun σ68 => ?_)
            refine X_aload_n (pc := 69) (td kX12_passes 44 rfl) rfl 1 rfl ?_
            refine X_getF (b := 43) (pc := 70) sM_0 rfl fk_X12_142 (td kX12_passes 45 rfl) ?_
            refine X_iload_n (pc := 73) (td kX12_passes 46 rfl) rfl 3 rfl ?_
            refine X_aload_n (pc := 74) (td kX12_passes 47 rfl) rfl 1 rfl ?_
            refine X_getF (b := 36) (pc := 75) sM_0 rfl fk_X12_117 (td kX12_passes 48 rfl) ?_
            refine X_iconst (v := (3 : Int32)) (pc := 78) (td kX12_passes 49 rfl) (by decide) ?_
            refine X_iload_n (pc := 79) (td kX12_passes 50 rfl) rfl 0 rfl ?_
            refine X_iadd (pc := 80) (td kX12_passes 51 rfl) ?_
            refine X_bi (fun i_81 => ?_)
            refine X_iald (pc := 81) sM_36 (td kX12_passes 52 rfl) ?_
            refine X_jn (P := fun k => ∀ (y2_110 : Int32), X (wsOf SHM) RX12 cX12_passes 4 (some .int) 5 0 110 [(0, .ref 0), (1, .int x1_25), (2, .int x2_25), (3, .int r55)] [.int y2_110, .int x2_25, .ref 43] σ68 (k y2_110)) (fun y2_110 => ?_) (fun k110 h110 => ?_)
            · refine X_iast (pc := 110) sM_43 (td kX12_passes 69 rfl) (fun σ110 => ?_)
              refine X_iload_n (pc := 111) (td kX12_passes 70 rfl) rfl 1 rfl ?_
              refine X_aload_n (pc := 112) (td kX12_passes 71 rfl) rfl 0 rfl ?_
              refine X_getF (b := 43) (pc := 113) sM_0 rfl fk_X12_142 (td kX12_passes 72 rfl) ?_
              refine X_iload_n (pc := 116) (td kX12_passes 73 rfl) rfl 2 rfl ?_
              refine X_iald (pc := 117) sM_43 (td kX12_passes 74 rfl) ?_
              refine X_iadd (pc := 118) (td kX12_passes 75 rfl) ?_
              refine X_bi (fun v1_119 => ?_)
              refine X_istore_n (L' := [(1, .int v1_119), (0, .ref 0), (2, .int x2_25), (3, .int r55)]) (pc := 119) (td kX12_passes 76 rfl) rfl (by decide) rfl ?_
              refine X_aload_n (pc := 120) (td kX12_passes 77 rfl) rfl 1 rfl ?_
              refine X_iload_n (pc := 121) (td kX12_passes 78 rfl) rfl 2 rfl ?_
              refine X_iload_n (pc := 122) (td kX12_passes 79 rfl) rfl 3 rfl ?_
              refine X_callv (pc := 123) (As := [.int x2_25, .int r55]) (st := []) sM_0 (x_X12_goesAlong x2_25 r55 σ110) mkX12_goesAlong lk_X12_414 (by omega) rfl rfl (Nat.le_of_ble_eq_true rfl) (td kX12_passes 80 rfl) (fun _ σ123 _ => ?_)
              refine X_sub [1, 0, 2] rfl ?_
              exact h126 v1_119 σ123
            · refine X_jn (P := fun k => X (wsOf SHM) RX12 cX12_passes 4 (some .int) 5 0 109 [(0, .ref 0), (1, .int x1_25), (2, .int x2_25), (3, .int r55)] [.int x2_25, .ref 43] σ68 k) ?_ (fun k109 h109 => ?_)
              · refine X_iconst (v := (0 : Int32)) (pc := 109) (td kX12_passes 68 rfl) (by decide) ?_
                exact h110 (0 : Int32)
              · refine X_if_ne (pc := 82) (tgt := 109) (td kX12_passes 53 rfl) (by decide) (fun c_82 => ?_) (fun c_82 => ?_)
                · refine X_sub [1, 2, 3, 0] rfl ?_
                  exact h109
                · refine X_aload_n (pc := 85) (td kX12_passes 54 rfl) rfl 1 rfl ?_
                  refine X_getF (b := 8) (pc := 86) sM_0 rfl fk_X12_32 (td kX12_passes 55 rfl) ?_
                  refine X_iload_n (pc := 89) (td kX12_passes 56 rfl) rfl 3 rfl ?_
                  refine X_iald (pc := 90) sM_8 (td kX12_passes 57 rfl) ?_
                  refine X_iconst (v := (1 : Int32)) (pc := 91) (td kX12_passes 58 rfl) (by decide) ?_
                  refine X_icmp_eq (pc := 92) (tgt := 109) (td kX12_passes 59 rfl) (by decide) (fun c_92 => ?_) (fun c_92 => ?_)
                  · refine X_sub [1, 2, 3, 0] rfl ?_
                    exact h109
                  · refine X_aload_n (pc := 95) (td kX12_passes 60 rfl) rfl 1 rfl ?_
                    refine X_getF (b := 8) (pc := 96) sM_0 rfl fk_X12_32 (td kX12_passes 61 rfl) ?_
                    refine X_iload_n (pc := 99) (td kX12_passes 62 rfl) rfl 3 rfl ?_
                    refine X_iald (pc := 100) sM_8 (td kX12_passes 63 rfl) ?_
                    refine X_iconst (v := (2 : Int32)) (pc := 101) (td kX12_passes 64 rfl) (by decide) ?_
                    refine X_icmp_eq (pc := 102) (tgt := 109) (td kX12_passes 65 rfl) (by decide) (fun c_102 => ?_) (fun c_102 => ?_)
                    · refine X_sub [1, 2, 3, 0] rfl ?_
                      exact h109
                    · refine X_iconst (v := (1 : Int32)) (pc := 105) (td kX12_passes 66 rfl) (by decide) ?_
                      refine X_goto (pc := 106) (tgt := 110) (td kX12_passes 67 rfl) (by decide) ?_
                      refine X_sub [1, 2, 3, 0] rfl ?_
                      exact h110 (1 : Int32)
          · refine X_goto (pc := 50) (tgt := 126) (td kX12_passes 31 rfl) (by decide) ?_
            exact h126 x1_25 σ41
  · refine X_sub [2, 1, 0] rfl ?_
    refine lq2_ind (P := fun x2_4 σ_4 E => X (wsOf SHM) RX12 cX12_passes 4 (some .int) 5 0 4 [(0, .ref 0), (1, .int (0 : Int32)), (2, .int x2_4)] [] σ_4 E) (fun _ _ => X_none) (fun rec4 hrec4 x2_4 σ_4 => ?_) _ _ _
    unfold F_X12_passes_4
    refine X_iload_n (pc := 4) (td kX12_passes 4 rfl) rfl 2 rfl ?_
    refine X_bipush (v := (8 : Int32)) (pc := 5) (td kX12_passes 5 rfl) (by decide) ?_
    refine X_icmp_ge (pc := 7) (tgt := 23) (td kX12_passes 6 rfl) (by decide) (fun c_7 => ?_) (fun c_7 => ?_)
    · refine X_sub [0, 1] rfl ?_
      exact h23 σ_4
    · refine X_aload_n (pc := 10) (td kX12_passes 7 rfl) rfl 0 rfl ?_
      refine X_getF (b := 42) (pc := 11) sM_0 rfl fk_X12_139 (td kX12_passes 8 rfl) ?_
      refine X_iload_n (pc := 14) (td kX12_passes 9 rfl) rfl 2 rfl ?_
      refine X_iconst (v := (0 : Int32)) (pc := 15) (td kX12_passes 10 rfl) (by decide) ?_
      refine X_iast (pc := 16) sM_42 (td kX12_passes 11 rfl) (fun σ16 => ?_)
      refine X_iinc (v := (x2_4 + (1 : Int32))) (L' := [(2, .int (x2_4 + (1 : Int32))), (0, .ref 0), (1, .int (0 : Int32))]) (pc := 17) (td kX12_passes 12 rfl) 2 rfl rfl (by decide) rfl ?_
      refine X_goto (pc := 20) (tgt := 4) (td kX12_passes 13 rfl) (by decide) ?_
      refine X_sub [1, 2, 0] rfl ?_
      exact hrec4 (x2_4 + (1 : Int32)) σ16
