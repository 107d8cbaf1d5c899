def f_X12_getsBy (p1 : Int32) (p2 : Int32) (p3 : Int32) (p4 : Int32) (p5 : Int32) (σ : Mm) : Option (Int32 × Mm) := (if p4 = (1 : Int32) then (if p5 = (1 : Int32) then some (p1, σ) else some ((-p2), σ)) else (if p5 = (1 : Int32) then some (p3, σ) else some ((0 : Int32), σ)))
set_option maxHeartbeats 4000000 in
set_option maxRecDepth 100000 in
theorem x_X12_getsBy (p1 : Int32) (p2 : Int32) (p3 : Int32) (p4 : Int32) (p5 : Int32) (σ : Mm) : Con (wsOf SHM) yX12_getsBy cX12_getsBy 5 (some .int) 1 [.int p1, .int p2, .int p3, .int p4, .int p5] σ (f_X12_getsBy p1 p2 p3 p4 p5 σ) := by
  refine Con.of_X (by decide +kernel) (Nat.le_of_ble_eq_true rfl) ?_
  unfold f_X12_getsBy
  show X (wsOf SHM) RX12 cX12_getsBy 5 (some .int) 1 0 0 [(0, .int p1), (1, .int p2), (2, .int p3), (3, .int p4), (4, .int p5)] [] σ _
  refine X_iload_n (pc := 0) (td kX12_getsBy 0 rfl) rfl 3 rfl ?_
  refine X_iconst (v := (1 : Int32)) (pc := 1) (td kX12_getsBy 1 rfl) (by decide) ?_
  refine X_icmp_ne (pc := 2) (tgt := 20) (td kX12_getsBy 2 rfl) (by decide) (fun c_2 => ?_) (fun c_2 => ?_)
  · refine X_iload (pc := 20) (td kX12_getsBy 11 rfl) 4 rfl ?_
    refine X_iconst (v := (1 : Int32)) (pc := 22) (td kX12_getsBy 12 rfl) (by decide) ?_
    refine X_icmp_ne (pc := 23) (tgt := 30) (td kX12_getsBy 13 rfl) (by decide) (fun c_23 => ?_) (fun c_23 => ?_)
    · refine X_iconst (v := (0 : Int32)) (pc := 30) (td kX12_getsBy 16 rfl) (by decide) ?_
      exact X_ret (pc := 31) (td kX12_getsBy 17 rfl) rfl
    · refine X_iload_n (pc := 26) (td kX12_getsBy 14 rfl) rfl 2 rfl ?_
      refine X_goto (pc := 27) (tgt := 31) (td kX12_getsBy 15 rfl) (by decide) ?_
      exact X_ret (pc := 31) (td kX12_getsBy 17 rfl) rfl
  · refine X_iload (pc := 5) (td kX12_getsBy 3 rfl) 4 rfl ?_
    refine X_iconst (v := (1 : Int32)) (pc := 7) (td kX12_getsBy 4 rfl) (by decide) ?_
    refine X_icmp_ne (pc := 8) (tgt := 15) (td kX12_getsBy 5 rfl) (by decide) (fun c_8 => ?_) (fun c_8 => ?_)
    · refine X_iload_n (pc := 15) (td kX12_getsBy 8 rfl) rfl 1 rfl ?_
      refine X_ineg (pc := 16) (td kX12_getsBy 9 rfl) ?_
      refine X_goto (pc := 17) (tgt := 31) (td kX12_getsBy 10 rfl) (by decide) ?_
      exact X_ret (pc := 31) (td kX12_getsBy 17 rfl) rfl
    · refine X_iload_n (pc := 11) (td kX12_getsBy 6 rfl) rfl 0 rfl ?_
      refine X_goto (pc := 12) (tgt := 31) (td kX12_getsBy 7 rfl) (by decide) ?_
      exact X_ret (pc := 31) (td kX12_getsBy 17 rfl) rfl
set_option maxHeartbeats 4000000 in
theorem p_X12_getsBy (p1 : Int32) (p2 : Int32) (p3 : Int32) (p4 : Int32) (p5 : Int32) (σ : Mm) : Pu σ (f_X12_getsBy p1 p2 p3 p4 p5 σ) := by
  unfold f_X12_getsBy
  refine Pu_if ?_ ?_
  · refine Pu_if ?_ ?_
    · exact Pu_some
    · exact Pu_some
  · refine Pu_if ?_ ?_
    · exact Pu_some
    · exact Pu_some
def F_X12_glow_13 (σ6 : Mm) (k50 : Int32 → Option (Int32 × Mm)) (rec13 : Int32 → Int32 → Option (Int32 × Mm)) (x1_13 : Int32) (x2_13 : Int32) : Option (Int32 × Mm) := (if (gI σ6 0 60) < x2_13 then k50 x1_13 else ck (inb x2_13 100) (cl (f_X12_bits (gI σ6 46 x2_13.toNatClampNeg) σ6) (fun r27 _ => ck (inb x1_13 100) (cl (f_X12_bits (gI σ6 46 x1_13.toNatClampNeg) σ6) (fun r36 _ => jn (fun (x1_44 : Int32) => rec13 x1_44 (x2_13 + (1 : Int32))) (fun k44 => (if r36 < r27 then k44 x2_13 else k44 x1_13)))))))
def f_X12_glow (σ : Mm) : Option (Int32 × Mm) := bn (pI σ 0 0 (0 : Int32)) (fun σ2 => cl (f_X12_tries σ2) (fun _ σ6 => jn (fun (x1_50 : Int32) => some (x1_50, σ6)) (fun k50 => lq2 (F_X12_glow_13 σ6 k50) 1000000 (0 : Int32) (1 : Int32))))
set_option maxHeartbeats 4000000 in
set_option maxRecDepth 100000 in
theorem x_X12_glow (σ : Mm) : Con (wsOf SHM) yX12_glow cX12_glow 3 (some .int) 8 [.ref 0] σ (f_X12_glow σ) := by
  refine Con.of_X (by decide +kernel) (Nat.le_of_ble_eq_true rfl) ?_
  unfold f_X12_glow
  show X (wsOf SHM) RX12 cX12_glow 3 (some .int) 8 0 0 [(0, .ref 0)] [] σ _
  refine X_aload_n (pc := 0) (td kX12_glow 0 rfl) rfl 0 rfl ?_
  refine X_iconst (v := (0 : Int32)) (pc := 1) (td kX12_glow 1 rfl) (by decide) ?_
  refine X_putI (pc := 2) sM_0 rfl fk_X12_169 rfl rfl (td kX12_glow 2 rfl) (fun σ2 => ?_)
  refine X_aload_n (pc := 5) (td kX12_glow 3 rfl) rfl 0 rfl ?_
  refine X_callv (pc := 6) (As := []) (st := []) sM_0 (x_X12_tries σ2) mkX12_tries lk_X12_478 (by omega) rfl rfl (Nat.le_of_ble_eq_true rfl) (td kX12_glow 4 rfl) (fun _ σ6 _ => ?_)
  refine X_iconst (v := (0 : Int32)) (pc := 9) (td kX12_glow 5 rfl) (by decide) ?_
  refine X_istore_n (L' := [(1, .int (0 : Int32)), (0, .ref 0)]) (pc := 10) (td kX12_glow 6 rfl) rfl (by decide) rfl ?_
  refine X_iconst (v := (1 : Int32)) (pc := 11) (td kX12_glow 7 rfl) (by decide) ?_
  refine X_istore_n (L' := [(2, .int (1 : Int32)), (1, .int (0 : Int32)), (0, .ref 0)]) (pc := 12) (td kX12_glow 8 rfl) rfl (by decide) rfl ?_
  refine X_jn (P := fun k => ∀ (x1_50 : Int32), X (wsOf SHM) RX12 cX12_glow 3 (some .int) 8 0 50 [(1, .int x1_50)] [] σ6 (k x1_50)) (fun x1_50 => ?_) (fun k50 h50 => ?_)
  · refine X_iload_n (pc := 50) (td kX12_glow 28 rfl) rfl 0 rfl ?_
    exact X_ret (pc := 51) (td kX12_glow 29 rfl) rfl
  · refine X_sub [2, 1, 0] rfl ?_
    refine lq2_ind (P := fun x1_13 x2_13 E => X (wsOf SHM) RX12 cX12_glow 3 (some .int) 8 0 13 [(0, .ref 0), (1, .int x1_13), (2, .int x2_13)] [] σ6 E) (fun _ _ => X_none) (fun rec13 hrec13 x1_13 x2_13 => ?_) _ _ _
    unfold F_X12_glow_13
    refine X_iload_n (pc := 13) (td kX12_glow 9 rfl) rfl 2 rfl ?_
    refine X_aload_n (pc := 14) (td kX12_glow 10 rfl) rfl 0 rfl ?_
    refine X_getI (pc := 15) sM_0 rfl fk_X12_454 (td kX12_glow 11 rfl) ?_
    refine X_icmp_gt (pc := 18) (tgt := 50) (td kX12_glow 12 rfl) (by decide) (fun c_18 => ?_) (fun c_18 => ?_)
    · refine X_sub [1] rfl ?_
      exact h50 x1_13
    · refine X_aload_n (pc := 21) (td kX12_glow 13 rfl) rfl 0 rfl ?_
      refine X_getF (b := 46) (pc := 22) sM_0 rfl fk_X12_151 (td kX12_glow 14 rfl) ?_
      refine X_iload_n (pc := 25) (td kX12_glow 15 rfl) rfl 2 rfl ?_
      refine X_iald (pc := 26) sM_46 (td kX12_glow 16 rfl) ?_
      refine X_callsip (pc := 27) (As := [.int (gI σ6 46 x2_13.toNatClampNeg)]) (st := []) (p_X12_bits (gI σ6 46 x2_13.toNatClampNeg) σ6) (x_X12_bits (gI σ6 46 x2_13.toNatClampNeg) σ6) mkX12_bits lk_X12_472 (by omega) rfl rfl (Nat.le_of_ble_eq_true rfl) (td kX12_glow 17 rfl) (fun r27 hr27 => ?_)
      refine X_aload_n (pc := 30) (td kX12_glow 18 rfl) rfl 0 rfl ?_
      refine X_getF (b := 46) (pc := 31) sM_0 rfl fk_X12_151 (td kX12_glow 19 rfl) ?_
      refine X_iload_n (pc := 34) (td kX12_glow 20 rfl) rfl 1 rfl ?_
      refine X_iald (pc := 35) sM_46 (td kX12_glow 21 rfl) ?_
      refine X_callsip (pc := 36) (As := [.int (gI σ6 46 x1_13.toNatClampNeg)]) (st := [.int r27]) (p_X12_bits (gI σ6 46 x1_13.toNatClampNeg) σ6) (x_X12_bits (gI σ6 46 x1_13.toNatClampNeg) σ6) mkX12_bits lk_X12_472 (by omega) rfl rfl (Nat.le_of_ble_eq_true rfl) (td kX12_glow 22 rfl) (fun r36 hr36 => ?_)
      refine X_jn (P := fun k => ∀ (x1_44 : Int32), X (wsOf SHM) RX12 cX12_glow 3 (some .int) 8 0 44 [(0, .ref 0), (1, .int x1_44), (2, .int x2_13)] [] σ6 (k x1_44)) (fun x1_44 => ?_) (fun k44 h44 => ?_)
      · refine X_iinc (v := (x2_13 + (1 : Int32))) (L' := [(2, .int (x2_13 + (1 : Int32))), (0, .ref 0), (1, .int x1_44)]) (pc := 44) (td kX12_glow 26 rfl) 2 rfl rfl (by decide) rfl ?_
        refine X_goto (pc := 47) (tgt := 13) (td kX12_glow 27 rfl) (by decide) ?_
        refine X_sub [1, 2, 0] rfl ?_
        exact hrec13 x1_44 (x2_13 + (1 : Int32))
      · refine X_icmp_le (pc := 39) (tgt := 44) (td kX12_glow 23 rfl) (by decide) (fun c_39 => ?_) (fun c_39 => ?_)
        · exact h44 x1_13
        · refine X_iload_n (pc := 42) (td kX12_glow 24 rfl) rfl 2 rfl ?_
          refine X_istore_n (L' := [(1, .int x2_13), (0, .ref 0), (2, .int x2_13)]) (pc := 43) (td kX12_glow 25 rfl) rfl (by decide) rfl ?_
          refine X_sub [1, 0, 2] rfl ?_
          exact h44 x2_13
def f_X12_goes (p1 : Int32) (σ : Mm) : Option (Int32 × Mm) := ck (inb p1 240) (bn (gI σ 29 p1.toNatClampNeg) (fun v2_6 => ck (inb p1 240) (bn (gI σ 30 p1.toNatClampNeg) (fun v3_13 => jn (fun (σ_115 : Mm) => some ((1 : Int32), σ_115)) (fun k115 => (if v2_6 = 0 then cl (f_X12_passes σ) (fun r19 σ19 => k115 σ19) else (if v2_6 = (1 : Int32) then ck (inb p1 240) (cl (f_X12_laneOf (0 : Int32) v3_13 (gI σ 31 p1.toNatClampNeg) σ) (fun r40 _ => (if r40 < 0 then some ((0 : Int32), σ) else ck (inb p1 240) (cl (f_X12_laneOf (0 : Int32) v3_13 (gI σ 31 p1.toNatClampNeg) σ) (fun r58 _ => cl (f_X12_sends r58 σ) (fun _ σ61 => k115 σ61)))))) else (if v2_6 = (2 : Int32) then cl (f_X12_isHome v3_13 σ) (fun r74 _ => (if r74 = 0 then cl (f_X12_waitsMore v3_13 σ) (fun _ σ84 => k115 σ84) else some ((0 : Int32), σ))) else cl (f_X12_canTurn v3_13 σ) (fun r92 _ => (if r92 = 0 then some ((0 : Int32), σ) else ck (inb v3_13 12) (ck (inb ((17 : Int32) + v3_13) 41) (bn (pI σ 36 ((17 : Int32) + v3_13).toNatClampNeg (gI σ 9 v3_13.toNatClampNeg)) (fun σ114 => k115 σ114)))))))))))))
set_option maxHeartbeats 4000000 in
set_option maxRecDepth 100000 in
theorem x_X12_goes (p1 : Int32) (σ : Mm) : Con (wsOf SHM) yX12_goes cX12_goes 4 (some .boolean) 6 [.ref 0, .int p1] σ (f_X12_goes p1 σ) := by
  refine Con.of_X (by decide +kernel) (Nat.le_of_ble_eq_true rfl) ?_
  unfold f_X12_goes
  show X (wsOf SHM) RX12 cX12_goes 4 (some .boolean) 6 0 0 [(0, .ref 0), (1, .int p1)] [] σ _
  refine X_aload_n (pc := 0) (td kX12_goes 0 rfl) rfl 0 rfl ?_
  refine X_getF (b := 29) (pc := 1) sM_0 rfl fk_X12_96 (td kX12_goes 1 rfl) ?_
  refine X_iload_n (pc := 4) (td kX12_goes 2 rfl) rfl 1 rfl ?_
  refine X_iald (pc := 5) sM_29 (td kX12_goes 3 rfl) ?_
  refine X_bi (fun v2_6 => ?_)
  refine X_istore_n (L' := [(2, .int v2_6), (0, .ref 0), (1, .int p1)]) (pc := 6) (td kX12_goes 4 rfl) rfl (by decide) rfl ?_
  refine X_aload_n (pc := 7) (td kX12_goes 5 rfl) rfl 1 rfl ?_
  refine X_getF (b := 30) (pc := 8) sM_0 rfl fk_X12_99 (td kX12_goes 6 rfl) ?_
  refine X_iload_n (pc := 11) (td kX12_goes 7 rfl) rfl 2 rfl ?_
  refine X_iald (pc := 12) sM_30 (td kX12_goes 8 rfl) ?_
  refine X_bi (fun v3_13 => ?_)
  refine X_istore_n (L' := [(3, .int v3_13), (2, .int v2_6), (0, .ref 0), (1, .int p1)]) (pc := 13) (td kX12_goes 9 rfl) rfl (by decide) rfl ?_
  refine X_iload_n (pc := 14) (td kX12_goes 10 rfl) rfl 1 rfl ?_
  refine X_jn (P := fun k => ∀ (σ_115 : Mm), X (wsOf SHM) RX12 cX12_goes 4 (some .boolean) 6 0 115 [] [] σ_115 (k σ_115)) (fun σ_115 => ?_) (fun k115 h115 => ?_)
  · refine X_iconst (v := (1 : Int32)) (pc := 115) (td kX12_goes 70 rfl) (by decide) ?_
    exact X_ret (pc := 116) (td kX12_goes 71 rfl) rfl
  · refine X_if_ne (pc := 15) (tgt := 26) (td kX12_goes 11 rfl) (by decide) (fun c_15 => ?_) (fun c_15 => ?_)
    · refine X_iload_n (pc := 26) (td kX12_goes 16 rfl) rfl 1 rfl ?_
      refine X_iconst (v := (1 : Int32)) (pc := 27) (td kX12_goes 17 rfl) (by decide) ?_
      refine X_icmp_ne (pc := 28) (tgt := 67) (td kX12_goes 18 rfl) (by decide) (fun c_28 => ?_) (fun c_28 => ?_)
      · refine X_iload_n (pc := 67) (td kX12_goes 41 rfl) rfl 1 rfl ?_
        refine X_iconst (v := (2 : Int32)) (pc := 68) (td kX12_goes 42 rfl) (by decide) ?_
        refine X_icmp_ne (pc := 69) (tgt := 90) (td kX12_goes 43 rfl) (by decide) (fun c_69 => ?_) (fun c_69 => ?_)
        · refine X_aload_n (pc := 90) (td kX12_goes 54 rfl) rfl 2 rfl ?_
          refine X_iload_n (pc := 91) (td kX12_goes 55 rfl) rfl 0 rfl ?_
          refine X_callip (pc := 92) (As := [.int v3_13]) (st := []) (p_X12_canTurn v3_13 σ) sM_0 (x_X12_canTurn v3_13 σ) mkX12_canTurn lk_X12_445 (by omega) rfl rfl (Nat.le_of_ble_eq_true rfl) (td kX12_goes 56 rfl) (fun r92 hr92 => ?_)
          refine X_if_ne (pc := 95) (tgt := 100) (td kX12_goes 57 rfl) (by decide) (fun c_95 => ?_) (fun c_95 => ?_)
          · refine X_aload_n (pc := 100) (td kX12_goes 60 rfl) rfl 2 rfl ?_
            refine X_getF (b := 36) (pc := 101) sM_0 rfl fk_X12_117 (td kX12_goes 61 rfl) ?_
            refine X_bipush (v := (17 : Int32)) (pc := 104) (td kX12_goes 62 rfl) (by decide) ?_
            refine X_iload_n (pc := 106) (td kX12_goes 63 rfl) rfl 0 rfl ?_
            refine X_iadd (pc := 107) (td kX12_goes 64 rfl) ?_
            refine X_aload_n (pc := 108) (td kX12_goes 65 rfl) rfl 2 rfl ?_
            refine X_getF (b := 9) (pc := 109) sM_0 rfl fk_X12_35 (td kX12_goes 66 rfl) ?_
            refine X_iload_n (pc := 112) (td kX12_goes 67 rfl) rfl 0 rfl ?_
            refine X_iald (pc := 113) sM_9 (td kX12_goes 68 rfl) ?_
            refine X_iast (pc := 114) sM_36 (td kX12_goes 69 rfl) (fun σ114 => ?_)
            refine X_sub [] rfl ?_
            exact h115 σ114
          · refine X_iconst (v := (0 : Int32)) (pc := 98) (td kX12_goes 58 rfl) (by decide) ?_
            exact X_ret (pc := 99) (td kX12_goes 59 rfl) rfl
        · refine X_aload_n (pc := 72) (td kX12_goes 44 rfl) rfl 2 rfl ?_
          refine X_iload_n (pc := 73) (td kX12_goes 45 rfl) rfl 0 rfl ?_
          refine X_callip (pc := 74) (As := [.int v3_13]) (st := []) (p_X12_isHome v3_13 σ) sM_0 (x_X12_isHome v3_13 σ) mkX12_isHome lk_X12_387 (by omega) rfl rfl (Nat.le_of_ble_eq_true rfl) (td kX12_goes 46 rfl) (fun r74 hr74 => ?_)
          refine X_if_eq (pc := 77) (tgt := 82) (td kX12_goes 47 rfl) (by decide) (fun c_77 => ?_) (fun c_77 => ?_)
          · refine X_aload_n (pc := 82) (td kX12_goes 50 rfl) rfl 2 rfl ?_
            refine X_iload_n (pc := 83) (td kX12_goes 51 rfl) rfl 0 rfl ?_
            refine X_callv (pc := 84) (As := [.int v3_13]) (st := []) sM_0 (x_X12_waitsMore v3_13 σ) mkX12_waitsMore lk_X12_442 (by omega) rfl rfl (Nat.le_of_ble_eq_true rfl) (td kX12_goes 52 rfl) (fun _ σ84 _ => ?_)
            refine X_goto (pc := 87) (tgt := 115) (td kX12_goes 53 rfl) (by decide) ?_
            refine X_sub [] rfl ?_
            exact h115 σ84
          · refine X_iconst (v := (0 : Int32)) (pc := 80) (td kX12_goes 48 rfl) (by decide) ?_
            exact X_ret (pc := 81) (td kX12_goes 49 rfl) rfl
      · refine X_aload_n (pc := 31) (td kX12_goes 19 rfl) rfl 2 rfl ?_
        refine X_iconst (v := (0 : Int32)) (pc := 32) (td kX12_goes 20 rfl) (by decide) ?_
        refine X_iload_n (pc := 33) (td kX12_goes 21 rfl) rfl 0 rfl ?_
        refine X_aload_n (pc := 34) (td kX12_goes 22 rfl) rfl 2 rfl ?_
        refine X_getF (b := 31) (pc := 35) sM_0 rfl fk_X12_102 (td kX12_goes 23 rfl) ?_
        refine X_iload_n (pc := 38) (td kX12_goes 24 rfl) rfl 3 rfl ?_
        refine X_iald (pc := 39) sM_31 (td kX12_goes 25 rfl) ?_
        refine X_callip (pc := 40) (As := [.int (0 : Int32), .int v3_13, .int (gI σ 31 p1.toNatClampNeg)]) (st := []) (p_X12_laneOf (0 : Int32) v3_13 (gI σ 31 p1.toNatClampNeg) σ) sM_0 (x_X12_laneOf (0 : Int32) v3_13 (gI σ 31 p1.toNatClampNeg) σ) mkX12_laneOf lk_X12_321 (by omega) rfl rfl (Nat.le_of_ble_eq_true rfl) (td kX12_goes 26 rfl) (fun r40 hr40 => ?_)
        refine X_if_ge (pc := 43) (tgt := 48) (td kX12_goes 27 rfl) (by decide) (fun c_43 => ?_) (fun c_43 => ?_)
        · refine X_aload_n (pc := 48) (td kX12_goes 30 rfl) rfl 2 rfl ?_
          refine X_aload_n (pc := 49) (td kX12_goes 31 rfl) rfl 2 rfl ?_
          refine X_iconst (v := (0 : Int32)) (pc := 50) (td kX12_goes 32 rfl) (by decide) ?_
          refine X_iload_n (pc := 51) (td kX12_goes 33 rfl) rfl 0 rfl ?_
          refine X_aload_n (pc := 52) (td kX12_goes 34 rfl) rfl 2 rfl ?_
          refine X_getF (b := 31) (pc := 53) sM_0 rfl fk_X12_102 (td kX12_goes 35 rfl) ?_
          refine X_iload_n (pc := 56) (td kX12_goes 36 rfl) rfl 3 rfl ?_
          refine X_iald (pc := 57) sM_31 (td kX12_goes 37 rfl) ?_
          refine X_callip (pc := 58) (As := [.int (0 : Int32), .int v3_13, .int (gI σ 31 p1.toNatClampNeg)]) (st := [.ref 0]) (p_X12_laneOf (0 : Int32) v3_13 (gI σ 31 p1.toNatClampNeg) σ) sM_0 (x_X12_laneOf (0 : Int32) v3_13 (gI σ 31 p1.toNatClampNeg) σ) mkX12_laneOf lk_X12_321 (by omega) rfl rfl (Nat.le_of_ble_eq_true rfl) (td kX12_goes 38 rfl) (fun r58 hr58 => ?_)
          refine X_callv (pc := 61) (As := [.int r58]) (st := []) sM_0 (x_X12_sends r58 σ) mkX12_sends lk_X12_439 (by omega) rfl rfl (Nat.le_of_ble_eq_true rfl) (td kX12_goes 39 rfl) (fun _ σ61 _ => ?_)
          refine X_goto (pc := 64) (tgt := 115) (td kX12_goes 40 rfl) (by decide) ?_
          refine X_sub [] rfl ?_
          exact h115 σ61
        · refine X_iconst (v := (0 : Int32)) (pc := 46) (td kX12_goes 28 rfl) (by decide) ?_
          exact X_ret (pc := 47) (td kX12_goes 29 rfl) rfl
    · refine X_aload_n (pc := 18) (td kX12_goes 12 rfl) rfl 2 rfl ?_
      refine X_calli (pc := 19) (As := []) (st := []) sM_0 (x_X12_passes σ) mkX12_passes lk_X12_436 (by omega) rfl rfl (Nat.le_of_ble_eq_true rfl) (td kX12_goes 13 rfl) (fun r19 σ19 _ hr19 => ?_)
      refine X_pop (pc := 22) (td kX12_goes 14 rfl) rfl ?_
      refine X_goto (pc := 23) (tgt := 115) (td kX12_goes 15 rfl) (by decide) ?_
      refine X_sub [] rfl ?_
      exact h115 σ19
def f_X12_home (p1 : Int32) (σ : Mm) : Option (Int32 × Mm) := bn (pI σ 0 0 (0 : Int32)) (fun σ2 => cl (f_X12_isWalker p1 σ2) (fun r7 _ => (if r7 = 0 then some ((-1 : Int32), σ2) else cl (f_X12_tries σ2) (fun _ σ16 => ck (inb p1 6) (some ((gI σ16 45 p1.toNatClampNeg), σ16))))))
set_option maxHeartbeats 4000000 in
set_option maxRecDepth 100000 in
theorem x_X12_home (p1 : Int32) (σ : Mm) : Con (wsOf SHM) yX12_home cX12_home 2 (some .int) 8 [.ref 0, .int p1] σ (f_X12_home p1 σ) := by
  refine Con.of_X (by decide +kernel) (Nat.le_of_ble_eq_true rfl) ?_
  unfold f_X12_home
  show X (wsOf SHM) RX12 cX12_home 2 (some .int) 8 0 0 [(0, .ref 0), (1, .int p1)] [] σ _
  refine X_aload_n (pc := 0) (td kX12_home 0 rfl) rfl 0 rfl ?_
  refine X_iconst (v := (0 : Int32)) (pc := 1) (td kX12_home 1 rfl) (by decide) ?_
  refine X_putI (pc := 2) sM_0 rfl fk_X12_169 rfl rfl (td kX12_home 2 rfl) (fun σ2 => ?_)
  refine X_aload_n (pc := 5) (td kX12_home 3 rfl) rfl 0 rfl ?_
  refine X_iload_n (pc := 6) (td kX12_home 4 rfl) rfl 1 rfl ?_
  refine X_callip (pc := 7) (As := [.int p1]) (st := []) (p_X12_isWalker p1 σ2) sM_0 (x_X12_isWalker p1 σ2) mkX12_isWalker lk_X12_423 (by omega) rfl rfl (Nat.le_of_ble_eq_true rfl) (td kX12_home 5 rfl) (fun r7 hr7 => ?_)
  refine X_if_ne (pc := 10) (tgt := 15) (td kX12_home 6 rfl) (by decide) (fun c_10 => ?_) (fun c_10 => ?_)
  · refine X_aload_n (pc := 15) (td kX12_home 9 rfl) rfl 0 rfl ?_
    refine X_callv (pc := 16) (As := []) (st := []) sM_0 (x_X12_tries σ2) mkX12_tries lk_X12_478 (by omega) rfl rfl (Nat.le_of_ble_eq_true rfl) (td kX12_home 10 rfl) (fun _ σ16 _ => ?_)
    refine X_aload_n (pc := 19) (td kX12_home 11 rfl) rfl 0 rfl ?_
    refine X_getF (b := 45) (pc := 20) sM_0 rfl fk_X12_148 (td kX12_home 12 rfl) ?_
    refine X_iload_n (pc := 23) (td kX12_home 13 rfl) rfl 1 rfl ?_
    refine X_iald (pc := 24) sM_45 (td kX12_home 14 rfl) ?_
    exact X_ret (pc := 25) (td kX12_home 15 rfl) rfl
  · refine X_iconst (v := (-1 : Int32)) (pc := 13) (td kX12_home 7 rfl) (by decide) ?_
    exact X_ret (pc := 14) (td kX12_home 8 rfl) rfl
def F_X12_isAsWatched_2 (p1 : Int32) (σ : Mm) (k63 : Option (Int32 × Mm)) (rec2 : Int32 → Option (Int32 × Mm)) (x2_2 : Int32) : Option (Int32 × Mm) := ck (inb (0 : Int32) 5) ((if x2_2 < (gI σ 32 (0 : Int32).toNatClampNeg) then ck (inb x2_2 30) (bn (((31 : Int32) * p1) + (gI σ 34 x2_2.toNatClampNeg)) (fun i_27 => ck (inb i_27 1984) (ck (inb x2_2 30) (jn (fun (y0_46 : Int32) => ck (inb x2_2 30) ((if y0_46 = (gI σ 35 x2_2.toNatClampNeg) then rec2 (x2_2 + (1 : Int32)) else some ((0 : Int32), σ)))) (fun k46 => (if (((gI σ 49 i_27.toNatClampNeg) >>> ((gI σ 33 x2_2.toNatClampNeg) &&& 31)) &&& (1 : Int32)) = (1 : Int32) then k46 (1 : Int32) else k46 (0 : Int32))))))) else k63))
def f_X12_isAsWatched (p1 : Int32) (σ : Mm) : Option (Int32 × Mm) := jn (some ((1 : Int32), σ)) (fun k63 => lq1 (F_X12_isAsWatched_2 p1 σ k63) 1000000 (0 : Int32))
set_option maxHeartbeats 4000000 in
set_option maxRecDepth 100000 in
theorem x_X12_isAsWatched (p1 : Int32) (σ : Mm) : Con (wsOf SHM) yX12_isAsWatched cX12_isAsWatched 3 (some .boolean) 1 [.ref 0, .int p1] σ (f_X12_isAsWatched p1 σ) := by
  refine Con.of_X (by decide +kernel) (Nat.le_of_ble_eq_true rfl) ?_
  unfold f_X12_isAsWatched
  show X (wsOf SHM) RX12 cX12_isAsWatched 3 (some .boolean) 1 0 0 [(0, .ref 0), (1, .int p1)] [] σ _
  refine X_iconst (v := (0 : Int32)) (pc := 0) (td kX12_isAsWatched 0 rfl) (by decide) ?_
  refine X_istore_n (L' := [(2, .int (0 : Int32)), (0, .ref 0), (1, .int p1)]) (pc := 1) (td kX12_isAsWatched 1 rfl) rfl (by decide) rfl ?_
  refine X_jn (P := fun k => X (wsOf SHM) RX12 cX12_isAsWatched 3 (some .boolean) 1 0 63 [] [] σ k) ?_ (fun k63 h63 => ?_)
  · refine X_iconst (v := (1 : Int32)) (pc := 63) (td kX12_isAsWatched 40 rfl) (by decide) ?_
    exact X_ret (pc := 64) (td kX12_isAsWatched 41 rfl) rfl
  · refine X_sub [1, 2, 0] rfl ?_
    refine lq1_ind (P := fun x2_2 E => X (wsOf SHM) RX12 cX12_isAsWatched 3 (some .boolean) 1 0 2 [(0, .ref 0), (1, .int p1), (2, .int x2_2)] [] σ E) (fun _ => X_none) (fun rec2 hrec2 x2_2 => ?_) _ _
    unfold F_X12_isAsWatched_2
    refine X_iload_n (pc := 2) (td kX12_isAsWatched 2 rfl) rfl 2 rfl ?_
    refine X_aload_n (pc := 3) (td kX12_isAsWatched 3 rfl) rfl 0 rfl ?_
    refine X_getF (b := 32) (pc := 4) sM_0 rfl fk_X12_105 (td kX12_isAsWatched 4 rfl) ?_
    refine X_iconst (v := (0 : Int32)) (pc := 7) (td kX12_isAsWatched 5 rfl) (by decide) ?_
    refine X_iald (pc := 8) sM_32 (td kX12_isAsWatched 6 rfl) ?_
    refine X_icmp_ge (pc := 9) (tgt := 63) (td kX12_isAsWatched 7 rfl) (by decide) (fun c_9 => ?_) (fun c_9 => ?_)
    · refine X_sub [] rfl ?_
      exact h63
    · refine X_aload_n (pc := 12) (td kX12_isAsWatched 8 rfl) rfl 0 rfl ?_
      refine X_getF (b := 49) (pc := 13) sM_0 rfl fk_X12_160 (td kX12_isAsWatched 9 rfl) ?_
      refine X_bipush (v := (31 : Int32)) (pc := 16) (td kX12_isAsWatched 10 rfl) (by decide) ?_
      refine X_iload_n (pc := 18) (td kX12_isAsWatched 11 rfl) rfl 1 rfl ?_
      refine X_imul (pc := 19) (td kX12_isAsWatched 12 rfl) ?_
      refine X_aload_n (pc := 20) (td kX12_isAsWatched 13 rfl) rfl 0 rfl ?_
      refine X_getF (b := 34) (pc := 21) sM_0 rfl fk_X12_111 (td kX12_isAsWatched 14 rfl) ?_
      refine X_iload_n (pc := 24) (td kX12_isAsWatched 15 rfl) rfl 2 rfl ?_
      refine X_iald (pc := 25) sM_34 (td kX12_isAsWatched 16 rfl) ?_
      refine X_iadd (pc := 26) (td kX12_isAsWatched 17 rfl) ?_
      refine X_bi (fun i_27 => ?_)
      refine X_iald (pc := 27) sM_49 (td kX12_isAsWatched 18 rfl) ?_
      refine X_aload_n (pc := 28) (td kX12_isAsWatched 19 rfl) rfl 0 rfl ?_
      refine X_getF (b := 33) (pc := 29) sM_0 rfl fk_X12_108 (td kX12_isAsWatched 20 rfl) ?_
      refine X_iload_n (pc := 32) (td kX12_isAsWatched 21 rfl) rfl 2 rfl ?_
      refine X_iald (pc := 33) sM_33 (td kX12_isAsWatched 22 rfl) ?_
      refine X_ishr (pc := 34) (td kX12_isAsWatched 23 rfl) ?_
      refine X_iconst (v := (1 : Int32)) (pc := 35) (td kX12_isAsWatched 24 rfl) (by decide) ?_
      refine X_iand (pc := 36) (td kX12_isAsWatched 25 rfl) ?_
      refine X_iconst (v := (1 : Int32)) (pc := 37) (td kX12_isAsWatched 26 rfl) (by decide) ?_
      refine X_jn (P := fun k => ∀ (y0_46 : Int32), X (wsOf SHM) RX12 cX12_isAsWatched 3 (some .boolean) 1 0 46 [(0, .ref 0), (1, .int p1), (2, .int x2_2)] [.int y0_46] σ (k y0_46)) (fun y0_46 => ?_) (fun k46 h46 => ?_)
      · refine X_aload_n (pc := 46) (td kX12_isAsWatched 31 rfl) rfl 0 rfl ?_
        refine X_getF (b := 35) (pc := 47) sM_0 rfl fk_X12_114 (td kX12_isAsWatched 32 rfl) ?_
        refine X_iload_n (pc := 50) (td kX12_isAsWatched 33 rfl) rfl 2 rfl ?_
        refine X_zald (pc := 51) sM_35 (td kX12_isAsWatched 34 rfl) ?_
        refine X_icmp_eq (pc := 52) (tgt := 57) (td kX12_isAsWatched 35 rfl) (by decide) (fun c_52 => ?_) (fun c_52 => ?_)
        · refine X_iinc (v := (x2_2 + (1 : Int32))) (L' := [(2, .int (x2_2 + (1 : Int32))), (0, .ref 0), (1, .int p1)]) (pc := 57) (td kX12_isAsWatched 38 rfl) 2 rfl rfl (by decide) rfl ?_
          refine X_goto (pc := 60) (tgt := 2) (td kX12_isAsWatched 39 rfl) (by decide) ?_
          refine X_sub [1, 2, 0] rfl ?_
          exact hrec2 (x2_2 + (1 : Int32))
        · refine X_iconst (v := (0 : Int32)) (pc := 55) (td kX12_isAsWatched 36 rfl) (by decide) ?_
          exact X_ret (pc := 56) (td kX12_isAsWatched 37 rfl) rfl
      · refine X_icmp_ne (pc := 38) (tgt := 45) (td kX12_isAsWatched 27 rfl) (by decide) (fun c_38 => ?_) (fun c_38 => ?_)
        · refine X_iconst (v := (0 : Int32)) (pc := 45) (td kX12_isAsWatched 30 rfl) (by decide) ?_
          exact h46 (0 : Int32)
        · refine X_iconst (v := (1 : Int32)) (pc := 41) (td kX12_isAsWatched 28 rfl) (by decide) ?_
          refine X_goto (pc := 42) (tgt := 46) (td kX12_isAsWatched 29 rfl) (by decide) ?_
          exact h46 (1 : Int32)
set_option maxHeartbeats 4000000 in
theorem p_X12_isAsWatched (p1 : Int32) (σ : Mm) : Pu σ (f_X12_isAsWatched p1 σ) := by
  unfold f_X12_isAsWatched
  refine Pu_jn (fun k => Pu σ (k)) ?_ (fun k63 h63 => ?_)
  · exact Pu_some
  · refine lq1_ind (P := fun _ E => Pu σ E) (fun _ => Pu_none) (fun rec2 hrec2 x2_2 => ?_) _ _
    unfold F_X12_isAsWatched_2
    refine Pu_ck ?_
    refine Pu_if ?_ ?_
    · refine Pu_ck ?_
      refine Pu_bn (fun _ => ?_)
      refine Pu_ck ?_
      refine Pu_ck ?_
      refine Pu_jn (fun k => ∀ (y0_46 : Int32), Pu σ (k y0_46)) (fun y0_46 => ?_) (fun k46 h46 => ?_)
      · refine Pu_ck ?_
        refine Pu_if ?_ ?_
        · exact hrec2 _
        · exact Pu_some
      · refine Pu_if ?_ ?_
        · exact h46 _
        · exact h46 _
    · exact h63
def f_X12_isPlace (p1 : Int32) (σ : Mm) : Option (Int32 × Mm) := jn (some ((0 : Int32), σ)) (fun k18 => (if p1 < 0 then k18 else ck (inb (0 : Int32) 8) ((if p1 < (gI σ 2 (0 : Int32).toNatClampNeg) then some ((1 : Int32), σ) else k18))))
set_option maxHeartbeats 4000000 in
set_option maxRecDepth 100000 in
theorem x_X12_isPlace (p1 : Int32) (σ : Mm) : Con (wsOf SHM) yX12_isPlace cX12_isPlace 2 (some .boolean) 1 [.ref 0, .int p1] σ (f_X12_isPlace p1 σ) := by
  refine Con.of_X (by decide +kernel) (Nat.le_of_ble_eq_true rfl) ?_
  unfold f_X12_isPlace
  show X (wsOf SHM) RX12 cX12_isPlace 2 (some .boolean) 1 0 0 [(0, .ref 0), (1, .int p1)] [] σ _
  refine X_iload_n (pc := 0) (td kX12_isPlace 0 rfl) rfl 1 rfl ?_
  refine X_jn (P := fun k => X (wsOf SHM) RX12 cX12_isPlace 2 (some .boolean) 1 0 18 [] [] σ k) ?_ (fun k18 h18 => ?_)
  · refine X_iconst (v := (0 : Int32)) (pc := 18) (td kX12_isPlace 10 rfl) (by decide) ?_
    exact X_ret (pc := 19) (td kX12_isPlace 11 rfl) rfl
  · refine X_if_lt (pc := 1) (tgt := 18) (td kX12_isPlace 1 rfl) (by decide) (fun c_1 => ?_) (fun c_1 => ?_)
    · refine X_sub [] rfl ?_
      exact h18
    · refine X_iload_n (pc := 4) (td kX12_isPlace 2 rfl) rfl 1 rfl ?_
      refine X_aload_n (pc := 5) (td kX12_isPlace 3 rfl) rfl 0 rfl ?_
      refine X_getF (b := 2) (pc := 6) sM_0 rfl fk_X12_13 (td kX12_isPlace 4 rfl) ?_
      refine X_iconst (v := (0 : Int32)) (pc := 9) (td kX12_isPlace 5 rfl) (by decide) ?_
      refine X_iald (pc := 10) sM_2 (td kX12_isPlace 6 rfl) ?_
      refine X_icmp_ge (pc := 11) (tgt := 18) (td kX12_isPlace 7 rfl) (by decide) (fun c_11 => ?_) (fun c_11 => ?_)
      · refine X_sub [] rfl ?_
        exact h18
      · refine X_iconst (v := (1 : Int32)) (pc := 14) (td kX12_isPlace 8 rfl) (by decide) ?_
        refine X_goto (pc := 15) (tgt := 19) (td kX12_isPlace 9 rfl) (by decide) ?_
        exact X_ret (pc := 19) (td kX12_isPlace 11 rfl) rfl
set_option maxHeartbeats 4000000 in
theorem p_X12_isPlace (p1 : Int32) (σ : Mm) : Pu σ (f_X12_isPlace p1 σ) := by
  unfold f_X12_isPlace
  refine Pu_jn (fun k => Pu σ (k)) ?_ (fun k18 h18 => ?_)
  · exact Pu_some
  · refine Pu_if ?_ ?_
    · exact h18
    · refine Pu_ck ?_
      refine Pu_if ?_ ?_
      · exact Pu_some
      · exact h18
def F_X12_judged_41 (k100 : Int32 → Int32 → Mm → Option (Int32 × Mm)) (rec41 : Int32 → Int32 → Int32 → Mm → Option (Int32 × Mm)) (x2_41 : Int32) (x3_41 : Int32) (x4_41 : Int32) (σ_41 : Mm) : Option (Int32 × Mm) := ck (inb (0 : Int32) 6) ((if x4_41 < (gI σ_41 28 (0 : Int32).toNatClampNeg) then ck (inb (2 : Int32) 41) (bn (gI σ_41 36 (2 : Int32).toNatClampNeg) (fun v5_58 => cl (f_X12_goes x4_41 σ_41) (fun r63 σ63 => jn (fun (x2_76 : Int32) => ck (inb (2 : Int32) 41) (jn (fun (x3_94 : Int32) => rec41 x2_76 x3_94 (x4_41 + (1 : Int32)) σ63) (fun k94 => (if v5_58 < (gI σ63 36 (2 : Int32).toNatClampNeg) then (if x3_41 < 0 then k94 x4_41 else k94 x3_41) else k94 x3_41)))) (fun k76 => (if r63 = 0 then (if x2_41 < 0 then k76 x4_41 else k76 x2_41) else k76 x2_41))))) else k100 x2_41 x3_41 σ_41))
def f_X12_judged (p1 : Int32) (σ : Mm) : Option (Int32 × Mm) := bn (pI σ 0 0 (0 : Int32)) (fun σ2 => cl (f_X12_within p1 (0 : Int32) (2 : Int32) σ2) (fun r8 _ => (if r8 = 0 then some ((-2 : Int32), σ2) else cl (f_X12_copies 36 (0 : Int32) 37 (0 : Int32) σ2) (fun _ σ27 => cl (f_X12_fresh σ27) (fun _ σ31 => jn (fun (x2_100 : Int32) (x3_100 : Int32) (σ_100 : Mm) => ck (inb (2 : Int32) 41) (bn (gI σ_100 36 (2 : Int32).toNatClampNeg) (fun v4_106 => cl (f_X12_copies 37 (0 : Int32) 36 (0 : Int32) σ_100) (fun _ σ118 => (if p1 = 0 then some (x2_100, σ118) else (if p1 = (1 : Int32) then some (x3_100, σ118) else some (v4_106, σ118))))))) (fun k100 => lq4 (F_X12_judged_41 k100) 1000000 (-1 : Int32) (-1 : Int32) (0 : Int32) σ31))))))
set_option maxHeartbeats 4000000 in
set_option maxRecDepth 100000 in
theorem x_X12_judged (p1 : Int32) (σ : Mm) : Con (wsOf SHM) yX12_judged cX12_judged 6 (some .int) 7 [.ref 0, .int p1] σ (f_X12_judged p1 σ) := by
  refine Con.of_X (by decide +kernel) (Nat.le_of_ble_eq_true rfl) ?_
  unfold f_X12_judged
  show X (wsOf SHM) RX12 cX12_judged 6 (some .int) 7 0 0 [(0, .ref 0), (1, .int p1)] [] σ _
  refine X_aload_n (pc := 0) (td kX12_judged 0 rfl) rfl 0 rfl ?_
  refine X_iconst (v := (0 : Int32)) (pc := 1) (td kX12_judged 1 rfl) (by decide) ?_
  refine X_putI (pc := 2) sM_0 rfl fk_X12_169 rfl rfl (td kX12_judged 2 rfl) (fun σ2 => ?_)
  refine X_iload_n (pc := 5) (td kX12_judged 3 rfl) rfl 1 rfl ?_
  refine X_iconst (v := (0 : Int32)) (pc := 6) (td kX12_judged 4 rfl) (by decide) ?_
  refine X_iconst (v := (2 : Int32)) (pc := 7) (td kX12_judged 5 rfl) (by decide) ?_
  refine X_callsip (pc := 8) (As := [.int p1, .int (0 : Int32), .int (2 : Int32)]) (st := []) (p_X12_within p1 (0 : Int32) (2 : Int32) σ2) (x_X12_within p1 (0 : Int32) (2 : Int32) σ2) mkX12_within lk_X12_287 (by omega) rfl rfl (Nat.le_of_ble_eq_true rfl) (td kX12_judged 6 rfl) (fun r8 hr8 => ?_)
  refine X_if_ne (pc := 11) (tgt := 17) (td kX12_judged 7 rfl) (by decide) (fun c_11 => ?_) (fun c_11 => ?_)
  · refine X_aload_n (pc := 17) (td kX12_judged 10 rfl) rfl 0 rfl ?_
    refine X_getF (b := 36) (pc := 18) sM_0 rfl fk_X12_117 (td kX12_judged 11 rfl) ?_
    refine X_iconst (v := (0 : Int32)) (pc := 21) (td kX12_judged 12 rfl) (by decide) ?_
    refine X_aload_n (pc := 22) (td kX12_judged 13 rfl) rfl 0 rfl ?_
    refine X_getF (b := 37) (pc := 23) sM_0 rfl fk_X12_120 (td kX12_judged 14 rfl) ?_
    refine X_iconst (v := (0 : Int32)) (pc := 26) (td kX12_judged 15 rfl) (by decide) ?_
    refine X_callsv (pc := 27) (As := [.ref 36, .int (0 : Int32), .ref 37, .int (0 : Int32)]) (st := []) (x_X12_copies 36 (0 : Int32) 37 (0 : Int32) σ2) mkX12_copies lk_X12_429 (by omega) rfl rfl (Nat.le_of_ble_eq_true rfl) (td kX12_judged 16 rfl) (fun _ σ27 _ => ?_)
    refine X_aload_n (pc := 30) (td kX12_judged 17 rfl) rfl 0 rfl ?_
    refine X_callv (pc := 31) (As := []) (st := []) sM_0 (x_X12_fresh σ27) mkX12_fresh lk_X12_166 (by omega) rfl rfl (Nat.le_of_ble_eq_true rfl) (td kX12_judged 18 rfl) (fun _ σ31 _ => ?_)
    refine X_iconst (v := (-1 : Int32)) (pc := 34) (td kX12_judged 19 rfl) (by decide) ?_
    refine X_istore_n (L' := [(2, .int (-1 : Int32)), (0, .ref 0), (1, .int p1)]) (pc := 35) (td kX12_judged 20 rfl) rfl (by decide) rfl ?_
    refine X_iconst (v := (-1 : Int32)) (pc := 36) (td kX12_judged 21 rfl) (by decide) ?_
    refine X_istore_n (L' := [(3, .int (-1 : Int32)), (2, .int (-1 : Int32)), (0, .ref 0), (1, .int p1)]) (pc := 37) (td kX12_judged 22 rfl) rfl (by decide) rfl ?_
    refine X_iconst (v := (0 : Int32)) (pc := 38) (td kX12_judged 23 rfl) (by decide) ?_
    refine X_istore (L' := [(4, .int (0 : Int32)), (3, .int (-1 : Int32)), (2, .int (-1 : Int32)), (0, .ref 0), (1, .int p1)]) (pc := 39) (td kX12_judged 24 rfl) (by decide) rfl ?_
    refine X_jn (P := fun k => ∀ (x2_100 : Int32) (x3_100 : Int32) (σ_100 : Mm), X (wsOf SHM) RX12 cX12_judged 6 (some .int) 7 0 100 [(0, .ref 0), (1, .int p1), (2, .int x2_100), (3, .int x3_100)] [] σ_100 (k x2_100 x3_100 σ_100)) (fun x2_100 x3_100 σ_100 => ?_) (fun k100 h100 => ?_)
    · refine X_aload_n (pc := 100) (td kX12_judged 56 rfl) rfl 0 rfl ?_
      refine X_getF (b := 36) (pc := 101) sM_0 rfl fk_X12_117 (td kX12_judged 57 rfl) ?_
      refine X_iconst (v := (2 : Int32)) (pc := 104) (td kX12_judged 58 rfl) (by decide) ?_
      refine X_iald (pc := 105) sM_36 (td kX12_judged 59 rfl) ?_
      refine X_bi (fun v4_106 => ?_)
      refine X_istore (L' := [(4, .int v4_106), (0, .ref 0), (1, .int p1), (2, .int x2_100), (3, .int x3_100)]) (pc := 106) (td kX12_judged 60 rfl) (by decide) rfl ?_
      refine X_aload_n (pc := 108) (td kX12_judged 61 rfl) rfl 1 rfl ?_
      refine X_getF (b := 37) (pc := 109) sM_0 rfl fk_X12_120 (td kX12_judged 62 rfl) ?_
      refine X_iconst (v := (0 : Int32)) (pc := 112) (td kX12_judged 63 rfl) (by decide) ?_
      refine X_aload_n (pc := 113) (td kX12_judged 64 rfl) rfl 1 rfl ?_
      refine X_getF (b := 36) (pc := 114) sM_0 rfl fk_X12_117 (td kX12_judged 65 rfl) ?_
      refine X_iconst (v := (0 : Int32)) (pc := 117) (td kX12_judged 66 rfl) (by decide) ?_
      refine X_callsv (pc := 118) (As := [.ref 37, .int (0 : Int32), .ref 36, .int (0 : Int32)]) (st := []) (x_X12_copies 37 (0 : Int32) 36 (0 : Int32) σ_100) mkX12_copies lk_X12_429 (by omega) rfl rfl (Nat.le_of_ble_eq_true rfl) (td kX12_judged 67 rfl) (fun _ σ118 _ => ?_)
      refine X_iload_n (pc := 121) (td kX12_judged 68 rfl) rfl 2 rfl ?_
      refine X_if_ne (pc := 122) (tgt := 129) (td kX12_judged 69 rfl) (by decide) (fun c_122 => ?_) (fun c_122 => ?_)
      · refine X_iload_n (pc := 129) (td kX12_judged 72 rfl) rfl 2 rfl ?_
        refine X_iconst (v := (1 : Int32)) (pc := 130) (td kX12_judged 73 rfl) (by decide) ?_
        refine X_icmp_ne (pc := 131) (tgt := 138) (td kX12_judged 74 rfl) (by decide) (fun c_131 => ?_) (fun c_131 => ?_)
        · refine X_iload (pc := 138) (td kX12_judged 77 rfl) 0 rfl ?_
          exact X_ret (pc := 140) (td kX12_judged 78 rfl) rfl
        · refine X_iload_n (pc := 134) (td kX12_judged 75 rfl) rfl 4 rfl ?_
          refine X_goto (pc := 135) (tgt := 140) (td kX12_judged 76 rfl) (by decide) ?_
          exact X_ret (pc := 140) (td kX12_judged 78 rfl) rfl
      · refine X_iload_n (pc := 125) (td kX12_judged 70 rfl) rfl 3 rfl ?_
        refine X_goto (pc := 126) (tgt := 140) (td kX12_judged 71 rfl) (by decide) ?_
        exact X_ret (pc := 140) (td kX12_judged 78 rfl) rfl
    · refine X_sub [3, 4, 2, 1, 0] rfl ?_
      refine lq4_ind (P := fun x2_41 x3_41 x4_41 σ_41 E => X (wsOf SHM) RX12 cX12_judged 6 (some .int) 7 0 41 [(0, .ref 0), (1, .int p1), (2, .int x2_41), (3, .int x3_41), (4, .int x4_41)] [] σ_41 E) (fun _ _ _ _ => X_none) (fun rec41 hrec41 x2_41 x3_41 x4_41 σ_41 => ?_) _ _ _ _ _
      unfold F_X12_judged_41
      refine X_iload (pc := 41) (td kX12_judged 25 rfl) 4 rfl ?_
      refine X_aload_n (pc := 43) (td kX12_judged 26 rfl) rfl 0 rfl ?_
      refine X_getF (b := 28) (pc := 44) sM_0 rfl fk_X12_93 (td kX12_judged 27 rfl) ?_
      refine X_iconst (v := (0 : Int32)) (pc := 47) (td kX12_judged 28 rfl) (by decide) ?_
      refine X_iald (pc := 48) sM_28 (td kX12_judged 29 rfl) ?_
      refine X_icmp_ge (pc := 49) (tgt := 100) (td kX12_judged 30 rfl) (by decide) (fun c_49 => ?_) (fun c_49 => ?_)
      · refine X_sub [0, 1, 2, 3] rfl ?_
        exact h100 x2_41 x3_41 σ_41
      · refine X_aload_n (pc := 52) (td kX12_judged 31 rfl) rfl 0 rfl ?_
        refine X_getF (b := 36) (pc := 53) sM_0 rfl fk_X12_117 (td kX12_judged 32 rfl) ?_
        refine X_iconst (v := (2 : Int32)) (pc := 56) (td kX12_judged 33 rfl) (by decide) ?_
        refine X_iald (pc := 57) sM_36 (td kX12_judged 34 rfl) ?_
        refine X_bi (fun v5_58 => ?_)
        refine X_istore (L' := [(5, .int v5_58), (0, .ref 0), (1, .int p1), (2, .int x2_41), (3, .int x3_41), (4, .int x4_41)]) (pc := 58) (td kX12_judged 35 rfl) (by decide) rfl ?_
        refine X_aload_n (pc := 60) (td kX12_judged 36 rfl) rfl 1 rfl ?_
        refine X_iload (pc := 61) (td kX12_judged 37 rfl) 5 rfl ?_
        refine X_calli (pc := 63) (As := [.int x4_41]) (st := []) sM_0 (x_X12_goes x4_41 σ_41) mkX12_goes lk_X12_448 (by omega) rfl rfl (Nat.le_of_ble_eq_true rfl) (td kX12_judged 38 rfl) (fun r63 σ63 _ hr63 => ?_)
        refine X_jn (P := fun k => ∀ (x2_76 : Int32), X (wsOf SHM) RX12 cX12_judged 6 (some .int) 7 0 76 [(0, .ref 0), (1, .int p1), (2, .int x2_76), (3, .int x3_41), (4, .int x4_41), (5, .int v5_58)] [] σ63 (k x2_76)) (fun x2_76 => ?_) (fun k76 h76 => ?_)
        · refine X_aload_n (pc := 76) (td kX12_judged 44 rfl) rfl 0 rfl ?_
          refine X_getF (b := 36) (pc := 77) sM_0 rfl fk_X12_117 (td kX12_judged 45 rfl) ?_
          refine X_iconst (v := (2 : Int32)) (pc := 80) (td kX12_judged 46 rfl) (by decide) ?_
          refine X_iald (pc := 81) sM_36 (td kX12_judged 47 rfl) ?_
          refine X_iload (pc := 82) (td kX12_judged 48 rfl) 5 rfl ?_
          refine X_jn (P := fun k => ∀ (x3_94 : Int32), X (wsOf SHM) RX12 cX12_judged 6 (some .int) 7 0 94 [(0, .ref 0), (1, .int p1), (2, .int x2_76), (3, .int x3_94), (4, .int x4_41)] [] σ63 (k x3_94)) (fun x3_94 => ?_) (fun k94 h94 => ?_)
          · refine X_iinc (v := (x4_41 + (1 : Int32))) (L' := [(4, .int (x4_41 + (1 : Int32))), (0, .ref 0), (1, .int p1), (2, .int x2_76), (3, .int x3_94)]) (pc := 94) (td kX12_judged 54 rfl) 4 rfl rfl (by decide) rfl ?_
            refine X_goto (pc := 97) (tgt := 41) (td kX12_judged 55 rfl) (by decide) ?_
            refine X_sub [1, 2, 3, 4, 0] rfl ?_
            exact hrec41 x2_76 x3_94 (x4_41 + (1 : Int32)) σ63
          · refine X_icmp_le (pc := 84) (tgt := 94) (td kX12_judged 49 rfl) (by decide) (fun c_84 => ?_) (fun c_84 => ?_)
            · refine X_sub [0, 1, 2, 3, 4] rfl ?_
              exact h94 x3_41
            · refine X_iload_n (pc := 87) (td kX12_judged 50 rfl) rfl 3 rfl ?_
              refine X_if_ge (pc := 88) (tgt := 94) (td kX12_judged 51 rfl) (by decide) (fun c_88 => ?_) (fun c_88 => ?_)
              · refine X_sub [0, 1, 2, 3, 4] rfl ?_
                exact h94 x3_41
              · refine X_iload (pc := 91) (td kX12_judged 52 rfl) 4 rfl ?_
                refine X_istore_n (L' := [(3, .int x4_41), (0, .ref 0), (1, .int p1), (2, .int x2_76), (4, .int x4_41), (5, .int v5_58)]) (pc := 93) (td kX12_judged 53 rfl) rfl (by decide) rfl ?_
                refine X_sub [1, 2, 3, 0, 4] rfl ?_
                exact h94 x4_41
        · refine X_if_ne (pc := 66) (tgt := 76) (td kX12_judged 39 rfl) (by decide) (fun c_66 => ?_) (fun c_66 => ?_)
          · refine X_sub [1, 2, 3, 4, 5, 0] rfl ?_
            exact h76 x2_41
          · refine X_iload_n (pc := 69) (td kX12_judged 40 rfl) rfl 3 rfl ?_
            refine X_if_ge (pc := 70) (tgt := 76) (td kX12_judged 41 rfl) (by decide) (fun c_70 => ?_) (fun c_70 => ?_)
            · refine X_sub [1, 2, 3, 4, 5, 0] rfl ?_
              exact h76 x2_41
            · refine X_iload (pc := 73) (td kX12_judged 42 rfl) 5 rfl ?_
              refine X_istore_n (L' := [(2, .int x4_41), (5, .int v5_58), (0, .ref 0), (1, .int p1), (3, .int x3_41), (4, .int x4_41)]) (pc := 75) (td kX12_judged 43 rfl) rfl (by decide) rfl ?_
              refine X_sub [2, 3, 0, 4, 5, 1] rfl ?_
              exact h76 x4_41
  · refine X_bipush (v := (-2 : Int32)) (pc := 14) (td kX12_judged 8 rfl) (by decide) ?_
    exact X_ret (pc := 16) (td kX12_judged 9 rfl) rfl
def f_X12_lane (p1 : Int32) (p2 : Int32) (σ : Mm) : Option (Int32 × Mm) := bn (pI σ 0 0 (0 : Int32)) (fun σ2 => cl (f_X12_isLane p1 σ2) (fun r7 _ => jn (some ((-1 : Int32), σ2)) (fun k22 => (if r7 = 0 then k22 else cl (f_X12_within p2 (0 : Int32) (3 : Int32) σ2) (fun r16 _ => (if r16 = 0 then k22 else (if p2 = 0 then ck (inb p1 16) (some ((gI σ2 5 p1.toNatClampNeg), σ2)) else (if p2 = (1 : Int32) then ck (inb p1 16) (some ((gI σ2 6 p1.toNatClampNeg), σ2)) else (if p2 = (2 : Int32) then ck (inb p1 16) (some ((gI σ2 7 p1.toNatClampNeg), σ2)) else bn ((3 : Int32) + p1) (fun i_72 => ck (inb i_72 41) (some ((gI σ2 36 i_72.toNatClampNeg), σ2))))))))))))
set_option maxHeartbeats 4000000 in
set_option maxRecDepth 100000 in
theorem x_X12_lane (p1 : Int32) (p2 : Int32) (σ : Mm) : Con (wsOf SHM) yX12_lane cX12_lane 3 (some .int) 2 [.ref 0, .int p1, .int p2] σ (f_X12_lane p1 p2 σ) := by
  refine Con.of_X (by decide +kernel) (Nat.le_of_ble_eq_true rfl) ?_
  unfold f_X12_lane
  show X (wsOf SHM) RX12 cX12_lane 3 (some .int) 2 0 0 [(0, .ref 0), (1, .int p1), (2, .int p2)] [] σ _
  refine X_aload_n (pc := 0) (td kX12_lane 0 rfl) rfl 0 rfl ?_
  refine X_iconst (v := (0 : Int32)) (pc := 1) (td kX12_lane 1 rfl) (by decide) ?_
  refine X_putI (pc := 2) sM_0 rfl fk_X12_169 rfl rfl (td kX12_lane 2 rfl) (fun σ2 => ?_)
  refine X_aload_n (pc := 5) (td kX12_lane 3 rfl) rfl 0 rfl ?_
  refine X_iload_n (pc := 6) (td kX12_lane 4 rfl) rfl 1 rfl ?_
  refine X_callip (pc := 7) (As := [.int p1]) (st := []) (p_X12_isLane p1 σ2) sM_0 (x_X12_isLane p1 σ2) mkX12_isLane lk_X12_420 (by omega) rfl rfl (Nat.le_of_ble_eq_true rfl) (td kX12_lane 5 rfl) (fun r7 hr7 => ?_)
  refine X_jn (P := fun k => X (wsOf SHM) RX12 cX12_lane 3 (some .int) 2 0 22 [] [] σ2 k) ?_ (fun k22 h22 => ?_)
  · refine X_iconst (v := (-1 : Int32)) (pc := 22) (td kX12_lane 12 rfl) (by decide) ?_
    exact X_ret (pc := 23) (td kX12_lane 13 rfl) rfl
  · refine X_if_eq (pc := 10) (tgt := 22) (td kX12_lane 6 rfl) (by decide) (fun c_10 => ?_) (fun c_10 => ?_)
    · refine X_sub [] rfl ?_
      exact h22
    · refine X_iload_n (pc := 13) (td kX12_lane 7 rfl) rfl 2 rfl ?_
      refine X_iconst (v := (0 : Int32)) (pc := 14) (td kX12_lane 8 rfl) (by decide) ?_
      refine X_iconst (v := (3 : Int32)) (pc := 15) (td kX12_lane 9 rfl) (by decide) ?_
      refine X_callsip (pc := 16) (As := [.int p2, .int (0 : Int32), .int (3 : Int32)]) (st := []) (p_X12_within p2 (0 : Int32) (3 : Int32) σ2) (x_X12_within p2 (0 : Int32) (3 : Int32) σ2) mkX12_within lk_X12_287 (by omega) rfl rfl (Nat.le_of_ble_eq_true rfl) (td kX12_lane 10 rfl) (fun r16 hr16 => ?_)
      refine X_if_ne (pc := 19) (tgt := 24) (td kX12_lane 11 rfl) (by decide) (fun c_19 => ?_) (fun c_19 => ?_)
      · refine X_iload_n (pc := 24) (td kX12_lane 14 rfl) rfl 2 rfl ?_
        refine X_if_ne (pc := 25) (tgt := 37) (td kX12_lane 15 rfl) (by decide) (fun c_25 => ?_) (fun c_25 => ?_)
        · refine X_iload_n (pc := 37) (td kX12_lane 21 rfl) rfl 2 rfl ?_
          refine X_iconst (v := (1 : Int32)) (pc := 38) (td kX12_lane 22 rfl) (by decide) ?_
          refine X_icmp_ne (pc := 39) (tgt := 51) (td kX12_lane 23 rfl) (by decide) (fun c_39 => ?_) (fun c_39 => ?_)
          · refine X_iload_n (pc := 51) (td kX12_lane 29 rfl) rfl 2 rfl ?_
            refine X_iconst (v := (2 : Int32)) (pc := 52) (td kX12_lane 30 rfl) (by decide) ?_
            refine X_icmp_ne (pc := 53) (tgt := 65) (td kX12_lane 31 rfl) (by decide) (fun c_53 => ?_) (fun c_53 => ?_)
            · refine X_aload_n (pc := 65) (td kX12_lane 37 rfl) rfl 0 rfl ?_
              refine X_getF (b := 36) (pc := 66) sM_0 rfl fk_X12_117 (td kX12_lane 38 rfl) ?_
              refine X_iconst (v := (3 : Int32)) (pc := 69) (td kX12_lane 39 rfl) (by decide) ?_
              refine X_iload_n (pc := 70) (td kX12_lane 40 rfl) rfl 1 rfl ?_
              refine X_iadd (pc := 71) (td kX12_lane 41 rfl) ?_
              refine X_bi (fun i_72 => ?_)
              refine X_iald (pc := 72) sM_36 (td kX12_lane 42 rfl) ?_
              exact X_ret (pc := 73) (td kX12_lane 43 rfl) rfl
            · refine X_aload_n (pc := 56) (td kX12_lane 32 rfl) rfl 0 rfl ?_
              refine X_getF (b := 7) (pc := 57) sM_0 rfl fk_X12_29 (td kX12_lane 33 rfl) ?_
              refine X_iload_n (pc := 60) (td kX12_lane 34 rfl) rfl 1 rfl ?_
              refine X_iald (pc := 61) sM_7 (td kX12_lane 35 rfl) ?_
              refine X_goto (pc := 62) (tgt := 73) (td kX12_lane 36 rfl) (by decide) ?_
              exact X_ret (pc := 73) (td kX12_lane 43 rfl) rfl
          · refine X_aload_n (pc := 42) (td kX12_lane 24 rfl) rfl 0 rfl ?_
            refine X_getF (b := 6) (pc := 43) sM_0 rfl fk_X12_26 (td kX12_lane 25 rfl) ?_
            refine X_iload_n (pc := 46) (td kX12_lane 26 rfl) rfl 1 rfl ?_
            refine X_iald (pc := 47) sM_6 (td kX12_lane 27 rfl) ?_
            refine X_goto (pc := 48) (tgt := 73) (td kX12_lane 28 rfl) (by decide) ?_
            exact X_ret (pc := 73) (td kX12_lane 43 rfl) rfl
        · refine X_aload_n (pc := 28) (td kX12_lane 16 rfl) rfl 0 rfl ?_
          refine X_getF (b := 5) (pc := 29) sM_0 rfl fk_X12_23 (td kX12_lane 17 rfl) ?_
          refine X_iload_n (pc := 32) (td kX12_lane 18 rfl) rfl 1 rfl ?_
          refine X_iald (pc := 33) sM_5 (td kX12_lane 19 rfl) ?_
          refine X_goto (pc := 34) (tgt := 73) (td kX12_lane 20 rfl) (by decide) ?_
          exact X_ret (pc := 73) (td kX12_lane 43 rfl) rfl
      · refine X_sub [] rfl ?_
        exact h22
def F_X12_shifts_2 (b1 : Nat) (p2 : Int32) (k21 : Mm → Option (Int32 × Mm)) (rec2 : Int32 → Mm → Option (Int32 × Mm)) (x2_2 : Int32) (σ_2 : Mm) : Option (Int32 × Mm) := (if x2_2 < p2 then bn (p2 + x2_2) (fun i_13 => ck (isIA b1) (ck (inb i_13 (lenM b1)) (ck (inb x2_2 (lenM b1)) (bn (pI σ_2 b1 x2_2.toNatClampNeg (gI σ_2 b1 i_13.toNatClampNeg)) (fun σ14 => rec2 (x2_2 + (1 : Int32)) σ14))))) else k21 σ_2)
def f_X12_shifts (b1 : Nat) (p2 : Int32) (σ : Mm) : Option (Int32 × Mm) := jn (fun (σ_21 : Mm) => some (0, σ_21)) (fun k21 => lq2 (F_X12_shifts_2 b1 p2 k21) 1000000 (0 : Int32) σ)
set_option maxHeartbeats 4000000 in
set_option maxRecDepth 100000 in
theorem x_X12_shifts (b1 : Nat) (p2 : Int32) (σ : Mm) : Con (wsOf SHM) yX12_shifts cX12_shifts 3 none 1 [.ref b1, .int p2] σ (f_X12_shifts b1 p2 σ) := by
  refine Con.of_X (by decide +kernel) (Nat.le_of_ble_eq_true rfl) ?_
  unfold f_X12_shifts
  show X (wsOf SHM) RX12 cX12_shifts 3 none 1 0 0 [(0, .ref b1), (1, .int p2)] [] σ _
  refine X_iconst (v := (0 : Int32)) (pc := 0) (td kX12_shifts 0 rfl) (by decide) ?_
  refine X_istore_n (L' := [(2, .int (0 : Int32)), (0, .ref b1), (1, .int p2)]) (pc := 1) (td kX12_shifts 1 rfl) rfl (by decide) rfl ?_
  refine X_jn (P := fun k => ∀ (σ_21 : Mm), X (wsOf SHM) RX12 cX12_shifts 3 none 1 0 21 [] [] σ_21 (k σ_21)) (fun σ_21 => ?_) (fun k21 h21 => ?_)
  · exact X_retv (pc := 21) (td kX12_shifts 15 rfl)
  · refine X_sub [1, 2, 0] rfl ?_
    refine lq2_ind (P := fun x2_2 σ_2 E => X (wsOf SHM) RX12 cX12_shifts 3 none 1 0 2 [(0, .ref b1), (1, .int p2), (2, .int x2_2)] [] σ_2 E) (fun _ _ => X_none) (fun rec2 hrec2 x2_2 σ_2 => ?_) _ _ _
    unfold F_X12_shifts_2
    refine X_iload_n (pc := 2) (td kX12_shifts 2 rfl) rfl 2 rfl ?_
    refine X_iload_n (pc := 3) (td kX12_shifts 3 rfl) rfl 1 rfl ?_
    refine X_icmp_ge (pc := 4) (tgt := 21) (td kX12_shifts 4 rfl) (by decide) (fun c_4 => ?_) (fun c_4 => ?_)
    · refine X_sub [] rfl ?_
      exact h21 σ_2
    · refine X_aload_n (pc := 7) (td kX12_shifts 5 rfl) rfl 0 rfl ?_
      refine X_iload_n (pc := 8) (td kX12_shifts 6 rfl) rfl 2 rfl ?_
      refine X_aload_n (pc := 9) (td kX12_shifts 7 rfl) rfl 0 rfl ?_
      refine X_iload_n (pc := 10) (td kX12_shifts 8 rfl) rfl 1 rfl ?_
      refine X_iload_n (pc := 11) (td kX12_shifts 9 rfl) rfl 2 rfl ?_
      refine X_iadd (pc := 12) (td kX12_shifts 10 rfl) ?_
      refine X_bi (fun i_13 => ?_)
      refine X_ck (fun b1_h => ?_)
      refine X_iald (pc := 13) (knIA b1_h) (td kX12_shifts 11 rfl) ?_
      refine X_iast (pc := 14) (knIA b1_h) (td kX12_shifts 12 rfl) (fun σ14 => ?_)
      refine X_iinc (v := (x2_2 + (1 : Int32))) (L' := [(2, .int (x2_2 + (1 : Int32))), (0, .ref b1), (1, .int p2)]) (pc := 15) (td kX12_shifts 13 rfl) 2 rfl rfl (by decide) rfl ?_
      refine X_goto (pc := 18) (tgt := 2) (td kX12_shifts 14 rfl) (by decide) ?_
      refine X_sub [1, 2, 0] rfl ?_
      exact hrec2 (x2_2 + (1 : Int32)) σ14
def F_X12_shiftsNames_2 (b1 : Nat) (p2 : Int32) (k21 : Mm → Option (Int32 × Mm)) (rec2 : Int32 → Mm → Option (Int32 × Mm)) (x2_2 : Int32) (σ_2 : Mm) : Option (Int32 × Mm) := (if x2_2 < p2 then bn (p2 + x2_2) (fun i_13 => ck (isLA b1) (ck (inb i_13 (lenM b1)) (ck (inb x2_2 (lenM b1)) (bn (pL σ_2 b1 x2_2.toNatClampNeg (gL σ_2 b1 i_13.toNatClampNeg)) (fun σ14 => rec2 (x2_2 + (1 : Int32)) σ14))))) else k21 σ_2)
def f_X12_shiftsNames (b1 : Nat) (p2 : Int32) (σ : Mm) : Option (Int32 × Mm) := jn (fun (σ_21 : Mm) => some (0, σ_21)) (fun k21 => lq2 (F_X12_shiftsNames_2 b1 p2 k21) 1000000 (0 : Int32) σ)
set_option maxHeartbeats 4000000 in
set_option maxRecDepth 100000 in
theorem x_X12_shiftsNames (b1 : Nat) (p2 : Int32) (σ : Mm) : Con (wsOf SHM) yX12_shiftsNames cX12_shiftsNames 3 none 1 [.ref b1, .int p2] σ (f_X12_shiftsNames b1 p2 σ) := by
  refine Con.of_X (by decide +kernel) (Nat.le_of_ble_eq_true rfl) ?_
  unfold f_X12_shiftsNames
  show X (wsOf SHM) RX12 cX12_shiftsNames 3 none 1 0 0 [(0, .ref b1), (1, .int p2)] [] σ _
  refine X_iconst (v := (0 : Int32)) (pc := 0) (td kX12_shiftsNames 0 rfl) (by decide) ?_
  refine X_istore_n (L' := [(2, .int (0 : Int32)), (0, .ref b1), (1, .int p2)]) (pc := 1) (td kX12_shiftsNames 1 rfl) rfl (by decide) rfl ?_
  refine X_jn (P := fun k => ∀ (σ_21 : Mm), X (wsOf SHM) RX12 cX12_shiftsNames 3 none 1 0 21 [] [] σ_21 (k σ_21)) (fun σ_21 => ?_) (fun k21 h21 => ?_)
  · exact X_retv (pc := 21) (td kX12_shiftsNames 15 rfl)
  · refine X_sub [1, 2, 0] rfl ?_
    refine lq2_ind (P := fun x2_2 σ_2 E => X (wsOf SHM) RX12 cX12_shiftsNames 3 none 1 0 2 [(0, .ref b1), (1, .int p2), (2, .int x2_2)] [] σ_2 E) (fun _ _ => X_none) (fun rec2 hrec2 x2_2 σ_2 => ?_) _ _ _
    unfold F_X12_shiftsNames_2
    refine X_iload_n (pc := 2) (td kX12_shiftsNames 2 rfl) rfl 2 rfl ?_
    refine X_iload_n (pc := 3) (td kX12_shiftsNames 3 rfl) rfl 1 rfl ?_
    refine X_icmp_ge (pc := 4) (tgt := 21) (td kX12_shiftsNames 4 rfl) (by decide) (fun c_4 => ?_) (fun c_4 => ?_)
    · refine X_sub [] rfl ?_
      exact h21 σ_2
    · refine X_aload_n (pc := 7) (td kX12_shiftsNames 5 rfl) rfl 0 rfl ?_
      refine X_iload_n (pc := 8) (td kX12_shiftsNames 6 rfl) rfl 2 rfl ?_
      refine X_aload_n (pc := 9) (td kX12_shiftsNames 7 rfl) rfl 0 rfl ?_
      refine X_iload_n (pc := 10) (td kX12_shiftsNames 8 rfl) rfl 1 rfl ?_
      refine X_iload_n (pc := 11) (td kX12_shiftsNames 9 rfl) rfl 2 rfl ?_
      refine X_iadd (pc := 12) (td kX12_shiftsNames 10 rfl) ?_
      refine X_bi (fun i_13 => ?_)
      refine X_ck (fun b1_h => ?_)
      refine X_lald (pc := 13) (knLA b1_h) (td kX12_shiftsNames 11 rfl) ?_
      refine X_last (pc := 14) (knLA b1_h) (td kX12_shiftsNames 12 rfl) (fun σ14 => ?_)
      refine X_iinc (v := (x2_2 + (1 : Int32))) (L' := [(2, .int (x2_2 + (1 : Int32))), (0, .ref b1), (1, .int p2)]) (pc := 15) (td kX12_shiftsNames 13 rfl) 2 rfl rfl (by decide) rfl ?_
      refine X_goto (pc := 18) (tgt := 2) (td kX12_shiftsNames 14 rfl) (by decide) ?_
      refine X_sub [1, 2, 0] rfl ?_
      exact hrec2 (x2_2 + (1 : Int32)) σ14
def f_X12_lays (σ : Mm) : Option (Int32 × Mm) := cl (f_X12_shifts 2 (4 : Int32) σ) (fun _ σ5 => cl (f_X12_shiftsNames 3 (6 : Int32) σ5) (fun _ σ14 => cl (f_X12_shiftsNames 4 (6 : Int32) σ14) (fun _ σ23 => cl (f_X12_shifts 5 (8 : Int32) σ23) (fun _ σ32 => cl (f_X12_shifts 6 (8 : Int32) σ32) (fun _ σ41 => cl (f_X12_shifts 7 (8 : Int32) σ41) (fun _ σ50 => cl (f_X12_shifts 8 (6 : Int32) σ50) (fun _ σ59 => cl (f_X12_shifts 9 (6 : Int32) σ59) (fun _ σ68 => cl (f_X12_shifts 10 (6 : Int32) σ68) (fun _ σ77 => cl (f_X12_shifts 11 (6 : Int32) σ77) (fun _ σ86 => cl (f_X12_shifts 14 (1000 : Int32) σ86) (fun _ σ96 => ck (inb (1 : Int32) 2) (ck (inb (0 : Int32) 2) (bn (pI σ96 12 (0 : Int32).toNatClampNeg ((gI σ96 12 (1 : Int32).toNatClampNeg) - (1000 : Int32))) (fun σ114 => ck (inb (1 : Int32) 2) (ck (inb (0 : Int32) 2) (bn (pI σ114 13 (0 : Int32).toNatClampNeg ((gI σ114 13 (1 : Int32).toNatClampNeg) - (1000 : Int32))) (fun σ130 => some (0, σ130))))))))))))))))))
set_option maxHeartbeats 4000000 in
set_option maxRecDepth 100000 in
theorem x_X12_lays (σ : Mm) : Con (wsOf SHM) yX12_lays cX12_lays 1 none 2 [.ref 0] σ (f_X12_lays σ) := by
  refine Con.of_X (by decide +kernel) (Nat.le_of_ble_eq_true rfl) ?_
  unfold f_X12_lays
  show X (wsOf SHM) RX12 cX12_lays 1 none 2 0 0 [(0, .ref 0)] [] σ _
  refine X_aload_n (pc := 0) (td kX12_lays 0 rfl) rfl 0 rfl ?_
  refine X_getF (b := 2) (pc := 1) sM_0 rfl fk_X12_13 (td kX12_lays 1 rfl) ?_
  refine X_iconst (v := (4 : Int32)) (pc := 4) (td kX12_lays 2 rfl) (by decide) ?_
  refine X_callsv (pc := 5) (As := [.ref 2, .int (4 : Int32)]) (st := []) (x_X12_shifts 2 (4 : Int32) σ) mkX12_shifts lk_X12_357 (by omega) rfl rfl (Nat.le_of_ble_eq_true rfl) (td kX12_lays 3 rfl) (fun _ σ5 _ => ?_)
  refine X_aload_n (pc := 8) (td kX12_lays 4 rfl) rfl 0 rfl ?_
  refine X_getF (b := 3) (pc := 9) sM_0 rfl fk_X12_16 (td kX12_lays 5 rfl) ?_
  refine X_bipush (v := (6 : Int32)) (pc := 12) (td kX12_lays 6 rfl) (by decide) ?_
  refine X_callsv (pc := 14) (As := [.ref 3, .int (6 : Int32)]) (st := []) (x_X12_shiftsNames 3 (6 : Int32) σ5) mkX12_shiftsNames lk_X12_361 (by omega) rfl rfl (Nat.le_of_ble_eq_true rfl) (td kX12_lays 7 rfl) (fun _ σ14 _ => ?_)
  refine X_aload_n (pc := 17) (td kX12_lays 8 rfl) rfl 0 rfl ?_
  refine X_getF (b := 4) (pc := 18) sM_0 rfl fk_X12_20 (td kX12_lays 9 rfl) ?_
  refine X_bipush (v := (6 : Int32)) (pc := 21) (td kX12_lays 10 rfl) (by decide) ?_
  refine X_callsv (pc := 23) (As := [.ref 4, .int (6 : Int32)]) (st := []) (x_X12_shiftsNames 4 (6 : Int32) σ14) mkX12_shiftsNames lk_X12_361 (by omega) rfl rfl (Nat.le_of_ble_eq_true rfl) (td kX12_lays 11 rfl) (fun _ σ23 _ => ?_)
  refine X_aload_n (pc := 26) (td kX12_lays 12 rfl) rfl 0 rfl ?_
  refine X_getF (b := 5) (pc := 27) sM_0 rfl fk_X12_23 (td kX12_lays 13 rfl) ?_
  refine X_bipush (v := (8 : Int32)) (pc := 30) (td kX12_lays 14 rfl) (by decide) ?_
  refine X_callsv (pc := 32) (As := [.ref 5, .int (8 : Int32)]) (st := []) (x_X12_shifts 5 (8 : Int32) σ23) mkX12_shifts lk_X12_357 (by omega) rfl rfl (Nat.le_of_ble_eq_true rfl) (td kX12_lays 15 rfl) (fun _ σ32 _ => ?_)
  refine X_aload_n (pc := 35) (td kX12_lays 16 rfl) rfl 0 rfl ?_
  refine X_getF (b := 6) (pc := 36) sM_0 rfl fk_X12_26 (td kX12_lays 17 rfl) ?_
  refine X_bipush (v := (8 : Int32)) (pc := 39) (td kX12_lays 18 rfl) (by decide) ?_
  refine X_callsv (pc := 41) (As := [.ref 6, .int (8 : Int32)]) (st := []) (x_X12_shifts 6 (8 : Int32) σ32) mkX12_shifts lk_X12_357 (by omega) rfl rfl (Nat.le_of_ble_eq_true rfl) (td kX12_lays 19 rfl) (fun _ σ41 _ => ?_)
  refine X_aload_n (pc := 44) (td kX12_lays 20 rfl) rfl 0 rfl ?_
  refine X_getF (b := 7) (pc := 45) sM_0 rfl fk_X12_29 (td kX12_lays 21 rfl) ?_
  refine X_bipush (v := (8 : Int32)) (pc := 48) (td kX12_lays 22 rfl) (by decide) ?_
  refine X_callsv (pc := 50) (As := [.ref 7, .int (8 : Int32)]) (st := []) (x_X12_shifts 7 (8 : Int32) σ41) mkX12_shifts lk_X12_357 (by omega) rfl rfl (Nat.le_of_ble_eq_true rfl) (td kX12_lays 23 rfl) (fun _ σ50 _ => ?_)
  refine X_aload_n (pc := 53) (td kX12_lays 24 rfl) rfl 0 rfl ?_
  refine X_getF (b := 8) (pc := 54) sM_0 rfl fk_X12_32 (td kX12_lays 25 rfl) ?_
  refine X_bipush (v := (6 : Int32)) (pc := 57) (td kX12_lays 26 rfl) (by decide) ?_
  refine X_callsv (pc := 59) (As := [.ref 8, .int (6 : Int32)]) (st := []) (x_X12_shifts 8 (6 : Int32) σ50) mkX12_shifts lk_X12_357 (by omega) rfl rfl (Nat.le_of_ble_eq_true rfl) (td kX12_lays 27 rfl) (fun _ σ59 _ => ?_)
  refine X_aload_n (pc := 62) (td kX12_lays 28 rfl) rfl 0 rfl ?_
  refine X_getF (b := 9) (pc := 63) sM_0 rfl fk_X12_35 (td kX12_lays 29 rfl) ?_
  refine X_bipush (v := (6 : Int32)) (pc := 66) (td kX12_lays 30 rfl) (by decide) ?_
  refine X_callsv (pc := 68) (As := [.ref 9, .int (6 : Int32)]) (st := []) (x_X12_shifts 9 (6 : Int32) σ59) mkX12_shifts lk_X12_357 (by omega) rfl rfl (Nat.le_of_ble_eq_true rfl) (td kX12_lays 31 rfl) (fun _ σ68 _ => ?_)
  refine X_aload_n (pc := 71) (td kX12_lays 32 rfl) rfl 0 rfl ?_
  refine X_getF (b := 10) (pc := 72) sM_0 rfl fk_X12_38 (td kX12_lays 33 rfl) ?_
  refine X_bipush (v := (6 : Int32)) (pc := 75) (td kX12_lays 34 rfl) (by decide) ?_
  refine X_callsv (pc := 77) (As := [.ref 10, .int (6 : Int32)]) (st := []) (x_X12_shifts 10 (6 : Int32) σ68) mkX12_shifts lk_X12_357 (by omega) rfl rfl (Nat.le_of_ble_eq_true rfl) (td kX12_lays 35 rfl) (fun _ σ77 _ => ?_)
  refine X_aload_n (pc := 80) (td kX12_lays 36 rfl) rfl 0 rfl ?_
  refine X_getF (b := 11) (pc := 81) sM_0 rfl fk_X12_41 (td kX12_lays 37 rfl) ?_
  refine X_bipush (v := (6 : Int32)) (pc := 84) (td kX12_lays 38 rfl) (by decide) ?_
  refine X_callsv (pc := 86) (As := [.ref 11, .int (6 : Int32)]) (st := []) (x_X12_shifts 11 (6 : Int32) σ77) mkX12_shifts lk_X12_357 (by omega) rfl rfl (Nat.le_of_ble_eq_true rfl) (td kX12_lays 39 rfl) (fun _ σ86 _ => ?_)
  refine X_aload_n (pc := 89) (td kX12_lays 40 rfl) rfl 0 rfl ?_
  refine X_getF (b := 14) (pc := 90) sM_0 rfl fk_X12_50 (td kX12_lays 41 rfl) ?_
  refine X_sipush (v := (1000 : Int32)) (pc := 93) (td kX12_lays 42 rfl) (by decide) ?_
  refine X_callsv (pc := 96) (As := [.ref 14, .int (1000 : Int32)]) (st := []) (x_X12_shifts 14 (1000 : Int32) σ86) mkX12_shifts lk_X12_357 (by omega) rfl rfl (Nat.le_of_ble_eq_true rfl) (td kX12_lays 43 rfl) (fun _ σ96 _ => ?_)
  refine X_aload_n (pc := 99) (td kX12_lays 44 rfl) rfl 0 rfl ?_
  refine X_getF (b := 12) (pc := 100) sM_0 rfl fk_X12_44 (td kX12_lays 45 rfl) ?_
  refine X_iconst (v := (0 : Int32)) (pc := 103) (td kX12_lays 46 rfl) (by decide) ?_
  refine X_aload_n (pc := 104) (td kX12_lays 47 rfl) rfl 0 rfl ?_
  refine X_getF (b := 12) (pc := 105) sM_0 rfl fk_X12_44 (td kX12_lays 48 rfl) ?_
  refine X_iconst (v := (1 : Int32)) (pc := 108) (td kX12_lays 49 rfl) (by decide) ?_
  refine X_iald (pc := 109) sM_12 (td kX12_lays 50 rfl) ?_
  refine X_sipush (v := (1000 : Int32)) (pc := 110) (td kX12_lays 51 rfl) (by decide) ?_
  refine X_isub (pc := 113) (td kX12_lays 52 rfl) ?_
  refine X_iast (pc := 114) sM_12 (td kX12_lays 53 rfl) (fun σ114 => ?_)
  refine X_aload_n (pc := 115) (td kX12_lays 54 rfl) rfl 0 rfl ?_
  refine X_getF (b := 13) (pc := 116) sM_0 rfl fk_X12_47 (td kX12_lays 55 rfl) ?_
  refine X_iconst (v := (0 : Int32)) (pc := 119) (td kX12_lays 56 rfl) (by decide) ?_
  refine X_aload_n (pc := 120) (td kX12_lays 57 rfl) rfl 0 rfl ?_
  refine X_getF (b := 13) (pc := 121) sM_0 rfl fk_X12_47 (td kX12_lays 58 rfl) ?_
  refine X_iconst (v := (1 : Int32)) (pc := 124) (td kX12_lays 59 rfl) (by decide) ?_
  refine X_iald (pc := 125) sM_13 (td kX12_lays 60 rfl) ?_
  refine X_sipush (v := (1000 : Int32)) (pc := 126) (td kX12_lays 61 rfl) (by decide) ?_
  refine X_isub (pc := 129) (td kX12_lays 62 rfl) ?_
  refine X_iast (pc := 130) sM_13 (td kX12_lays 63 rfl) (fun σ130 => ?_)
  exact X_retv (pc := 131) (td kX12_lays 64 rfl)
def F_X12_lays0_67 (x1_59 : Int32) (k123 : Mm → Option (Int32 × Mm)) (rec67 : Int32 → Mm → Option (Int32 × Mm)) (x2_67 : Int32) (σ_67 : Mm) : Option (Int32 × Mm) := (if x2_67 < (36 : Int32) then ck (inb x2_67 36) (bn (((6 : Int32) * (x2_67 / (6 : Int32))) + x1_59) (fun i_97 => ck (inb i_97 36) (bn (((6 : Int32) * x1_59) + (irm x2_67 (6 : Int32))) (fun i_111 => ck (inb i_111 36) (ck (inb x2_67 36) (bn (pI σ_67 27 x2_67.toNatClampNeg (imn (gI σ_67 27 x2_67.toNatClampNeg) ((gI σ_67 27 i_97.toNatClampNeg) + (gI σ_67 27 i_111.toNatClampNeg)))) (fun σ116 => rec67 (x2_67 + (1 : Int32)) σ116))))))) else k123 σ_67)
def F_X12_lays0_59 (k129 : Mm → Option (Int32 × Mm)) (rec59 : Int32 → Mm → Option (Int32 × Mm)) (x1_59 : Int32) (σ_59 : Mm) : Option (Int32 × Mm) := (if x1_59 < (6 : Int32) then jn (fun (σ_123 : Mm) => rec59 (x1_59 + (1 : Int32)) σ_123) (fun k123 => lq2 (F_X12_lays0_67 x1_59 k123) 1000000 (0 : Int32) σ_59) else k129 σ_59)
def F_X12_lays0_2 (k57 : Mm → Option (Int32 × Mm)) (rec2 : Int32 → Mm → Option (Int32 × Mm)) (x1_2 : Int32) (σ_2 : Mm) : Option (Int32 × Mm) := (if x1_2 < (36 : Int32) then jn (fun (y2_50 : Int32) => ck (inb x1_2 36) (bn (pI σ_2 27 x1_2.toNatClampNeg y2_50) (fun σ50 => rec2 (x1_2 + (1 : Int32)) σ50))) (fun k50 => (if (x1_2 / (6 : Int32)) = (irm x1_2 (6 : Int32)) then k50 (0 : Int32) else cl (f_X12_laneOf (0 : Int32) (x1_2 / (6 : Int32)) (irm x1_2 (6 : Int32)) σ_2) (fun r38 _ => (if r38 < 0 then k50 (99 : Int32) else k50 (1 : Int32))))) else k57 σ_2)
def f_X12_lays0 (σ : Mm) : Option (Int32 × Mm) := jn (fun (σ_57 : Mm) => jn (fun (σ_129 : Mm) => some (0, σ_129)) (fun k129 => lq2 (F_X12_lays0_59 k129) 1000000 (0 : Int32) σ_57)) (fun k57 => lq2 (F_X12_lays0_2 k57) 1000000 (0 : Int32) σ)
set_option maxHeartbeats 4000000 in
set_option maxRecDepth 100000 in
theorem x_X12_lays0 (σ : Mm) : Con (wsOf SHM) yX12_lays0 cX12_lays0 3 none 2 [.ref 0] σ (f_X12_lays0 σ) := by
  refine Con.of_X (by decide +kernel) (Nat.le_of_ble_eq_true rfl) ?_
  unfold f_X12_lays0
  show X (wsOf SHM) RX12 cX12_lays0 3 none 2 0 0 [(0, .ref 0)] [] σ _
  refine X_iconst (v := (0 : Int32)) (pc := 0) (td kX12_lays0 0 rfl) (by decide) ?_
  refine X_istore_n (L' := [(1, .int (0 : Int32)), (0, .ref 0)]) (pc := 1) (td kX12_lays0 1 rfl) rfl (by decide) rfl ?_
  refine X_jn (P := fun k => ∀ (σ_57 : Mm), X (wsOf SHM) RX12 cX12_lays0 3 none 2 0 57 [(0, .ref 0)] [] σ_57 (k σ_57)) (fun σ_57 => ?_) (fun k57 h57 => ?_)
  · refine X_iconst (v := (0 : Int32)) (pc := 57) (td kX12_lays0 33 rfl) (by decide) ?_
    refine X_istore_n (L' := [(1, .int (0 : Int32)), (0, .ref 0)]) (pc := 58) (td kX12_lays0 34 rfl) rfl (by decide) rfl ?_
    refine X_jn (P := fun k => ∀ (σ_129 : Mm), X (wsOf SHM) RX12 cX12_lays0 3 none 2 0 129 [] [] σ_129 (k σ_129)) (fun σ_129 => ?_) (fun k129 h129 => ?_)
    · exact X_retv (pc := 129) (td kX12_lays0 77 rfl)
    · refine X_sub [1, 0] rfl ?_
      refine lq2_ind (P := fun x1_59 σ_59 E => X (wsOf SHM) RX12 cX12_lays0 3 none 2 0 59 [(0, .ref 0), (1, .int x1_59)] [] σ_59 E) (fun _ _ => X_none) (fun rec59 hrec59 x1_59 σ_59 => ?_) _ _ _
      unfold F_X12_lays0_59
      refine X_iload_n (pc := 59) (td kX12_lays0 35 rfl) rfl 1 rfl ?_
      refine X_bipush (v := (6 : Int32)) (pc := 60) (td kX12_lays0 36 rfl) (by decide) ?_
      refine X_icmp_ge (pc := 62) (tgt := 129) (td kX12_lays0 37 rfl) (by decide) (fun c_62 => ?_) (fun c_62 => ?_)
      · refine X_sub [] rfl ?_
        exact h129 σ_59
      · refine X_iconst (v := (0 : Int32)) (pc := 65) (td kX12_lays0 38 rfl) (by decide) ?_
        refine X_istore_n (L' := [(2, .int (0 : Int32)), (0, .ref 0), (1, .int x1_59)]) (pc := 66) (td kX12_lays0 39 rfl) rfl (by decide) rfl ?_
        refine X_jn (P := fun k => ∀ (σ_123 : Mm), X (wsOf SHM) RX12 cX12_lays0 3 none 2 0 123 [(0, .ref 0), (1, .int x1_59)] [] σ_123 (k σ_123)) (fun σ_123 => ?_) (fun k123 h123 => ?_)
        · refine X_iinc (v := (x1_59 + (1 : Int32))) (L' := [(1, .int (x1_59 + (1 : Int32))), (0, .ref 0)]) (pc := 123) (td kX12_lays0 75 rfl) 1 rfl rfl (by decide) rfl ?_
          refine X_goto (pc := 126) (tgt := 59) (td kX12_lays0 76 rfl) (by decide) ?_
          refine X_sub [1, 0] rfl ?_
          exact hrec59 (x1_59 + (1 : Int32)) σ_123
        · refine X_sub [1, 2, 0] rfl ?_
          refine lq2_ind (P := fun x2_67 σ_67 E => X (wsOf SHM) RX12 cX12_lays0 3 none 2 0 67 [(0, .ref 0), (1, .int x1_59), (2, .int x2_67)] [] σ_67 E) (fun _ _ => X_none) (fun rec67 hrec67 x2_67 σ_67 => ?_) _ _ _
          unfold F_X12_lays0_67
          refine X_iload_n (pc := 67) (td kX12_lays0 40 rfl) rfl 2 rfl ?_
          refine X_bipush (v := (36 : Int32)) (pc := 68) (td kX12_lays0 41 rfl) (by decide) ?_
          refine X_icmp_ge (pc := 70) (tgt := 123) (td kX12_lays0 42 rfl) (by decide) (fun c_70 => ?_) (fun c_70 => ?_)
          · refine X_sub [0, 1] rfl ?_
            exact h123 σ_67
          · refine X_aload_n (pc := 73) (td kX12_lays0 43 rfl) rfl 0 rfl ?_
            refine X_getF (b := 27) (pc := 74) sM_0 rfl fk_X12_90 (td kX12_lays0 44 rfl) ?_
            refine X_iload_n (pc := 77) (td kX12_lays0 45 rfl) rfl 2 rfl ?_
            refine X_aload_n (pc := 78) (td kX12_lays0 46 rfl) rfl 0 rfl ?_
            refine X_getF (b := 27) (pc := 79) sM_0 rfl fk_X12_90 (td kX12_lays0 47 rfl) ?_
            refine X_iload_n (pc := 82) (td kX12_lays0 48 rfl) rfl 2 rfl ?_
            refine X_iald (pc := 83) sM_27 (td kX12_lays0 49 rfl) ?_
            refine X_aload_n (pc := 84) (td kX12_lays0 50 rfl) rfl 0 rfl ?_
            refine X_getF (b := 27) (pc := 85) sM_0 rfl fk_X12_90 (td kX12_lays0 51 rfl) ?_
            refine X_bipush (v := (6 : Int32)) (pc := 88) (td kX12_lays0 52 rfl) (by decide) ?_
            refine X_iload_n (pc := 90) (td kX12_lays0 53 rfl) rfl 2 rfl ?_
            refine X_bipush (v := (6 : Int32)) (pc := 91) (td kX12_lays0 54 rfl) (by decide) ?_
            refine X_idiv (pc := 93) (td kX12_lays0 55 rfl) (by decide) ?_
            refine X_imul (pc := 94) (td kX12_lays0 56 rfl) ?_
            refine X_iload_n (pc := 95) (td kX12_lays0 57 rfl) rfl 1 rfl ?_
            refine X_iadd (pc := 96) (td kX12_lays0 58 rfl) ?_
            refine X_bi (fun i_97 => ?_)
            refine X_iald (pc := 97) sM_27 (td kX12_lays0 59 rfl) ?_
            refine X_aload_n (pc := 98) (td kX12_lays0 60 rfl) rfl 0 rfl ?_
            refine X_getF (b := 27) (pc := 99) sM_0 rfl fk_X12_90 (td kX12_lays0 61 rfl) ?_
            refine X_bipush (v := (6 : Int32)) (pc := 102) (td kX12_lays0 62 rfl) (by decide) ?_
            refine X_iload_n (pc := 104) (td kX12_lays0 63 rfl) rfl 1 rfl ?_
            refine X_imul (pc := 105) (td kX12_lays0 64 rfl) ?_
            refine X_iload_n (pc := 106) (td kX12_lays0 65 rfl) rfl 2 rfl ?_
            refine X_bipush (v := (6 : Int32)) (pc := 107) (td kX12_lays0 66 rfl) (by decide) ?_
            refine X_irem2 (pc := 109) (td kX12_lays0 67 rfl) (by decide) ?_
            refine X_iadd (pc := 110) (td kX12_lays0 68 rfl) ?_
            refine X_bi (fun i_111 => ?_)
            refine X_iald (pc := 111) sM_27 (td kX12_lays0 69 rfl) ?_
            refine X_iadd (pc := 112) (td kX12_lays0 70 rfl) ?_
            refine X_mmin2 (pc := 113) (td kX12_lays0 71 rfl) lm_X12_365 (by omega) (Nat.le_of_ble_eq_true rfl) ?_
            refine X_iast (pc := 116) sM_27 (td kX12_lays0 72 rfl) (fun σ116 => ?_)
            refine X_iinc (v := (x2_67 + (1 : Int32))) (L' := [(2, .int (x2_67 + (1 : Int32))), (0, .ref 0), (1, .int x1_59)]) (pc := 117) (td kX12_lays0 73 rfl) 2 rfl rfl (by decide) rfl ?_
            refine X_goto (pc := 120) (tgt := 67) (td kX12_lays0 74 rfl) (by decide) ?_
            refine X_sub [1, 2, 0] rfl ?_
            exact hrec67 (x2_67 + (1 : Int32)) σ116
  · refine X_sub [1, 0] rfl ?_
    refine lq2_ind (P := fun x1_2 σ_2 E => X (wsOf SHM) RX12 cX12_lays0 3 none 2 0 2 [(0, .ref 0), (1, .int x1_2)] [] σ_2 E) (fun _ _ => X_none) (fun rec2 hrec2 x1_2 σ_2 => ?_) _ _ _
    unfold F_X12_lays0_2
    refine X_iload_n (pc := 2) (td kX12_lays0 2 rfl) rfl 1 rfl ?_
    refine X_bipush (v := (36 : Int32)) (pc := 3) (td kX12_lays0 3 rfl) (by decide) ?_
    refine X_icmp_ge (pc := 5) (tgt := 57) (td kX12_lays0 4 rfl) (by decide) (fun c_5 => ?_) (fun c_5 => ?_)
    · refine X_sub [0] rfl ?_
      exact h57 σ_2
    · refine X_aload_n (pc := 8) (td kX12_lays0 5 rfl) rfl 0 rfl ?_
      refine X_getF (b := 27) (pc := 9) sM_0 rfl fk_X12_90 (td kX12_lays0 6 rfl) ?_
      refine X_iload_n (pc := 12) (td kX12_lays0 7 rfl) rfl 1 rfl ?_
      refine X_iload_n (pc := 13) (td kX12_lays0 8 rfl) rfl 1 rfl ?_
      refine X_bipush (v := (6 : Int32)) (pc := 14) (td kX12_lays0 9 rfl) (by decide) ?_
      refine X_idiv (pc := 16) (td kX12_lays0 10 rfl) (by decide) ?_
      refine X_iload_n (pc := 17) (td kX12_lays0 11 rfl) rfl 1 rfl ?_
      refine X_bipush (v := (6 : Int32)) (pc := 18) (td kX12_lays0 12 rfl) (by decide) ?_
      refine X_irem2 (pc := 20) (td kX12_lays0 13 rfl) (by decide) ?_
      refine X_jn (P := fun k => ∀ (y2_50 : Int32), X (wsOf SHM) RX12 cX12_lays0 3 none 2 0 50 [(0, .ref 0), (1, .int x1_2)] [.int y2_50, .int x1_2, .ref 27] σ_2 (k y2_50)) (fun y2_50 => ?_) (fun k50 h50 => ?_)
      · refine X_iast (pc := 50) sM_27 (td kX12_lays0 30 rfl) (fun σ50 => ?_)
        refine X_iinc (v := (x1_2 + (1 : Int32))) (L' := [(1, .int (x1_2 + (1 : Int32))), (0, .ref 0)]) (pc := 51) (td kX12_lays0 31 rfl) 1 rfl rfl (by decide) rfl ?_
        refine X_goto (pc := 54) (tgt := 2) (td kX12_lays0 32 rfl) (by decide) ?_
        refine X_sub [1, 0] rfl ?_
        exact hrec2 (x1_2 + (1 : Int32)) σ50
      · refine X_icmp_ne (pc := 21) (tgt := 28) (td kX12_lays0 14 rfl) (by decide) (fun c_21 => ?_) (fun c_21 => ?_)
        · refine X_aload_n (pc := 28) (td kX12_lays0 17 rfl) rfl 0 rfl ?_
          refine X_iconst (v := (0 : Int32)) (pc := 29) (td kX12_lays0 18 rfl) (by decide) ?_
          refine X_iload_n (pc := 30) (td kX12_lays0 19 rfl) rfl 1 rfl ?_
          refine X_bipush (v := (6 : Int32)) (pc := 31) (td kX12_lays0 20 rfl) (by decide) ?_
          refine X_idiv (pc := 33) (td kX12_lays0 21 rfl) (by decide) ?_
          refine X_iload_n (pc := 34) (td kX12_lays0 22 rfl) rfl 1 rfl ?_
          refine X_bipush (v := (6 : Int32)) (pc := 35) (td kX12_lays0 23 rfl) (by decide) ?_
          refine X_irem2 (pc := 37) (td kX12_lays0 24 rfl) (by decide) ?_
          refine X_callip (pc := 38) (As := [.int (0 : Int32), .int (x1_2 / (6 : Int32)), .int (irm x1_2 (6 : Int32))]) (st := [.int x1_2, .ref 27]) (p_X12_laneOf (0 : Int32) (x1_2 / (6 : Int32)) (irm x1_2 (6 : Int32)) σ_2) sM_0 (x_X12_laneOf (0 : Int32) (x1_2 / (6 : Int32)) (irm x1_2 (6 : Int32)) σ_2) mkX12_laneOf lk_X12_321 (by omega) rfl rfl (Nat.le_of_ble_eq_true rfl) (td kX12_lays0 25 rfl) (fun r38 hr38 => ?_)
          refine X_if_lt (pc := 41) (tgt := 48) (td kX12_lays0 26 rfl) (by decide) (fun c_41 => ?_) (fun c_41 => ?_)
          · refine X_bipush (v := (99 : Int32)) (pc := 48) (td kX12_lays0 29 rfl) (by decide) ?_
            exact h50 (99 : Int32)
          · refine X_iconst (v := (1 : Int32)) (pc := 44) (td kX12_lays0 27 rfl) (by decide) ?_
            refine X_goto (pc := 45) (tgt := 50) (td kX12_lays0 28 rfl) (by decide) ?_
            exact h50 (1 : Int32)
        · refine X_iconst (v := (0 : Int32)) (pc := 24) (td kX12_lays0 15 rfl) (by decide) ?_
          refine X_goto (pc := 25) (tgt := 50) (td kX12_lays0 16 rfl) (by decide) ?_
          exact h50 (0 : Int32)
def F_X12_laysLit_56 (x2_20 : Int32) (k88 : Mm → Option (Int32 × Mm)) (rec56 : Int32 → Mm → Option (Int32 × Mm)) (x3_56 : Int32) (σ_56 : Mm) : Option (Int32 × Mm) := (if x3_56 < (31 : Int32) then cl (f_X12_burning σ_56) (fun r73 _ => ck (inb (((31 : Int32) * x2_20) + x3_56) 1984) (bn (pI σ_56 49 (((31 : Int32) * x2_20) + x3_56).toNatClampNeg r73) (fun σ76 => cl (f_X12_passes σ76) (fun r78 σ78 => rec56 (x3_56 + (1 : Int32)) σ78)))) else k88 σ_56)
def F_X12_laysLit_20 (v1_17 : Int32) (k113 : Mm → Option (Int32 × Mm)) (rec20 : Int32 → Mm → Option (Int32 × Mm)) (x2_20 : Int32) (σ_20 : Mm) : Option (Int32 × Mm) := (if v1_17 < x2_20 then k113 σ_20 else jn (fun (σ_107 : Mm) => rec20 (x2_20 + (1 : Int32)) σ_107) (fun k107 => (if (x2_20 &&& (v1_17 ^^^ (-1 : Int32))) = 0 then cl (f_X12_copies 36 (0 : Int32) 38 (0 : Int32) σ_20) (fun _ σ46 => bn (pI σ46 0 57 x2_20) (fun σ51 => jn (fun (σ_88 : Mm) => bn (pI σ_88 0 57 (63 : Int32)) (fun σ91 => cl (f_X12_copies 38 (0 : Int32) 36 (0 : Int32) σ91) (fun _ σ104 => k107 σ104))) (fun k88 => lq2 (F_X12_laysLit_56 x2_20 k88) 1000000 (0 : Int32) σ51))) else k107 σ_20)))
def f_X12_laysLit (σ : Mm) : Option (Int32 × Mm) := ck (inb (2 : Int32) 8) (cl (f_X12_homes σ) (fun r11 _ => bn ((((1 : Int32) <<< ((gI σ 2 (2 : Int32).toNatClampNeg) &&& 31)) - (1 : Int32)) &&& (r11 ^^^ (-1 : Int32))) (fun v1_17 => jn (fun (σ_113 : Mm) => some (0, σ_113)) (fun k113 => lq2 (F_X12_laysLit_20 v1_17 k113) 1000000 (0 : Int32) σ))))
set_option maxHeartbeats 4000000 in
set_option maxRecDepth 100000 in
theorem x_X12_laysLit (σ : Mm) : Con (wsOf SHM) yX12_laysLit cX12_laysLit 4 none 6 [.ref 0] σ (f_X12_laysLit σ) := by
  refine Con.of_X (by decide +kernel) (Nat.le_of_ble_eq_true rfl) ?_
  unfold f_X12_laysLit
  show X (wsOf SHM) RX12 cX12_laysLit 4 none 6 0 0 [(0, .ref 0)] [] σ _
  refine X_iconst (v := (1 : Int32)) (pc := 0) (td kX12_laysLit 0 rfl) (by decide) ?_
  refine X_aload_n (pc := 1) (td kX12_laysLit 1 rfl) rfl 0 rfl ?_
  refine X_getF (b := 2) (pc := 2) sM_0 rfl fk_X12_13 (td kX12_laysLit 2 rfl) ?_
  refine X_iconst (v := (2 : Int32)) (pc := 5) (td kX12_laysLit 3 rfl) (by decide) ?_
  refine X_iald (pc := 6) sM_2 (td kX12_laysLit 4 rfl) ?_
  refine X_ishl (pc := 7) (td kX12_laysLit 5 rfl) ?_
  refine X_iconst (v := (1 : Int32)) (pc := 8) (td kX12_laysLit 6 rfl) (by decide) ?_
  refine X_isub (pc := 9) (td kX12_laysLit 7 rfl) ?_
  refine X_aload_n (pc := 10) (td kX12_laysLit 8 rfl) rfl 0 rfl ?_
  refine X_callip (pc := 11) (As := []) (st := [.int (((1 : Int32) <<< ((gI σ 2 (2 : Int32).toNatClampNeg) &&& 31)) - (1 : Int32))]) (p_X12_homes σ) sM_0 (x_X12_homes σ) mkX12_homes lk_X12_390 (by omega) rfl rfl (Nat.le_of_ble_eq_true rfl) (td kX12_laysLit 9 rfl) (fun r11 hr11 => ?_)
  refine X_iconst (v := (-1 : Int32)) (pc := 14) (td kX12_laysLit 10 rfl) (by decide) ?_
  refine X_ixor (pc := 15) (td kX12_laysLit 11 rfl) ?_
  refine X_iand (pc := 16) (td kX12_laysLit 12 rfl) ?_
  refine X_bi (fun v1_17 => ?_)
  refine X_istore_n (L' := [(1, .int v1_17), (0, .ref 0)]) (pc := 17) (td kX12_laysLit 13 rfl) rfl (by decide) rfl ?_
  refine X_iconst (v := (0 : Int32)) (pc := 18) (td kX12_laysLit 14 rfl) (by decide) ?_
  refine X_istore_n (L' := [(2, .int (0 : Int32)), (1, .int v1_17), (0, .ref 0)]) (pc := 19) (td kX12_laysLit 15 rfl) rfl (by decide) rfl ?_
  refine X_jn (P := fun k => ∀ (σ_113 : Mm), X (wsOf SHM) RX12 cX12_laysLit 4 none 6 0 113 [] [] σ_113 (k σ_113)) (fun σ_113 => ?_) (fun k113 h113 => ?_)
  · exact X_retv (pc := 113) (td kX12_laysLit 68 rfl)
  · refine X_sub [2, 1, 0] rfl ?_
    refine lq2_ind (P := fun x2_20 σ_20 E => X (wsOf SHM) RX12 cX12_laysLit 4 none 6 0 20 [(0, .ref 0), (1, .int v1_17), (2, .int x2_20)] [] σ_20 E) (fun _ _ => X_none) (fun rec20 hrec20 x2_20 σ_20 => ?_) _ _ _
    unfold F_X12_laysLit_20
    refine X_iload_n (pc := 20) (td kX12_laysLit 16 rfl) rfl 2 rfl ?_
    refine X_iload_n (pc := 21) (td kX12_laysLit 17 rfl) rfl 1 rfl ?_
    refine X_icmp_gt (pc := 22) (tgt := 113) (td kX12_laysLit 18 rfl) (by decide) (fun c_22 => ?_) (fun c_22 => ?_)
    · refine X_sub [] rfl ?_
      exact h113 σ_20
    · refine X_iload_n (pc := 25) (td kX12_laysLit 19 rfl) rfl 2 rfl ?_
      refine X_iload_n (pc := 26) (td kX12_laysLit 20 rfl) rfl 1 rfl ?_
      refine X_iconst (v := (-1 : Int32)) (pc := 27) (td kX12_laysLit 21 rfl) (by decide) ?_
      refine X_ixor (pc := 28) (td kX12_laysLit 22 rfl) ?_
      refine X_iand (pc := 29) (td kX12_laysLit 23 rfl) ?_
      refine X_jn (P := fun k => ∀ (σ_107 : Mm), X (wsOf SHM) RX12 cX12_laysLit 4 none 6 0 107 [(0, .ref 0), (1, .int v1_17), (2, .int x2_20)] [] σ_107 (k σ_107)) (fun σ_107 => ?_) (fun k107 h107 => ?_)
      · refine X_iinc (v := (x2_20 + (1 : Int32))) (L' := [(2, .int (x2_20 + (1 : Int32))), (0, .ref 0), (1, .int v1_17)]) (pc := 107) (td kX12_laysLit 66 rfl) 2 rfl rfl (by decide) rfl ?_
        refine X_goto (pc := 110) (tgt := 20) (td kX12_laysLit 67 rfl) (by decide) ?_
        refine X_sub [1, 2, 0] rfl ?_
        exact hrec20 (x2_20 + (1 : Int32)) σ_107
      · refine X_if_eq (pc := 30) (tgt := 36) (td kX12_laysLit 24 rfl) (by decide) (fun c_30 => ?_) (fun c_30 => ?_)
        · refine X_aload_n (pc := 36) (td kX12_laysLit 26 rfl) rfl 0 rfl ?_
          refine X_getF (b := 36) (pc := 37) sM_0 rfl fk_X12_117 (td kX12_laysLit 27 rfl) ?_
          refine X_iconst (v := (0 : Int32)) (pc := 40) (td kX12_laysLit 28 rfl) (by decide) ?_
          refine X_aload_n (pc := 41) (td kX12_laysLit 29 rfl) rfl 0 rfl ?_
          refine X_getF (b := 38) (pc := 42) sM_0 rfl fk_X12_123 (td kX12_laysLit 30 rfl) ?_
          refine X_iconst (v := (0 : Int32)) (pc := 45) (td kX12_laysLit 31 rfl) (by decide) ?_
          refine X_callsv (pc := 46) (As := [.ref 36, .int (0 : Int32), .ref 38, .int (0 : Int32)]) (st := []) (x_X12_copies 36 (0 : Int32) 38 (0 : Int32) σ_20) mkX12_copies lk_X12_429 (by omega) rfl rfl (Nat.le_of_ble_eq_true rfl) (td kX12_laysLit 32 rfl) (fun _ σ46 _ => ?_)
          refine X_aload_n (pc := 49) (td kX12_laysLit 33 rfl) rfl 0 rfl ?_
          refine X_iload_n (pc := 50) (td kX12_laysLit 34 rfl) rfl 2 rfl ?_
          refine X_putI (pc := 51) sM_0 rfl fk_X12_135 rfl rfl (td kX12_laysLit 35 rfl) (fun σ51 => ?_)
          refine X_iconst (v := (0 : Int32)) (pc := 54) (td kX12_laysLit 36 rfl) (by decide) ?_
          refine X_istore_n (L' := [(3, .int (0 : Int32)), (0, .ref 0), (1, .int v1_17), (2, .int x2_20)]) (pc := 55) (td kX12_laysLit 37 rfl) rfl (by decide) rfl ?_
          refine X_jn (P := fun k => ∀ (σ_88 : Mm), X (wsOf SHM) RX12 cX12_laysLit 4 none 6 0 88 [(0, .ref 0), (1, .int v1_17), (2, .int x2_20)] [] σ_88 (k σ_88)) (fun σ_88 => ?_) (fun k88 h88 => ?_)
          · refine X_aload_n (pc := 88) (td kX12_laysLit 56 rfl) rfl 0 rfl ?_
            refine X_bipush (v := (63 : Int32)) (pc := 89) (td kX12_laysLit 57 rfl) (by decide) ?_
            refine X_putI (pc := 91) sM_0 rfl fk_X12_135 rfl rfl (td kX12_laysLit 58 rfl) (fun σ91 => ?_)
            refine X_aload_n (pc := 94) (td kX12_laysLit 59 rfl) rfl 0 rfl ?_
            refine X_getF (b := 38) (pc := 95) sM_0 rfl fk_X12_123 (td kX12_laysLit 60 rfl) ?_
            refine X_iconst (v := (0 : Int32)) (pc := 98) (td kX12_laysLit 61 rfl) (by decide) ?_
            refine X_aload_n (pc := 99) (td kX12_laysLit 62 rfl) rfl 0 rfl ?_
            refine X_getF (b := 36) (pc := 100) sM_0 rfl fk_X12_117 (td kX12_laysLit 63 rfl) ?_
            refine X_iconst (v := (0 : Int32)) (pc := 103) (td kX12_laysLit 64 rfl) (by decide) ?_
            refine X_callsv (pc := 104) (As := [.ref 38, .int (0 : Int32), .ref 36, .int (0 : Int32)]) (st := []) (x_X12_copies 38 (0 : Int32) 36 (0 : Int32) σ91) mkX12_copies lk_X12_429 (by omega) rfl rfl (Nat.le_of_ble_eq_true rfl) (td kX12_laysLit 65 rfl) (fun _ σ104 _ => ?_)
            exact h107 σ104
          · refine X_sub [1, 2, 3, 0] rfl ?_
            refine lq2_ind (P := fun x3_56 σ_56 E => X (wsOf SHM) RX12 cX12_laysLit 4 none 6 0 56 [(0, .ref 0), (1, .int v1_17), (2, .int x2_20), (3, .int x3_56)] [] σ_56 E) (fun _ _ => X_none) (fun rec56 hrec56 x3_56 σ_56 => ?_) _ _ _
            unfold F_X12_laysLit_56
            refine X_iload_n (pc := 56) (td kX12_laysLit 38 rfl) rfl 3 rfl ?_
            refine X_bipush (v := (31 : Int32)) (pc := 57) (td kX12_laysLit 39 rfl) (by decide) ?_
            refine X_icmp_ge (pc := 59) (tgt := 88) (td kX12_laysLit 40 rfl) (by decide) (fun c_59 => ?_) (fun c_59 => ?_)
            · refine X_sub [0, 1, 2] rfl ?_
              exact h88 σ_56
            · refine X_aload_n (pc := 62) (td kX12_laysLit 41 rfl) rfl 0 rfl ?_
              refine X_getF (b := 49) (pc := 63) sM_0 rfl fk_X12_160 (td kX12_laysLit 42 rfl) ?_
              refine X_bipush (v := (31 : Int32)) (pc := 66) (td kX12_laysLit 43 rfl) (by decide) ?_
              refine X_iload_n (pc := 68) (td kX12_laysLit 44 rfl) rfl 2 rfl ?_
              refine X_imul (pc := 69) (td kX12_laysLit 45 rfl) ?_
              refine X_iload_n (pc := 70) (td kX12_laysLit 46 rfl) rfl 3 rfl ?_
              refine X_iadd (pc := 71) (td kX12_laysLit 47 rfl) ?_
              refine X_aload_n (pc := 72) (td kX12_laysLit 48 rfl) rfl 0 rfl ?_
              refine X_callip (pc := 73) (As := []) (st := [.int (((31 : Int32) * x2_20) + x3_56), .ref 49]) (p_X12_burning σ_56) sM_0 (x_X12_burning σ_56) mkX12_burning lk_X12_451 (by omega) rfl rfl (Nat.le_of_ble_eq_true rfl) (td kX12_laysLit 49 rfl) (fun r73 hr73 => ?_)
              refine X_iast (pc := 76) sM_49 (td kX12_laysLit 50 rfl) (fun σ76 => ?_)
              refine X_aload_n (pc := 77) (td kX12_laysLit 51 rfl) rfl 0 rfl ?_
              refine X_calli (pc := 78) (As := []) (st := []) sM_0 (x_X12_passes σ76) mkX12_passes lk_X12_436 (by omega) rfl rfl (Nat.le_of_ble_eq_true rfl) (td kX12_laysLit 52 rfl) (fun r78 σ78 _ hr78 => ?_)
              refine X_pop (pc := 81) (td kX12_laysLit 53 rfl) rfl ?_
              refine X_iinc (v := (x3_56 + (1 : Int32))) (L' := [(3, .int (x3_56 + (1 : Int32))), (0, .ref 0), (1, .int v1_17), (2, .int x2_20)]) (pc := 82) (td kX12_laysLit 54 rfl) 3 rfl rfl (by decide) rfl ?_
              refine X_goto (pc := 85) (tgt := 56) (td kX12_laysLit 55 rfl) (by decide) ?_
              refine X_sub [1, 2, 3, 0] rfl ?_
              exact hrec56 (x3_56 + (1 : Int32)) σ78
        · refine X_goto (pc := 33) (tgt := 107) (td kX12_laysLit 25 rfl) (by decide) ?_
          exact h107 σ_20
def F_X12_laysWatched_14 (p1 : Int32) (p2 : Int32) (k92 : Mm → Option (Int32 × Mm)) (rec14 : Int32 → Mm → Option (Int32 × Mm)) (x3_14 : Int32) (σ_14 : Mm) : Option (Int32 × Mm) := (if x3_14 < (6 : Int32) then bn (((6 : Int32) * p1) + x3_14) (fun i_40 => ck (inb i_40 30) (ck (inb (((6 : Int32) * p2) + x3_14) 30) (bn (pI σ_14 33 (((6 : Int32) * p2) + x3_14).toNatClampNeg (gI σ_14 33 i_40.toNatClampNeg)) (fun σ41 => bn (((6 : Int32) * p1) + x3_14) (fun i_62 => ck (inb i_62 30) (ck (inb (((6 : Int32) * p2) + x3_14) 30) (bn (pI σ41 34 (((6 : Int32) * p2) + x3_14).toNatClampNeg (gI σ41 34 i_62.toNatClampNeg)) (fun σ63 => bn (((6 : Int32) * p1) + x3_14) (fun i_84 => ck (inb i_84 30) (ck (inb (((6 : Int32) * p2) + x3_14) 30) (bn (pI σ63 35 (((6 : Int32) * p2) + x3_14).toNatClampNeg (vp_nar .boolean (gI σ63 35 i_84.toNatClampNeg))) (fun σ85 => rec14 (x3_14 + (1 : Int32)) σ85)))))))))))) else k92 σ_14)
def f_X12_laysWatched (p1 : Int32) (p2 : Int32) (σ : Mm) : Option (Int32 × Mm) := ck (inb p1 5) (ck (inb p2 5) (bn (pI σ 32 p2.toNatClampNeg (gI σ 32 p1.toNatClampNeg)) (fun σ11 => jn (fun (σ_92 : Mm) => some (0, σ_92)) (fun k92 => lq2 (F_X12_laysWatched_14 p1 p2 k92) 1000000 (0 : Int32) σ11))))
set_option maxHeartbeats 4000000 in
set_option maxRecDepth 100000 in
theorem x_X12_laysWatched (p1 : Int32) (p2 : Int32) (σ : Mm) : Con (wsOf SHM) yX12_laysWatched cX12_laysWatched 4 none 1 [.ref 0, .int p1, .int p2] σ (f_X12_laysWatched p1 p2 σ) := by
  refine Con.of_X (by decide +kernel) (Nat.le_of_ble_eq_true rfl) ?_
  unfold f_X12_laysWatched
  show X (wsOf SHM) RX12 cX12_laysWatched 4 none 1 0 0 [(0, .ref 0), (1, .int p1), (2, .int p2)] [] σ _
  refine X_aload_n (pc := 0) (td kX12_laysWatched 0 rfl) rfl 0 rfl ?_
  refine X_getF (b := 32) (pc := 1) sM_0 rfl fk_X12_105 (td kX12_laysWatched 1 rfl) ?_
  refine X_iload_n (pc := 4) (td kX12_laysWatched 2 rfl) rfl 2 rfl ?_
  refine X_aload_n (pc := 5) (td kX12_laysWatched 3 rfl) rfl 0 rfl ?_
  refine X_getF (b := 32) (pc := 6) sM_0 rfl fk_X12_105 (td kX12_laysWatched 4 rfl) ?_
  refine X_iload_n (pc := 9) (td kX12_laysWatched 5 rfl) rfl 1 rfl ?_
  refine X_iald (pc := 10) sM_32 (td kX12_laysWatched 6 rfl) ?_
  refine X_iast (pc := 11) sM_32 (td kX12_laysWatched 7 rfl) (fun σ11 => ?_)
  refine X_iconst (v := (0 : Int32)) (pc := 12) (td kX12_laysWatched 8 rfl) (by decide) ?_
  refine X_istore_n (L' := [(3, .int (0 : Int32)), (0, .ref 0), (1, .int p1), (2, .int p2)]) (pc := 13) (td kX12_laysWatched 9 rfl) rfl (by decide) rfl ?_
  refine X_jn (P := fun k => ∀ (σ_92 : Mm), X (wsOf SHM) RX12 cX12_laysWatched 4 none 1 0 92 [] [] σ_92 (k σ_92)) (fun σ_92 => ?_) (fun k92 h92 => ?_)
  · exact X_retv (pc := 92) (td kX12_laysWatched 63 rfl)
  · refine X_sub [1, 2, 3, 0] rfl ?_
    refine lq2_ind (P := fun x3_14 σ_14 E => X (wsOf SHM) RX12 cX12_laysWatched 4 none 1 0 14 [(0, .ref 0), (1, .int p1), (2, .int p2), (3, .int x3_14)] [] σ_14 E) (fun _ _ => X_none) (fun rec14 hrec14 x3_14 σ_14 => ?_) _ _ _
    unfold F_X12_laysWatched_14
    refine X_iload_n (pc := 14) (td kX12_laysWatched 10 rfl) rfl 3 rfl ?_
    refine X_bipush (v := (6 : Int32)) (pc := 15) (td kX12_laysWatched 11 rfl) (by decide) ?_
    refine X_icmp_ge (pc := 17) (tgt := 92) (td kX12_laysWatched 12 rfl) (by decide) (fun c_17 => ?_) (fun c_17 => ?_)
    · refine X_sub [] rfl ?_
      exact h92 σ_14
    · refine X_aload_n (pc := 20) (td kX12_laysWatched 13 rfl) rfl 0 rfl ?_
      refine X_getF (b := 33) (pc := 21) sM_0 rfl fk_X12_108 (td kX12_laysWatched 14 rfl) ?_
      refine X_bipush (v := (6 : Int32)) (pc := 24) (td kX12_laysWatched 15 rfl) (by decide) ?_
      refine X_iload_n (pc := 26) (td kX12_laysWatched 16 rfl) rfl 2 rfl ?_
      refine X_imul (pc := 27) (td kX12_laysWatched 17 rfl) ?_
      refine X_iload_n (pc := 28) (td kX12_laysWatched 18 rfl) rfl 3 rfl ?_
      refine X_iadd (pc := 29) (td kX12_laysWatched 19 rfl) ?_
      refine X_aload_n (pc := 30) (td kX12_laysWatched 20 rfl) rfl 0 rfl ?_
      refine X_getF (b := 33) (pc := 31) sM_0 rfl fk_X12_108 (td kX12_laysWatched 21 rfl) ?_
      refine X_bipush (v := (6 : Int32)) (pc := 34) (td kX12_laysWatched 22 rfl) (by decide) ?_
      refine X_iload_n (pc := 36) (td kX12_laysWatched 23 rfl) rfl 1 rfl ?_
      refine X_imul (pc := 37) (td kX12_laysWatched 24 rfl) ?_
      refine X_iload_n (pc := 38) (td kX12_laysWatched 25 rfl) rfl 3 rfl ?_
      refine X_iadd (pc := 39) (td kX12_laysWatched 26 rfl) ?_
      refine X_bi (fun i_40 => ?_)
      refine X_iald (pc := 40) sM_33 (td kX12_laysWatched 27 rfl) ?_
      refine X_iast (pc := 41) sM_33 (td kX12_laysWatched 28 rfl) (fun σ41 => ?_)
      refine X_aload_n (pc := 42) (td kX12_laysWatched 29 rfl) rfl 0 rfl ?_
      refine X_getF (b := 34) (pc := 43) sM_0 rfl fk_X12_111 (td kX12_laysWatched 30 rfl) ?_
      refine X_bipush (v := (6 : Int32)) (pc := 46) (td kX12_laysWatched 31 rfl) (by decide) ?_
      refine X_iload_n (pc := 48) (td kX12_laysWatched 32 rfl) rfl 2 rfl ?_
      refine X_imul (pc := 49) (td kX12_laysWatched 33 rfl) ?_
      refine X_iload_n (pc := 50) (td kX12_laysWatched 34 rfl) rfl 3 rfl ?_
      refine X_iadd (pc := 51) (td kX12_laysWatched 35 rfl) ?_
      refine X_aload_n (pc := 52) (td kX12_laysWatched 36 rfl) rfl 0 rfl ?_
      refine X_getF (b := 34) (pc := 53) sM_0 rfl fk_X12_111 (td kX12_laysWatched 37 rfl) ?_
      refine X_bipush (v := (6 : Int32)) (pc := 56) (td kX12_laysWatched 38 rfl) (by decide) ?_
      refine X_iload_n (pc := 58) (td kX12_laysWatched 39 rfl) rfl 1 rfl ?_
      refine X_imul (pc := 59) (td kX12_laysWatched 40 rfl) ?_
      refine X_iload_n (pc := 60) (td kX12_laysWatched 41 rfl) rfl 3 rfl ?_
      refine X_iadd (pc := 61) (td kX12_laysWatched 42 rfl) ?_
      refine X_bi (fun i_62 => ?_)
      refine X_iald (pc := 62) sM_34 (td kX12_laysWatched 43 rfl) ?_
      refine X_iast (pc := 63) sM_34 (td kX12_laysWatched 44 rfl) (fun σ63 => ?_)
      refine X_aload_n (pc := 64) (td kX12_laysWatched 45 rfl) rfl 0 rfl ?_
      refine X_getF (b := 35) (pc := 65) sM_0 rfl fk_X12_114 (td kX12_laysWatched 46 rfl) ?_
      refine X_bipush (v := (6 : Int32)) (pc := 68) (td kX12_laysWatched 47 rfl) (by decide) ?_
      refine X_iload_n (pc := 70) (td kX12_laysWatched 48 rfl) rfl 2 rfl ?_
      refine X_imul (pc := 71) (td kX12_laysWatched 49 rfl) ?_
      refine X_iload_n (pc := 72) (td kX12_laysWatched 50 rfl) rfl 3 rfl ?_
      refine X_iadd (pc := 73) (td kX12_laysWatched 51 rfl) ?_
      refine X_aload_n (pc := 74) (td kX12_laysWatched 52 rfl) rfl 0 rfl ?_
      refine X_getF (b := 35) (pc := 75) sM_0 rfl fk_X12_114 (td kX12_laysWatched 53 rfl) ?_
      refine X_bipush (v := (6 : Int32)) (pc := 78) (td kX12_laysWatched 54 rfl) (by decide) ?_
      refine X_iload_n (pc := 80) (td kX12_laysWatched 55 rfl) rfl 1 rfl ?_
      refine X_imul (pc := 81) (td kX12_laysWatched 56 rfl) ?_
      refine X_iload_n (pc := 82) (td kX12_laysWatched 57 rfl) rfl 3 rfl ?_
      refine X_iadd (pc := 83) (td kX12_laysWatched 58 rfl) ?_
      refine X_bi (fun i_84 => ?_)
      refine X_zald (pc := 84) sM_35 (td kX12_laysWatched 59 rfl) ?_
      refine X_zast (pc := 85) sM_35 (td kX12_laysWatched 60 rfl) (fun σ85 => ?_)
      refine X_iinc (v := (x3_14 + (1 : Int32))) (L' := [(3, .int (x3_14 + (1 : Int32))), (0, .ref 0), (1, .int p1), (2, .int p2)]) (pc := 86) (td kX12_laysWatched 61 rfl) 3 rfl rfl (by decide) rfl ?_
      refine X_goto (pc := 89) (tgt := 14) (td kX12_laysWatched 62 rfl) (by decide) ?_
      refine X_sub [1, 2, 3, 0] rfl ?_
      exact hrec14 (x3_14 + (1 : Int32)) σ85
def f_X12_longer (p1 : Int32) (σ : Mm) : Option (Int32 × Mm) := bn (pI σ 0 0 (0 : Int32)) (fun σ2 => cl (f_X12_within p1 (0 : Int32) (9 : Int32) σ2) (fun r9 _ => (if r9 = 0 then some ((-1 : Int32), σ2) else bn (pI σ2 0 56 p1) (fun σ19 => cl (f_X12_tries σ19) (fun _ σ23 => bn (pI σ23 0 56 (0 : Int32)) (fun σ28 => some ((gI σ28 0 61), σ28)))))))
set_option maxHeartbeats 4000000 in
set_option maxRecDepth 100000 in
theorem x_X12_longer (p1 : Int32) (σ : Mm) : Con (wsOf SHM) yX12_longer cX12_longer 2 (some .int) 8 [.ref 0, .int p1] σ (f_X12_longer p1 σ) := by
  refine Con.of_X (by decide +kernel) (Nat.le_of_ble_eq_true rfl) ?_
  unfold f_X12_longer
  show X (wsOf SHM) RX12 cX12_longer 2 (some .int) 8 0 0 [(0, .ref 0), (1, .int p1)] [] σ _
  refine X_aload_n (pc := 0) (td kX12_longer 0 rfl) rfl 0 rfl ?_
  refine X_iconst (v := (0 : Int32)) (pc := 1) (td kX12_longer 1 rfl) (by decide) ?_
  refine X_putI (pc := 2) sM_0 rfl fk_X12_169 rfl rfl (td kX12_longer 2 rfl) (fun σ2 => ?_)
  refine X_iload_n (pc := 5) (td kX12_longer 3 rfl) rfl 1 rfl ?_
  refine X_iconst (v := (0 : Int32)) (pc := 6) (td kX12_longer 4 rfl) (by decide) ?_
  refine X_bipush (v := (9 : Int32)) (pc := 7) (td kX12_longer 5 rfl) (by decide) ?_
  refine X_callsip (pc := 9) (As := [.int p1, .int (0 : Int32), .int (9 : Int32)]) (st := []) (p_X12_within p1 (0 : Int32) (9 : Int32) σ2) (x_X12_within p1 (0 : Int32) (9 : Int32) σ2) mkX12_within lk_X12_287 (by omega) rfl rfl (Nat.le_of_ble_eq_true rfl) (td kX12_longer 6 rfl) (fun r9 hr9 => ?_)
  refine X_if_ne (pc := 12) (tgt := 17) (td kX12_longer 7 rfl) (by decide) (fun c_12 => ?_) (fun c_12 => ?_)
  · refine X_aload_n (pc := 17) (td kX12_longer 10 rfl) rfl 0 rfl ?_
    refine X_iload_n (pc := 18) (td kX12_longer 11 rfl) rfl 1 rfl ?_
    refine X_putI (pc := 19) sM_0 rfl fk_X12_396 rfl rfl (td kX12_longer 12 rfl) (fun σ19 => ?_)
    refine X_aload_n (pc := 22) (td kX12_longer 13 rfl) rfl 0 rfl ?_
    refine X_callv (pc := 23) (As := []) (st := []) sM_0 (x_X12_tries σ19) mkX12_tries lk_X12_478 (by omega) rfl rfl (Nat.le_of_ble_eq_true rfl) (td kX12_longer 14 rfl) (fun _ σ23 _ => ?_)
    refine X_aload_n (pc := 26) (td kX12_longer 15 rfl) rfl 0 rfl ?_
    refine X_iconst (v := (0 : Int32)) (pc := 27) (td kX12_longer 16 rfl) (by decide) ?_
    refine X_putI (pc := 28) sM_0 rfl fk_X12_396 rfl rfl (td kX12_longer 17 rfl) (fun σ28 => ?_)
    refine X_aload_n (pc := 31) (td kX12_longer 18 rfl) rfl 0 rfl ?_
    refine X_getI (pc := 32) sM_0 rfl fk_X12_457 (td kX12_longer 19 rfl) ?_
    exact X_ret (pc := 35) (td kX12_longer 20 rfl) rfl
  · refine X_iconst (v := (-1 : Int32)) (pc := 15) (td kX12_longer 8 rfl) (by decide) ?_
    exact X_ret (pc := 16) (td kX12_longer 9 rfl) rfl
def F_X12_sets_49 (v2_33 : Int32) (σ35 : Mm) (k99 : Int32 → Int32 → Int32 → Option (Int32 × Mm)) (rec49 : Int32 → Int32 → Int32 → Int32 → Option (Int32 × Mm)) (x3_49 : Int32) (x4_49 : Int32) (x5_49 : Int32) (x6_49 : Int32) : Option (Int32 × Mm) := (if v2_33 < x6_49 then k99 x3_49 x4_49 x5_49 else jn (fun (x3_93 : Int32) (x4_93 : Int32) (x5_93 : Int32) => rec49 x3_93 x4_93 x5_93 (x6_49 + (1 : Int32))) (fun k93 => (if (x6_49 &&& (v2_33 ^^^ (-1 : Int32))) = 0 then cl (f_X12_isAsWatched x6_49 σ35) (fun r67 _ => (if r67 = 0 then k93 x3_49 x4_49 x5_49 else bn (x4_49 &&& x6_49) (fun v4_84 => bn (x5_49 ||| x6_49) (fun v5_91 => k93 (x3_49 + (1 : Int32)) v4_84 v5_91)))) else k93 x3_49 x4_49 x5_49)))
def f_X12_sets (p1 : Int32) (σ : Mm) : Option (Int32 × Mm) := bn (pI σ 0 0 (0 : Int32)) (fun σ2 => cl (f_X12_within p1 (0 : Int32) (2 : Int32) σ2) (fun r8 _ => (if r8 = 0 then some ((-1 : Int32), σ2) else ck (inb (2 : Int32) 8) (cl (f_X12_homes σ2) (fun r27 _ => bn ((((1 : Int32) <<< ((gI σ2 2 (2 : Int32).toNatClampNeg) &&& 31)) - (1 : Int32)) &&& (r27 ^^^ (-1 : Int32))) (fun v2_33 => cl (f_X12_laysLit σ2) (fun _ σ35 => jn (fun (x3_99 : Int32) (x4_99 : Int32) (x5_99 : Int32) => jn ((if p1 = 0 then some (x3_99, σ35) else some ((-1 : Int32), σ35))) (fun k107 => (if x3_99 = 0 then k107 else (if p1 = 0 then k107 else (if p1 = (1 : Int32) then some (x4_99, σ35) else some (x5_99, σ35)))))) (fun k99 => lq4 (F_X12_sets_49 v2_33 σ35 k99) 1000000 (0 : Int32) v2_33 (0 : Int32) (0 : Int32)))))))))
set_option maxHeartbeats 4000000 in
set_option maxRecDepth 100000 in
theorem x_X12_sets (p1 : Int32) (σ : Mm) : Con (wsOf SHM) yX12_sets cX12_sets 7 (some .int) 7 [.ref 0, .int p1] σ (f_X12_sets p1 σ) := by
  refine Con.of_X (by decide +kernel) (Nat.le_of_ble_eq_true rfl) ?_
  unfold f_X12_sets
  show X (wsOf SHM) RX12 cX12_sets 7 (some .int) 7 0 0 [(0, .ref 0), (1, .int p1)] [] σ _
  refine X_aload_n (pc := 0) (td kX12_sets 0 rfl) rfl 0 rfl ?_
  refine X_iconst (v := (0 : Int32)) (pc := 1) (td kX12_sets 1 rfl) (by decide) ?_
  refine X_putI (pc := 2) sM_0 rfl fk_X12_169 rfl rfl (td kX12_sets 2 rfl) (fun σ2 => ?_)
  refine X_iload_n (pc := 5) (td kX12_sets 3 rfl) rfl 1 rfl ?_
  refine X_iconst (v := (0 : Int32)) (pc := 6) (td kX12_sets 4 rfl) (by decide) ?_
  refine X_iconst (v := (2 : Int32)) (pc := 7) (td kX12_sets 5 rfl) (by decide) ?_
  refine X_callsip (pc := 8) (As := [.int p1, .int (0 : Int32), .int (2 : Int32)]) (st := []) (p_X12_within p1 (0 : Int32) (2 : Int32) σ2) (x_X12_within p1 (0 : Int32) (2 : Int32) σ2) mkX12_within lk_X12_287 (by omega) rfl rfl (Nat.le_of_ble_eq_true rfl) (td kX12_sets 6 rfl) (fun r8 hr8 => ?_)
  refine X_if_ne (pc := 11) (tgt := 16) (td kX12_sets 7 rfl) (by decide) (fun c_11 => ?_) (fun c_11 => ?_)
  · refine X_iconst (v := (1 : Int32)) (pc := 16) (td kX12_sets 10 rfl) (by decide) ?_
    refine X_aload_n (pc := 17) (td kX12_sets 11 rfl) rfl 0 rfl ?_
    refine X_getF (b := 2) (pc := 18) sM_0 rfl fk_X12_13 (td kX12_sets 12 rfl) ?_
    refine X_iconst (v := (2 : Int32)) (pc := 21) (td kX12_sets 13 rfl) (by decide) ?_
    refine X_iald (pc := 22) sM_2 (td kX12_sets 14 rfl) ?_
    refine X_ishl (pc := 23) (td kX12_sets 15 rfl) ?_
    refine X_iconst (v := (1 : Int32)) (pc := 24) (td kX12_sets 16 rfl) (by decide) ?_
    refine X_isub (pc := 25) (td kX12_sets 17 rfl) ?_
    refine X_aload_n (pc := 26) (td kX12_sets 18 rfl) rfl 0 rfl ?_
    refine X_callip (pc := 27) (As := []) (st := [.int (((1 : Int32) <<< ((gI σ2 2 (2 : Int32).toNatClampNeg) &&& 31)) - (1 : Int32))]) (p_X12_homes σ2) sM_0 (x_X12_homes σ2) mkX12_homes lk_X12_390 (by omega) rfl rfl (Nat.le_of_ble_eq_true rfl) (td kX12_sets 19 rfl) (fun r27 hr27 => ?_)
    refine X_iconst (v := (-1 : Int32)) (pc := 30) (td kX12_sets 20 rfl) (by decide) ?_
    refine X_ixor (pc := 31) (td kX12_sets 21 rfl) ?_
    refine X_iand (pc := 32) (td kX12_sets 22 rfl) ?_
    refine X_bi (fun v2_33 => ?_)
    refine X_istore_n (L' := [(2, .int v2_33), (0, .ref 0), (1, .int p1)]) (pc := 33) (td kX12_sets 23 rfl) rfl (by decide) rfl ?_
    refine X_aload_n (pc := 34) (td kX12_sets 24 rfl) rfl 1 rfl ?_
    refine X_callv (pc := 35) (As := []) (st := []) sM_0 (x_X12_laysLit σ2) mkX12_laysLit lk_X12_493 (by omega) rfl rfl (Nat.le_of_ble_eq_true rfl) (td kX12_sets 25 rfl) (fun _ σ35 _ => ?_)
    refine X_iconst (v := (0 : Int32)) (pc := 38) (td kX12_sets 26 rfl) (by decide) ?_
    refine X_istore_n (L' := [(3, .int (0 : Int32)), (2, .int v2_33), (0, .ref 0), (1, .int p1)]) (pc := 39) (td kX12_sets 27 rfl) rfl (by decide) rfl ?_
    refine X_iload_n (pc := 40) (td kX12_sets 28 rfl) rfl 1 rfl ?_
    refine X_istore (L' := [(4, .int v2_33), (3, .int (0 : Int32)), (2, .int v2_33), (0, .ref 0), (1, .int p1)]) (pc := 41) (td kX12_sets 29 rfl) (by decide) rfl ?_
    refine X_iconst (v := (0 : Int32)) (pc := 43) (td kX12_sets 30 rfl) (by decide) ?_
    refine X_istore (L' := [(5, .int (0 : Int32)), (4, .int v2_33), (3, .int (0 : Int32)), (2, .int v2_33), (0, .ref 0), (1, .int p1)]) (pc := 44) (td kX12_sets 31 rfl) (by decide) rfl ?_
    refine X_iconst (v := (0 : Int32)) (pc := 46) (td kX12_sets 32 rfl) (by decide) ?_
    refine X_istore (L' := [(6, .int (0 : Int32)), (5, .int (0 : Int32)), (4, .int v2_33), (3, .int (0 : Int32)), (2, .int v2_33), (0, .ref 0), (1, .int p1)]) (pc := 47) (td kX12_sets 33 rfl) (by decide) rfl ?_
    refine X_jn (P := fun k => ∀ (x3_99 : Int32) (x4_99 : Int32) (x5_99 : Int32), X (wsOf SHM) RX12 cX12_sets 7 (some .int) 7 0 99 [(1, .int p1), (3, .int x3_99), (4, .int x4_99), (5, .int x5_99)] [] σ35 (k x3_99 x4_99 x5_99)) (fun x3_99 x4_99 x5_99 => ?_) (fun k99 h99 => ?_)
    · refine X_iload_n (pc := 99) (td kX12_sets 59 rfl) rfl 1 rfl ?_
      refine X_jn (P := fun k => X (wsOf SHM) RX12 cX12_sets 7 (some .int) 7 0 107 [(1, .int p1), (3, .int x3_99)] [] σ35 k) ?_ (fun k107 h107 => ?_)
      · refine X_iload_n (pc := 107) (td kX12_sets 63 rfl) rfl 0 rfl ?_
        refine X_if_ne (pc := 108) (tgt := 115) (td kX12_sets 64 rfl) (by decide) (fun c_108 => ?_) (fun c_108 => ?_)
        · refine X_iconst (v := (-1 : Int32)) (pc := 115) (td kX12_sets 67 rfl) (by decide) ?_
          exact X_ret (pc := 116) (td kX12_sets 68 rfl) rfl
        · refine X_iload_n (pc := 111) (td kX12_sets 65 rfl) rfl 1 rfl ?_
          refine X_goto (pc := 112) (tgt := 116) (td kX12_sets 66 rfl) (by decide) ?_
          exact X_ret (pc := 116) (td kX12_sets 68 rfl) rfl
      · refine X_if_eq (pc := 100) (tgt := 107) (td kX12_sets 60 rfl) (by decide) (fun c_100 => ?_) (fun c_100 => ?_)
        · refine X_sub [0, 1] rfl ?_
          exact h107
        · refine X_iload_n (pc := 103) (td kX12_sets 61 rfl) rfl 0 rfl ?_
          refine X_if_ne (pc := 104) (tgt := 117) (td kX12_sets 62 rfl) (by decide) (fun c_104 => ?_) (fun c_104 => ?_)
          · refine X_iload_n (pc := 117) (td kX12_sets 69 rfl) rfl 0 rfl ?_
            refine X_iconst (v := (1 : Int32)) (pc := 118) (td kX12_sets 70 rfl) (by decide) ?_
            refine X_icmp_ne (pc := 119) (tgt := 127) (td kX12_sets 71 rfl) (by decide) (fun c_119 => ?_) (fun c_119 => ?_)
            · refine X_iload (pc := 127) (td kX12_sets 74 rfl) 3 rfl ?_
              exact X_ret (pc := 129) (td kX12_sets 75 rfl) rfl
            · refine X_iload (pc := 122) (td kX12_sets 72 rfl) 2 rfl ?_
              refine X_goto (pc := 124) (tgt := 129) (td kX12_sets 73 rfl) (by decide) ?_
              exact X_ret (pc := 129) (td kX12_sets 75 rfl) rfl
          · refine X_sub [0, 1] rfl ?_
            exact h107
    · refine X_sub [5, 6, 4, 3, 2, 1, 0] rfl ?_
      refine lq4_ind (P := fun x3_49 x4_49 x5_49 x6_49 E => X (wsOf SHM) RX12 cX12_sets 7 (some .int) 7 0 49 [(0, .ref 0), (1, .int p1), (2, .int v2_33), (3, .int x3_49), (4, .int x4_49), (5, .int x5_49), (6, .int x6_49)] [] σ35 E) (fun _ _ _ _ => X_none) (fun rec49 hrec49 x3_49 x4_49 x5_49 x6_49 => ?_) _ _ _ _ _
      unfold F_X12_sets_49
      refine X_iload (pc := 49) (td kX12_sets 34 rfl) 6 rfl ?_
      refine X_iload_n (pc := 51) (td kX12_sets 35 rfl) rfl 2 rfl ?_
      refine X_icmp_gt (pc := 52) (tgt := 99) (td kX12_sets 36 rfl) (by decide) (fun c_52 => ?_) (fun c_52 => ?_)
      · refine X_sub [1, 3, 4, 5] rfl ?_
        exact h99 x3_49 x4_49 x5_49
      · refine X_iload (pc := 55) (td kX12_sets 37 rfl) 6 rfl ?_
        refine X_iload_n (pc := 57) (td kX12_sets 38 rfl) rfl 2 rfl ?_
        refine X_iconst (v := (-1 : Int32)) (pc := 58) (td kX12_sets 39 rfl) (by decide) ?_
        refine X_ixor (pc := 59) (td kX12_sets 40 rfl) ?_
        refine X_iand (pc := 60) (td kX12_sets 41 rfl) ?_
        refine X_jn (P := fun k => ∀ (x3_93 : Int32) (x4_93 : Int32) (x5_93 : Int32), X (wsOf SHM) RX12 cX12_sets 7 (some .int) 7 0 93 [(0, .ref 0), (1, .int p1), (2, .int v2_33), (3, .int x3_93), (4, .int x4_93), (5, .int x5_93), (6, .int x6_49)] [] σ35 (k x3_93 x4_93 x5_93)) (fun x3_93 x4_93 x5_93 => ?_) (fun k93 h93 => ?_)
        · refine X_iinc (v := (x6_49 + (1 : Int32))) (L' := [(6, .int (x6_49 + (1 : Int32))), (0, .ref 0), (1, .int p1), (2, .int v2_33), (3, .int x3_93), (4, .int x4_93), (5, .int x5_93)]) (pc := 93) (td kX12_sets 57 rfl) 6 rfl rfl (by decide) rfl ?_
          refine X_goto (pc := 96) (tgt := 49) (td kX12_sets 58 rfl) (by decide) ?_
          refine X_sub [1, 2, 3, 4, 5, 6, 0] rfl ?_
          exact hrec49 x3_93 x4_93 x5_93 (x6_49 + (1 : Int32))
        · refine X_if_ne (pc := 61) (tgt := 93) (td kX12_sets 42 rfl) (by decide) (fun c_61 => ?_) (fun c_61 => ?_)
          · exact h93 x3_49 x4_49 x5_49
          · refine X_aload_n (pc := 64) (td kX12_sets 43 rfl) rfl 0 rfl ?_
            refine X_iload (pc := 65) (td kX12_sets 44 rfl) 6 rfl ?_
            refine X_callip (pc := 67) (As := [.int x6_49]) (st := []) (p_X12_isAsWatched x6_49 σ35) sM_0 (x_X12_isAsWatched x6_49 σ35) mkX12_isAsWatched lk_X12_496 (by omega) rfl rfl (Nat.le_of_ble_eq_true rfl) (td kX12_sets 45 rfl) (fun r67 hr67 => ?_)
            refine X_if_ne (pc := 70) (tgt := 76) (td kX12_sets 46 rfl) (by decide) (fun c_70 => ?_) (fun c_70 => ?_)
            · refine X_iinc (v := (x3_49 + (1 : Int32))) (L' := [(3, .int (x3_49 + (1 : Int32))), (0, .ref 0), (1, .int p1), (2, .int v2_33), (4, .int x4_49), (5, .int x5_49), (6, .int x6_49)]) (pc := 76) (td kX12_sets 48 rfl) 3 rfl rfl (by decide) rfl ?_
              refine X_iload (pc := 79) (td kX12_sets 49 rfl) 4 rfl ?_
              refine X_iload (pc := 81) (td kX12_sets 50 rfl) 6 rfl ?_
              refine X_iand (pc := 83) (td kX12_sets 51 rfl) ?_
              refine X_bi (fun v4_84 => ?_)
              refine X_istore (L' := [(4, .int v4_84), (3, .int (x3_49 + (1 : Int32))), (0, .ref 0), (1, .int p1), (2, .int v2_33), (5, .int x5_49), (6, .int x6_49)]) (pc := 84) (td kX12_sets 52 rfl) (by decide) rfl ?_
              refine X_iload (pc := 86) (td kX12_sets 53 rfl) 5 rfl ?_
              refine X_iload (pc := 88) (td kX12_sets 54 rfl) 6 rfl ?_
              refine X_ior (pc := 90) (td kX12_sets 55 rfl) ?_
              refine X_bi (fun v5_91 => ?_)
              refine X_istore (L' := [(5, .int v5_91), (4, .int v4_84), (3, .int (x3_49 + (1 : Int32))), (0, .ref 0), (1, .int p1), (2, .int v2_33), (6, .int x6_49)]) (pc := 91) (td kX12_sets 56 rfl) (by decide) rfl ?_
              refine X_sub [3, 4, 5, 2, 1, 0, 6] rfl ?_
              exact h93 (x3_49 + (1 : Int32)) v4_84 v5_91
            · refine X_goto (pc := 73) (tgt := 93) (td kX12_sets 47 rfl) (by decide) ?_
              exact h93 x3_49 x4_49 x5_49
  · refine X_iconst (v := (-1 : Int32)) (pc := 14) (td kX12_sets 8 rfl) (by decide) ?_
    exact X_ret (pc := 15) (td kX12_sets 9 rfl) rfl
def F_X12_look_67 (p1 : Int32) (v2_34 : Int32) (σ37 : Mm) (x6_50 : Int32) (k128 : Int32 → Option (Int32 × Mm)) (rec67 : Int32 → Int32 → Option (Int32 × Mm)) (x7_67 : Int32) (x8_67 : Int32) : Option (Int32 × Mm) := (if v2_34 < x8_67 then k128 x7_67 else jn (fun (y1_119 : Int32) => bn (x7_67 + y1_119) (fun v7_120 => rec67 v7_120 (x8_67 + (1 : Int32)))) (fun k119 => jn (k119 (0 : Int32)) (fun k118 => (if (x8_67 &&& (v2_34 ^^^ (-1 : Int32))) = 0 then cl (f_X12_isAsWatched x8_67 σ37) (fun r87 _ => (if r87 = 0 then k118 else bn (((31 : Int32) * x8_67) + p1) (fun i_104 => ck (inb i_104 1984) ((if (((gI σ37 49 i_104.toNatClampNeg) >>> (x6_50 &&& 31)) &&& (1 : Int32)) = (1 : Int32) then k119 (1 : Int32) else k118))))) else k118))))
def F_X12_look_50 (p1 : Int32) (v2_34 : Int32) (σ37 : Mm) (r37 : Int32) (k163 : Int32 → Option (Int32 × Mm)) (rec50 : Int32 → Int32 → Int32 → Option (Int32 × Mm)) (x4_50 : Int32) (x5_50 : Int32) (x6_50 : Int32) : Option (Int32 × Mm) := ck (inb (1 : Int32) 8) ((if x6_50 < (gI σ37 2 (1 : Int32).toNatClampNeg) then jn (fun (x7_128 : Int32) => bn (imx x7_128 (r37 - x7_128)) (fun v7_137 => jn (fun (x4_157 : Int32) (x5_157 : Int32) => rec50 x4_157 x5_157 (x6_50 + (1 : Int32))) (fun k157 => (if v7_137 < x4_50 then k157 v7_137 x6_50 else k157 x4_50 x5_50)))) (fun k128 => lq2 (F_X12_look_67 p1 v2_34 σ37 x6_50 k128) 1000000 (0 : Int32) (0 : Int32)) else k163 x5_50))
def f_X12_look (p1 : Int32) (σ : Mm) : Option (Int32 × Mm) := bn (pI σ 0 0 (0 : Int32)) (fun σ2 => cl (f_X12_within p1 (0 : Int32) (30 : Int32) σ2) (fun r9 _ => (if r9 = 0 then some ((-1 : Int32), σ2) else ck (inb (2 : Int32) 8) (cl (f_X12_homes σ2) (fun r28 _ => bn ((((1 : Int32) <<< ((gI σ2 2 (2 : Int32).toNatClampNeg) &&& 31)) - (1 : Int32)) &&& (r28 ^^^ (-1 : Int32))) (fun v2_34 => cl (f_X12_sets (0 : Int32) σ2) (fun r37 σ37 => jn (fun (x5_163 : Int32) => some (x5_163, σ37)) (fun k163 => lq3 (F_X12_look_50 p1 v2_34 σ37 r37 k163) 1000000 r37 (-1 : Int32) (0 : Int32)))))))))
set_option maxHeartbeats 4000000 in
set_option maxRecDepth 100000 in
theorem x_X12_look (p1 : Int32) (σ : Mm) : Con (wsOf SHM) yX12_look cX12_look 9 (some .int) 8 [.ref 0, .int p1] σ (f_X12_look p1 σ) := by
  refine Con.of_X (by decide +kernel) (Nat.le_of_ble_eq_true rfl) ?_
  unfold f_X12_look
  show X (wsOf SHM) RX12 cX12_look 9 (some .int) 8 0 0 [(0, .ref 0), (1, .int p1)] [] σ _
  refine X_aload_n (pc := 0) (td kX12_look 0 rfl) rfl 0 rfl ?_
  refine X_iconst (v := (0 : Int32)) (pc := 1) (td kX12_look 1 rfl) (by decide) ?_
  refine X_putI (pc := 2) sM_0 rfl fk_X12_169 rfl rfl (td kX12_look 2 rfl) (fun σ2 => ?_)
  refine X_iload_n (pc := 5) (td kX12_look 3 rfl) rfl 1 rfl ?_
  refine X_iconst (v := (0 : Int32)) (pc := 6) (td kX12_look 4 rfl) (by decide) ?_
  refine X_bipush (v := (30 : Int32)) (pc := 7) (td kX12_look 5 rfl) (by decide) ?_
  refine X_callsip (pc := 9) (As := [.int p1, .int (0 : Int32), .int (30 : Int32)]) (st := []) (p_X12_within p1 (0 : Int32) (30 : Int32) σ2) (x_X12_within p1 (0 : Int32) (30 : Int32) σ2) mkX12_within lk_X12_287 (by omega) rfl rfl (Nat.le_of_ble_eq_true rfl) (td kX12_look 6 rfl) (fun r9 hr9 => ?_)
  refine X_if_ne (pc := 12) (tgt := 17) (td kX12_look 7 rfl) (by decide) (fun c_12 => ?_) (fun c_12 => ?_)
  · refine X_iconst (v := (1 : Int32)) (pc := 17) (td kX12_look 10 rfl) (by decide) ?_
    refine X_aload_n (pc := 18) (td kX12_look 11 rfl) rfl 0 rfl ?_
    refine X_getF (b := 2) (pc := 19) sM_0 rfl fk_X12_13 (td kX12_look 12 rfl) ?_
    refine X_iconst (v := (2 : Int32)) (pc := 22) (td kX12_look 13 rfl) (by decide) ?_
    refine X_iald (pc := 23) sM_2 (td kX12_look 14 rfl) ?_
    refine X_ishl (pc := 24) (td kX12_look 15 rfl) ?_
    refine X_iconst (v := (1 : Int32)) (pc := 25) (td kX12_look 16 rfl) (by decide) ?_
    refine X_isub (pc := 26) (td kX12_look 17 rfl) ?_
    refine X_aload_n (pc := 27) (td kX12_look 18 rfl) rfl 0 rfl ?_
    refine X_callip (pc := 28) (As := []) (st := [.int (((1 : Int32) <<< ((gI σ2 2 (2 : Int32).toNatClampNeg) &&& 31)) - (1 : Int32))]) (p_X12_homes σ2) sM_0 (x_X12_homes σ2) mkX12_homes lk_X12_390 (by omega) rfl rfl (Nat.le_of_ble_eq_true rfl) (td kX12_look 19 rfl) (fun r28 hr28 => ?_)
    refine X_iconst (v := (-1 : Int32)) (pc := 31) (td kX12_look 20 rfl) (by decide) ?_
    refine X_ixor (pc := 32) (td kX12_look 21 rfl) ?_
    refine X_iand (pc := 33) (td kX12_look 22 rfl) ?_
    refine X_bi (fun v2_34 => ?_)
    refine X_istore_n (L' := [(2, .int v2_34), (0, .ref 0), (1, .int p1)]) (pc := 34) (td kX12_look 23 rfl) rfl (by decide) rfl ?_
    refine X_aload_n (pc := 35) (td kX12_look 24 rfl) rfl 1 rfl ?_
    refine X_iconst (v := (0 : Int32)) (pc := 36) (td kX12_look 25 rfl) (by decide) ?_
    refine X_calli (pc := 37) (As := [.int (0 : Int32)]) (st := []) sM_0 (x_X12_sets (0 : Int32) σ2) mkX12_sets lk_X12_499 (by omega) rfl rfl (Nat.le_of_ble_eq_true rfl) (td kX12_look 26 rfl) (fun r37 σ37 _ hr37 => ?_)
    refine X_istore_n (L' := [(3, .int r37), (2, .int v2_34), (0, .ref 0), (1, .int p1)]) (pc := 40) (td kX12_look 27 rfl) rfl (by decide) rfl ?_
    refine X_iload_n (pc := 41) (td kX12_look 28 rfl) rfl 0 rfl ?_
    refine X_istore (L' := [(4, .int r37), (3, .int r37), (2, .int v2_34), (0, .ref 0), (1, .int p1)]) (pc := 42) (td kX12_look 29 rfl) (by decide) rfl ?_
    refine X_iconst (v := (-1 : Int32)) (pc := 44) (td kX12_look 30 rfl) (by decide) ?_
    refine X_istore (L' := [(5, .int (-1 : Int32)), (4, .int r37), (3, .int r37), (2, .int v2_34), (0, .ref 0), (1, .int p1)]) (pc := 45) (td kX12_look 31 rfl) (by decide) rfl ?_
    refine X_iconst (v := (0 : Int32)) (pc := 47) (td kX12_look 32 rfl) (by decide) ?_
    refine X_istore (L' := [(6, .int (0 : Int32)), (5, .int (-1 : Int32)), (4, .int r37), (3, .int r37), (2, .int v2_34), (0, .ref 0), (1, .int p1)]) (pc := 48) (td kX12_look 33 rfl) (by decide) rfl ?_
    refine X_jn (P := fun k => ∀ (x5_163 : Int32), X (wsOf SHM) RX12 cX12_look 9 (some .int) 8 0 163 [(5, .int x5_163)] [] σ37 (k x5_163)) (fun x5_163 => ?_) (fun k163 h163 => ?_)
    · refine X_iload (pc := 163) (td kX12_look 95 rfl) 0 rfl ?_
      exact X_ret (pc := 165) (td kX12_look 96 rfl) rfl
    · refine X_sub [5, 6, 4, 3, 2, 1, 0] rfl ?_
      refine lq3_ind (P := fun x4_50 x5_50 x6_50 E => X (wsOf SHM) RX12 cX12_look 9 (some .int) 8 0 50 [(0, .ref 0), (1, .int p1), (2, .int v2_34), (3, .int r37), (4, .int x4_50), (5, .int x5_50), (6, .int x6_50)] [] σ37 E) (fun _ _ _ => X_none) (fun rec50 hrec50 x4_50 x5_50 x6_50 => ?_) _ _ _ _
      unfold F_X12_look_50
      refine X_iload (pc := 50) (td kX12_look 34 rfl) 6 rfl ?_
      refine X_aload_n (pc := 52) (td kX12_look 35 rfl) rfl 0 rfl ?_
      refine X_getF (b := 2) (pc := 53) sM_0 rfl fk_X12_13 (td kX12_look 36 rfl) ?_
      refine X_iconst (v := (1 : Int32)) (pc := 56) (td kX12_look 37 rfl) (by decide) ?_
      refine X_iald (pc := 57) sM_2 (td kX12_look 38 rfl) ?_
      refine X_icmp_ge (pc := 58) (tgt := 163) (td kX12_look 39 rfl) (by decide) (fun c_58 => ?_) (fun c_58 => ?_)
      · refine X_sub [5] rfl ?_
        exact h163 x5_50
      · refine X_iconst (v := (0 : Int32)) (pc := 61) (td kX12_look 40 rfl) (by decide) ?_
        refine X_istore (L' := [(7, .int (0 : Int32)), (0, .ref 0), (1, .int p1), (2, .int v2_34), (3, .int r37), (4, .int x4_50), (5, .int x5_50), (6, .int x6_50)]) (pc := 62) (td kX12_look 41 rfl) (by decide) rfl ?_
        refine X_iconst (v := (0 : Int32)) (pc := 64) (td kX12_look 42 rfl) (by decide) ?_
        refine X_istore (L' := [(8, .int (0 : Int32)), (7, .int (0 : Int32)), (0, .ref 0), (1, .int p1), (2, .int v2_34), (3, .int r37), (4, .int x4_50), (5, .int x5_50), (6, .int x6_50)]) (pc := 65) (td kX12_look 43 rfl) (by decide) rfl ?_
        refine X_jn (P := fun k => ∀ (x7_128 : Int32), X (wsOf SHM) RX12 cX12_look 9 (some .int) 8 0 128 [(0, .ref 0), (1, .int p1), (2, .int v2_34), (3, .int r37), (4, .int x4_50), (5, .int x5_50), (6, .int x6_50), (7, .int x7_128)] [] σ37 (k x7_128)) (fun x7_128 => ?_) (fun k128 h128 => ?_)
        · refine X_iload (pc := 128) (td kX12_look 79 rfl) 7 rfl ?_
          refine X_iload_n (pc := 130) (td kX12_look 80 rfl) rfl 3 rfl ?_
          refine X_iload (pc := 131) (td kX12_look 81 rfl) 7 rfl ?_
          refine X_isub (pc := 133) (td kX12_look 82 rfl) ?_
          refine X_mmax2 (pc := 134) (td kX12_look 83 rfl) lm_X12_405 (by omega) (Nat.le_of_ble_eq_true rfl) ?_
          refine X_bi (fun v7_137 => ?_)
          refine X_istore (L' := [(7, .int v7_137), (0, .ref 0), (1, .int p1), (2, .int v2_34), (3, .int r37), (4, .int x4_50), (5, .int x5_50), (6, .int x6_50)]) (pc := 137) (td kX12_look 84 rfl) (by decide) rfl ?_
          refine X_iload (pc := 139) (td kX12_look 85 rfl) 0 rfl ?_
          refine X_iload (pc := 141) (td kX12_look 86 rfl) 5 rfl ?_
          refine X_jn (P := fun k => ∀ (x4_157 : Int32) (x5_157 : Int32), X (wsOf SHM) RX12 cX12_look 9 (some .int) 8 0 157 [(0, .ref 0), (1, .int p1), (2, .int v2_34), (3, .int r37), (4, .int x4_157), (5, .int x5_157), (6, .int x6_50)] [] σ37 (k x4_157 x5_157)) (fun x4_157 x5_157 => ?_) (fun k157 h157 => ?_)
          · refine X_iinc (v := (x6_50 + (1 : Int32))) (L' := [(6, .int (x6_50 + (1 : Int32))), (0, .ref 0), (1, .int p1), (2, .int v2_34), (3, .int r37), (4, .int x4_157), (5, .int x5_157)]) (pc := 157) (td kX12_look 93 rfl) 6 rfl rfl (by decide) rfl ?_
            refine X_goto (pc := 160) (tgt := 50) (td kX12_look 94 rfl) (by decide) ?_
            refine X_sub [1, 2, 3, 4, 5, 6, 0] rfl ?_
            exact hrec50 x4_157 x5_157 (x6_50 + (1 : Int32))
          · refine X_icmp_lt (pc := 143) (tgt := 149) (td kX12_look 87 rfl) (by decide) (fun c_143 => ?_) (fun c_143 => ?_)
            · refine X_iload (pc := 149) (td kX12_look 89 rfl) 0 rfl ?_
              refine X_istore (L' := [(4, .int v7_137), (7, .int v7_137), (0, .ref 0), (1, .int p1), (2, .int v2_34), (3, .int r37), (5, .int x5_50), (6, .int x6_50)]) (pc := 151) (td kX12_look 90 rfl) (by decide) rfl ?_
              refine X_iload (pc := 153) (td kX12_look 91 rfl) 7 rfl ?_
              refine X_istore (L' := [(5, .int x6_50), (4, .int v7_137), (7, .int v7_137), (0, .ref 0), (1, .int p1), (2, .int v2_34), (3, .int r37), (6, .int x6_50)]) (pc := 155) (td kX12_look 92 rfl) (by decide) rfl ?_
              refine X_sub [3, 4, 5, 6, 1, 0, 7] rfl ?_
              exact h157 v7_137 x6_50
            · refine X_goto (pc := 146) (tgt := 157) (td kX12_look 88 rfl) (by decide) ?_
              refine X_sub [1, 2, 3, 4, 5, 6, 7] rfl ?_
              exact h157 x4_50 x5_50
        · refine X_sub [2, 3, 4, 5, 6, 7, 8, 1, 0] rfl ?_
          refine lq2_ind (P := fun x7_67 x8_67 E => X (wsOf SHM) RX12 cX12_look 9 (some .int) 8 0 67 [(0, .ref 0), (1, .int p1), (2, .int v2_34), (3, .int r37), (4, .int x4_50), (5, .int x5_50), (6, .int x6_50), (7, .int x7_67), (8, .int x8_67)] [] σ37 E) (fun _ _ => X_none) (fun rec67 hrec67 x7_67 x8_67 => ?_) _ _ _
          unfold F_X12_look_67
          refine X_iload (pc := 67) (td kX12_look 44 rfl) 8 rfl ?_
          refine X_iload_n (pc := 69) (td kX12_look 45 rfl) rfl 2 rfl ?_
          refine X_icmp_gt (pc := 70) (tgt := 128) (td kX12_look 46 rfl) (by decide) (fun c_70 => ?_) (fun c_70 => ?_)
          · refine X_sub [0, 1, 2, 3, 4, 5, 6, 7] rfl ?_
            exact h128 x7_67
          · refine X_iload (pc := 73) (td kX12_look 47 rfl) 7 rfl ?_
            refine X_iload (pc := 75) (td kX12_look 48 rfl) 8 rfl ?_
            refine X_iload_n (pc := 77) (td kX12_look 49 rfl) rfl 2 rfl ?_
            refine X_iconst (v := (-1 : Int32)) (pc := 78) (td kX12_look 50 rfl) (by decide) ?_
            refine X_ixor (pc := 79) (td kX12_look 51 rfl) ?_
            refine X_iand (pc := 80) (td kX12_look 52 rfl) ?_
            refine X_jn (P := fun k => ∀ (y1_119 : Int32), X (wsOf SHM) RX12 cX12_look 9 (some .int) 8 0 119 [(0, .ref 0), (1, .int p1), (2, .int v2_34), (3, .int r37), (4, .int x4_50), (5, .int x5_50), (6, .int x6_50), (8, .int x8_67)] [.int y1_119, .int x7_67] σ37 (k y1_119)) (fun y1_119 => ?_) (fun k119 h119 => ?_)
            · refine X_iadd (pc := 119) (td kX12_look 75 rfl) ?_
              refine X_bi (fun v7_120 => ?_)
              refine X_istore (L' := [(7, .int v7_120), (0, .ref 0), (1, .int p1), (2, .int v2_34), (3, .int r37), (4, .int x4_50), (5, .int x5_50), (6, .int x6_50), (8, .int x8_67)]) (pc := 120) (td kX12_look 76 rfl) (by decide) rfl ?_
              refine X_iinc (v := (x8_67 + (1 : Int32))) (L' := [(8, .int (x8_67 + (1 : Int32))), (7, .int v7_120), (0, .ref 0), (1, .int p1), (2, .int v2_34), (3, .int r37), (4, .int x4_50), (5, .int x5_50), (6, .int x6_50)]) (pc := 122) (td kX12_look 77 rfl) 8 rfl rfl (by decide) rfl ?_
              refine X_goto (pc := 125) (tgt := 67) (td kX12_look 78 rfl) (by decide) ?_
              refine X_sub [2, 3, 4, 5, 6, 7, 8, 1, 0] rfl ?_
              exact hrec67 v7_120 (x8_67 + (1 : Int32))
            · refine X_jn (P := fun k => X (wsOf SHM) RX12 cX12_look 9 (some .int) 8 0 118 [(0, .ref 0), (1, .int p1), (2, .int v2_34), (3, .int r37), (4, .int x4_50), (5, .int x5_50), (6, .int x6_50), (8, .int x8_67)] [.int x7_67] σ37 k) ?_ (fun k118 h118 => ?_)
              · refine X_iconst (v := (0 : Int32)) (pc := 118) (td kX12_look 74 rfl) (by decide) ?_
                exact h119 (0 : Int32)
              · refine X_if_ne (pc := 81) (tgt := 118) (td kX12_look 53 rfl) (by decide) (fun c_81 => ?_) (fun c_81 => ?_)
                · refine X_sub [0, 1, 2, 3, 4, 5, 6, 8] rfl ?_
                  exact h118
                · refine X_aload_n (pc := 84) (td kX12_look 54 rfl) rfl 0 rfl ?_
                  refine X_iload (pc := 85) (td kX12_look 55 rfl) 8 rfl ?_
                  refine X_callip (pc := 87) (As := [.int x8_67]) (st := [.int x7_67]) (p_X12_isAsWatched x8_67 σ37) sM_0 (x_X12_isAsWatched x8_67 σ37) mkX12_isAsWatched lk_X12_496 (by omega) rfl rfl (Nat.le_of_ble_eq_true rfl) (td kX12_look 56 rfl) (fun r87 hr87 => ?_)
                  refine X_if_eq (pc := 90) (tgt := 118) (td kX12_look 57 rfl) (by decide) (fun c_90 => ?_) (fun c_90 => ?_)
                  · refine X_sub [0, 1, 2, 3, 4, 5, 6, 8] rfl ?_
                    exact h118
                  · refine X_aload_n (pc := 93) (td kX12_look 58 rfl) rfl 0 rfl ?_
                    refine X_getF (b := 49) (pc := 94) sM_0 rfl fk_X12_160 (td kX12_look 59 rfl) ?_
                    refine X_bipush (v := (31 : Int32)) (pc := 97) (td kX12_look 60 rfl) (by decide) ?_
                    refine X_iload (pc := 99) (td kX12_look 61 rfl) 8 rfl ?_
                    refine X_imul (pc := 101) (td kX12_look 62 rfl) ?_
                    refine X_iload_n (pc := 102) (td kX12_look 63 rfl) rfl 1 rfl ?_
                    refine X_iadd (pc := 103) (td kX12_look 64 rfl) ?_
                    refine X_bi (fun i_104 => ?_)
                    refine X_iald (pc := 104) sM_49 (td kX12_look 65 rfl) ?_
                    refine X_iload (pc := 105) (td kX12_look 66 rfl) 6 rfl ?_
                    refine X_ishr (pc := 107) (td kX12_look 67 rfl) ?_
                    refine X_iconst (v := (1 : Int32)) (pc := 108) (td kX12_look 68 rfl) (by decide) ?_
                    refine X_iand (pc := 109) (td kX12_look 69 rfl) ?_
                    refine X_iconst (v := (1 : Int32)) (pc := 110) (td kX12_look 70 rfl) (by decide) ?_
                    refine X_icmp_ne (pc := 111) (tgt := 118) (td kX12_look 71 rfl) (by decide) (fun c_111 => ?_) (fun c_111 => ?_)
                    · refine X_sub [0, 1, 2, 3, 4, 5, 6, 8] rfl ?_
                      exact h118
                    · refine X_iconst (v := (1 : Int32)) (pc := 114) (td kX12_look 72 rfl) (by decide) ?_
                      refine X_goto (pc := 115) (tgt := 119) (td kX12_look 73 rfl) (by decide) ?_
                      refine X_sub [0, 1, 2, 3, 4, 5, 6, 8] rfl ?_
                      exact h119 (1 : Int32)
  · refine X_iconst (v := (-1 : Int32)) (pc := 15) (td kX12_look 8 rfl) (by decide) ?_
    exact X_ret (pc := 16) (td kX12_look 9 rfl) rfl
def J_X12_mark_59 (p1 : Int32) (p2 : Int32) (σ35 : Mm) (y0_47 : Int32) (y0_59 : Int32) : Option (Int32 × Mm) := cl (f_X12_laysLines y0_47 y0_59 σ35) (fun _ σ65 => cl (f_X12_laysWatched y0_47 y0_59 σ65) (fun _ σ72 => jn (fun (σ_119 : Mm) => some ((1 : Int32), σ_119)) (fun k119 => (if p2 = 0 then cl (f_X12_copies 36 (0 : Int32) 39 ((41 : Int32) * p1) σ72) (fun _ σ116 => k119 σ116) else cl (f_X12_copies 39 ((41 : Int32) * p1) 36 (0 : Int32) σ72) (fun _ σ92 => bn (pI σ92 0 55 (0 : Int32)) (fun σ97 => k119 σ97))))))
def f_X12_mark (p1 : Int32) (p2 : Int32) (σ : Mm) : Option (Int32 × Mm) := bn (pI σ 0 0 (0 : Int32)) (fun σ2 => cl (f_X12_within p1 (0 : Int32) (3 : Int32) σ2) (fun r8 _ => jn (some ((0 : Int32), σ2)) (fun k27 => (if r8 = 0 then k27 else jn (ck (inb p1 4) (bn (pI σ2 41 p1.toNatClampNeg (vp_nar .boolean (1 : Int32))) (fun σ35 => jn (fun (y0_47 : Int32) => jn (J_X12_mark_59 p1 p2 σ35 y0_47) (fun k59 => (if p2 = 0 then k59 ((1 : Int32) + p1) else k59 (0 : Int32)))) (fun k47 => (if p2 = 0 then k47 (0 : Int32) else k47 ((1 : Int32) + p1)))))) (fun k29 => (if p2 = 0 then k29 else ck (inb p1 4) ((if (gI σ2 41 p1.toNatClampNeg) = 0 then k27 else k29))))))))
set_option maxHeartbeats 4000000 in
set_option maxRecDepth 100000 in
theorem x_X12_mark (p1 : Int32) (p2 : Int32) (σ : Mm) : Con (wsOf SHM) yX12_mark cX12_mark 5 (some .boolean) 2 [.ref 0, .int p1, .int p2] σ (f_X12_mark p1 p2 σ) := by
  refine Con.of_X (by decide +kernel) (Nat.le_of_ble_eq_true rfl) ?_
  unfold f_X12_mark
  show X (wsOf SHM) RX12 cX12_mark 5 (some .boolean) 2 0 0 [(0, .ref 0), (1, .int p1), (2, .int p2)] [] σ _
  refine X_aload_n (pc := 0) (td kX12_mark 0 rfl) rfl 0 rfl ?_
  refine X_iconst (v := (0 : Int32)) (pc := 1) (td kX12_mark 1 rfl) (by decide) ?_
  refine X_putI (pc := 2) sM_0 rfl fk_X12_169 rfl rfl (td kX12_mark 2 rfl) (fun σ2 => ?_)
  refine X_iload_n (pc := 5) (td kX12_mark 3 rfl) rfl 1 rfl ?_
  refine X_iconst (v := (0 : Int32)) (pc := 6) (td kX12_mark 4 rfl) (by decide) ?_
  refine X_iconst (v := (3 : Int32)) (pc := 7) (td kX12_mark 5 rfl) (by decide) ?_
  refine X_callsip (pc := 8) (As := [.int p1, .int (0 : Int32), .int (3 : Int32)]) (st := []) (p_X12_within p1 (0 : Int32) (3 : Int32) σ2) (x_X12_within p1 (0 : Int32) (3 : Int32) σ2) mkX12_within lk_X12_287 (by omega) rfl rfl (Nat.le_of_ble_eq_true rfl) (td kX12_mark 6 rfl) (fun r8 hr8 => ?_)
  refine X_jn (P := fun k => X (wsOf SHM) RX12 cX12_mark 5 (some .boolean) 2 0 27 [] [] σ2 k) ?_ (fun k27 h27 => ?_)
  · refine X_iconst (v := (0 : Int32)) (pc := 27) (td kX12_mark 15 rfl) (by decide) ?_
    exact X_ret (pc := 28) (td kX12_mark 16 rfl) rfl
  · refine X_if_eq (pc := 11) (tgt := 27) (td kX12_mark 7 rfl) (by decide) (fun c_11 => ?_) (fun c_11 => ?_)
    · refine X_sub [] rfl ?_
      exact h27
    · refine X_iload_n (pc := 14) (td kX12_mark 8 rfl) rfl 2 rfl ?_
      refine X_jn (P := fun k => X (wsOf SHM) RX12 cX12_mark 5 (some .boolean) 2 0 29 [(0, .ref 0), (1, .int p1), (2, .int p2)] [] σ2 k) ?_ (fun k29 h29 => ?_)
      · refine X_aload_n (pc := 29) (td kX12_mark 17 rfl) rfl 0 rfl ?_
        refine X_getF (b := 41) (pc := 30) sM_0 rfl fk_X12_132 (td kX12_mark 18 rfl) ?_
        refine X_iload_n (pc := 33) (td kX12_mark 19 rfl) rfl 1 rfl ?_
        refine X_iconst (v := (1 : Int32)) (pc := 34) (td kX12_mark 20 rfl) (by decide) ?_
        refine X_zast (pc := 35) sM_41 (td kX12_mark 21 rfl) (fun σ35 => ?_)
        refine X_iload_n (pc := 36) (td kX12_mark 22 rfl) rfl 2 rfl ?_
        refine X_jn (P := fun k => ∀ (y0_47 : Int32), X (wsOf SHM) RX12 cX12_mark 5 (some .boolean) 2 0 47 [(0, .ref 0), (1, .int p1), (2, .int p2)] [.int y0_47] σ35 (k y0_47)) (fun y0_47 => ?_) (fun k47 h47 => ?_)
        · refine X_istore_n (L' := [(3, .int y0_47), (0, .ref 0), (1, .int p1), (2, .int p2)]) (pc := 47) (td kX12_mark 29 rfl) rfl (by decide) rfl ?_
          refine X_iload_n (pc := 48) (td kX12_mark 30 rfl) rfl 3 rfl ?_
          refine X_jn (P := fun k => ∀ (y0_59 : Int32), X (wsOf SHM) RX12 cX12_mark 5 (some .boolean) 2 0 59 [(0, .ref 0), (1, .int p1), (2, .int p2), (3, .int y0_47)] [.int y0_59] σ35 (k y0_59)) (fun y0_59 => ?_) (fun k59 h59 => ?_)
          · unfold J_X12_mark_59
            refine X_istore (L' := [(4, .int y0_59), (0, .ref 0), (1, .int p1), (2, .int p2), (3, .int y0_47)]) (pc := 59) (td kX12_mark 37 rfl) (by decide) rfl ?_
            refine X_aload_n (pc := 61) (td kX12_mark 38 rfl) rfl 1 rfl ?_
            refine X_iload_n (pc := 62) (td kX12_mark 39 rfl) rfl 4 rfl ?_
            refine X_iload (pc := 63) (td kX12_mark 40 rfl) 0 rfl ?_
            refine X_callv (pc := 65) (As := [.int y0_47, .int y0_59]) (st := []) sM_0 (x_X12_laysLines y0_47 y0_59 σ35) mkX12_laysLines lk_X12_383 (by omega) rfl rfl (Nat.le_of_ble_eq_true rfl) (td kX12_mark 41 rfl) (fun _ σ65 _ => ?_)
            refine X_aload_n (pc := 68) (td kX12_mark 42 rfl) rfl 1 rfl ?_
            refine X_iload_n (pc := 69) (td kX12_mark 43 rfl) rfl 4 rfl ?_
            refine X_iload (pc := 70) (td kX12_mark 44 rfl) 0 rfl ?_
            refine X_callv (pc := 72) (As := [.int y0_47, .int y0_59]) (st := []) sM_0 (x_X12_laysWatched y0_47 y0_59 σ65) mkX12_laysWatched lk_X12_520 (by omega) rfl rfl (Nat.le_of_ble_eq_true rfl) (td kX12_mark 45 rfl) (fun _ σ72 _ => ?_)
            refine X_iload_n (pc := 75) (td kX12_mark 46 rfl) rfl 3 rfl ?_
            refine X_jn (P := fun k => ∀ (σ_119 : Mm), X (wsOf SHM) RX12 cX12_mark 5 (some .boolean) 2 0 119 [] [] σ_119 (k σ_119)) (fun σ_119 => ?_) (fun k119 h119 => ?_)
            · refine X_iconst (v := (1 : Int32)) (pc := 119) (td kX12_mark 70 rfl) (by decide) ?_
              exact X_ret (pc := 120) (td kX12_mark 71 rfl) rfl
            · refine X_if_eq (pc := 76) (tgt := 103) (td kX12_mark 47 rfl) (by decide) (fun c_76 => ?_) (fun c_76 => ?_)
              · refine X_aload_n (pc := 103) (td kX12_mark 61 rfl) rfl 1 rfl ?_
                refine X_getF (b := 36) (pc := 104) sM_0 rfl fk_X12_117 (td kX12_mark 62 rfl) ?_
                refine X_iconst (v := (0 : Int32)) (pc := 107) (td kX12_mark 63 rfl) (by decide) ?_
                refine X_aload_n (pc := 108) (td kX12_mark 64 rfl) rfl 1 rfl ?_
                refine X_getF (b := 39) (pc := 109) sM_0 rfl fk_X12_126 (td kX12_mark 65 rfl) ?_
                refine X_bipush (v := (41 : Int32)) (pc := 112) (td kX12_mark 66 rfl) (by decide) ?_
                refine X_iload_n (pc := 114) (td kX12_mark 67 rfl) rfl 2 rfl ?_
                refine X_imul (pc := 115) (td kX12_mark 68 rfl) ?_
                refine X_callsv (pc := 116) (As := [.ref 36, .int (0 : Int32), .ref 39, .int ((41 : Int32) * p1)]) (st := []) (x_X12_copies 36 (0 : Int32) 39 ((41 : Int32) * p1) σ72) mkX12_copies lk_X12_429 (by omega) rfl rfl (Nat.le_of_ble_eq_true rfl) (td kX12_mark 69 rfl) (fun _ σ116 _ => ?_)
                refine X_sub [] rfl ?_
                exact h119 σ116
              · refine X_aload_n (pc := 79) (td kX12_mark 48 rfl) rfl 1 rfl ?_
                refine X_getF (b := 39) (pc := 80) sM_0 rfl fk_X12_126 (td kX12_mark 49 rfl) ?_
                refine X_bipush (v := (41 : Int32)) (pc := 83) (td kX12_mark 50 rfl) (by decide) ?_
                refine X_iload_n (pc := 85) (td kX12_mark 51 rfl) rfl 2 rfl ?_
                refine X_imul (pc := 86) (td kX12_mark 52 rfl) ?_
                refine X_aload_n (pc := 87) (td kX12_mark 53 rfl) rfl 1 rfl ?_
                refine X_getF (b := 36) (pc := 88) sM_0 rfl fk_X12_117 (td kX12_mark 54 rfl) ?_
                refine X_iconst (v := (0 : Int32)) (pc := 91) (td kX12_mark 55 rfl) (by decide) ?_
                refine X_callsv (pc := 92) (As := [.ref 39, .int ((41 : Int32) * p1), .ref 36, .int (0 : Int32)]) (st := []) (x_X12_copies 39 ((41 : Int32) * p1) 36 (0 : Int32) σ72) mkX12_copies lk_X12_429 (by omega) rfl rfl (Nat.le_of_ble_eq_true rfl) (td kX12_mark 56 rfl) (fun _ σ92 _ => ?_)
                refine X_aload_n (pc := 95) (td kX12_mark 57 rfl) rfl 1 rfl ?_
                refine X_iconst (v := (0 : Int32)) (pc := 96) (td kX12_mark 58 rfl) (by decide) ?_
                refine X_putI (pc := 97) sM_0 rfl fk_X12_377 rfl rfl (td kX12_mark 59 rfl) (fun σ97 => ?_)
                refine X_goto (pc := 100) (tgt := 119) (td kX12_mark 60 rfl) (by decide) ?_
                refine X_sub [] rfl ?_
                exact h119 σ97
          · refine X_if_eq (pc := 49) (tgt := 56) (td kX12_mark 31 rfl) (by decide) (fun c_49 => ?_) (fun c_49 => ?_)
            · refine X_iconst (v := (1 : Int32)) (pc := 56) (td kX12_mark 34 rfl) (by decide) ?_
              refine X_iload_n (pc := 57) (td kX12_mark 35 rfl) rfl 2 rfl ?_
              refine X_iadd (pc := 58) (td kX12_mark 36 rfl) ?_
              refine X_sub [1, 2, 3, 0] rfl ?_
              exact h59 ((1 : Int32) + p1)
            · refine X_iconst (v := (0 : Int32)) (pc := 52) (td kX12_mark 32 rfl) (by decide) ?_
              refine X_goto (pc := 53) (tgt := 59) (td kX12_mark 33 rfl) (by decide) ?_
              refine X_sub [1, 2, 3, 0] rfl ?_
              exact h59 (0 : Int32)
        · refine X_if_eq (pc := 37) (tgt := 46) (td kX12_mark 23 rfl) (by decide) (fun c_37 => ?_) (fun c_37 => ?_)
          · refine X_iconst (v := (0 : Int32)) (pc := 46) (td kX12_mark 28 rfl) (by decide) ?_
            exact h47 (0 : Int32)
          · refine X_iconst (v := (1 : Int32)) (pc := 40) (td kX12_mark 24 rfl) (by decide) ?_
            refine X_iload_n (pc := 41) (td kX12_mark 25 rfl) rfl 1 rfl ?_
            refine X_iadd (pc := 42) (td kX12_mark 26 rfl) ?_
            refine X_goto (pc := 43) (tgt := 47) (td kX12_mark 27 rfl) (by decide) ?_
            exact h47 ((1 : Int32) + p1)
      · refine X_if_eq (pc := 15) (tgt := 29) (td kX12_mark 9 rfl) (by decide) (fun c_15 => ?_) (fun c_15 => ?_)
        · exact h29
        · refine X_aload_n (pc := 18) (td kX12_mark 10 rfl) rfl 0 rfl ?_
          refine X_getF (b := 41) (pc := 19) sM_0 rfl fk_X12_132 (td kX12_mark 11 rfl) ?_
          refine X_iload_n (pc := 22) (td kX12_mark 12 rfl) rfl 1 rfl ?_
          refine X_zald (pc := 23) sM_41 (td kX12_mark 13 rfl) ?_
          refine X_if_ne (pc := 24) (tgt := 29) (td kX12_mark 14 rfl) (by decide) (fun c_24 => ?_) (fun c_24 => ?_)
          · exact h29
          · refine X_sub [] rfl ?_
            exact h27
def F_X12_meet_46 (p1 : Int32) (p2 : Int32) (k108 : Int32 → Mm → Option (Int32 × Mm)) (rec46 : Int32 → Int32 → Mm → Option (Int32 × Mm)) (x3_46 : Int32) (x4_46 : Int32) (σ_46 : Mm) : Option (Int32 × Mm) := (if (99 : Int32) < x4_46 then k108 x3_46 σ_46 else (if x3_46 < 0 then cl (f_X12_isOut p1 σ_46) (fun r59 _ => jn (fun (x3_97 : Int32) => cl (f_X12_passes σ_46) (fun r98 σ98 => rec46 x3_97 (x4_46 + (1 : Int32)) σ98)) (fun k97 => (if r59 = 0 then k97 x3_46 else cl (f_X12_isOut p2 σ_46) (fun r67 _ => (if r67 = 0 then k97 x3_46 else bn ((11 : Int32) + p1) (fun i_81 => ck (inb i_81 41) (bn ((11 : Int32) + p2) (fun i_90 => ck (inb i_90 41) ((if (gI σ_46 36 i_81.toNatClampNeg) = (gI σ_46 36 i_90.toNatClampNeg) then k97 x4_46 else k97 x3_46)))))))))) else k108 x3_46 σ_46))
def f_X12_meet (p1 : Int32) (p2 : Int32) (σ : Mm) : Option (Int32 × Mm) := bn (pI σ 0 0 (0 : Int32)) (fun σ2 => cl (f_X12_isWalker p1 σ2) (fun r7 _ => jn (some ((-1 : Int32), σ2)) (fun k26 => (if r7 = 0 then k26 else cl (f_X12_isWalker p2 σ2) (fun r15 _ => (if r15 = 0 then k26 else (if p1 = p2 then k26 else cl (f_X12_copies 36 (0 : Int32) 38 (0 : Int32) σ2) (fun _ σ38 => jn (fun (x3_108 : Int32) (σ_108 : Mm) => cl (f_X12_copies 38 (0 : Int32) 36 (0 : Int32) σ_108) (fun _ σ118 => some (x3_108, σ118))) (fun k108 => lq3 (F_X12_meet_46 p1 p2 k108) 1000000 (-1 : Int32) (0 : Int32) σ38)))))))))
set_option maxHeartbeats 4000000 in
set_option maxRecDepth 100000 in
theorem x_X12_meet (p1 : Int32) (p2 : Int32) (σ : Mm) : Con (wsOf SHM) yX12_meet cX12_meet 5 (some .int) 6 [.ref 0, .int p1, .int p2] σ (f_X12_meet p1 p2 σ) := by
  refine Con.of_X (by decide +kernel) (Nat.le_of_ble_eq_true rfl) ?_
  unfold f_X12_meet
  show X (wsOf SHM) RX12 cX12_meet 5 (some .int) 6 0 0 [(0, .ref 0), (1, .int p1), (2, .int p2)] [] σ _
  refine X_aload_n (pc := 0) (td kX12_meet 0 rfl) rfl 0 rfl ?_
  refine X_iconst (v := (0 : Int32)) (pc := 1) (td kX12_meet 1 rfl) (by decide) ?_
  refine X_putI (pc := 2) sM_0 rfl fk_X12_169 rfl rfl (td kX12_meet 2 rfl) (fun σ2 => ?_)
  refine X_aload_n (pc := 5) (td kX12_meet 3 rfl) rfl 0 rfl ?_
  refine X_iload_n (pc := 6) (td kX12_meet 4 rfl) rfl 1 rfl ?_
  refine X_callip (pc := 7) (As := [.int p1]) (st := []) (p_X12_isWalker p1 σ2) sM_0 (x_X12_isWalker p1 σ2) mkX12_isWalker lk_X12_423 (by omega) rfl rfl (Nat.le_of_ble_eq_true rfl) (td kX12_meet 5 rfl) (fun r7 hr7 => ?_)
  refine X_jn (P := fun k => X (wsOf SHM) RX12 cX12_meet 5 (some .int) 6 0 26 [] [] σ2 k) ?_ (fun k26 h26 => ?_)
  · refine X_iconst (v := (-1 : Int32)) (pc := 26) (td kX12_meet 14 rfl) (by decide) ?_
    exact X_ret (pc := 27) (td kX12_meet 15 rfl) rfl
  · refine X_if_eq (pc := 10) (tgt := 26) (td kX12_meet 6 rfl) (by decide) (fun c_10 => ?_) (fun c_10 => ?_)
    · refine X_sub [] rfl ?_
      exact h26
    · refine X_aload_n (pc := 13) (td kX12_meet 7 rfl) rfl 0 rfl ?_
      refine X_iload_n (pc := 14) (td kX12_meet 8 rfl) rfl 2 rfl ?_
      refine X_callip (pc := 15) (As := [.int p2]) (st := []) (p_X12_isWalker p2 σ2) sM_0 (x_X12_isWalker p2 σ2) mkX12_isWalker lk_X12_423 (by omega) rfl rfl (Nat.le_of_ble_eq_true rfl) (td kX12_meet 9 rfl) (fun r15 hr15 => ?_)
      refine X_if_eq (pc := 18) (tgt := 26) (td kX12_meet 10 rfl) (by decide) (fun c_18 => ?_) (fun c_18 => ?_)
      · refine X_sub [] rfl ?_
        exact h26
      · refine X_iload_n (pc := 21) (td kX12_meet 11 rfl) rfl 1 rfl ?_
        refine X_iload_n (pc := 22) (td kX12_meet 12 rfl) rfl 2 rfl ?_
        refine X_icmp_ne (pc := 23) (tgt := 28) (td kX12_meet 13 rfl) (by decide) (fun c_23 => ?_) (fun c_23 => ?_)
        · refine X_aload_n (pc := 28) (td kX12_meet 16 rfl) rfl 0 rfl ?_
          refine X_getF (b := 36) (pc := 29) sM_0 rfl fk_X12_117 (td kX12_meet 17 rfl) ?_
          refine X_iconst (v := (0 : Int32)) (pc := 32) (td kX12_meet 18 rfl) (by decide) ?_
          refine X_aload_n (pc := 33) (td kX12_meet 19 rfl) rfl 0 rfl ?_
          refine X_getF (b := 38) (pc := 34) sM_0 rfl fk_X12_123 (td kX12_meet 20 rfl) ?_
          refine X_iconst (v := (0 : Int32)) (pc := 37) (td kX12_meet 21 rfl) (by decide) ?_
          refine X_callsv (pc := 38) (As := [.ref 36, .int (0 : Int32), .ref 38, .int (0 : Int32)]) (st := []) (x_X12_copies 36 (0 : Int32) 38 (0 : Int32) σ2) mkX12_copies lk_X12_429 (by omega) rfl rfl (Nat.le_of_ble_eq_true rfl) (td kX12_meet 22 rfl) (fun _ σ38 _ => ?_)
          refine X_iconst (v := (-1 : Int32)) (pc := 41) (td kX12_meet 23 rfl) (by decide) ?_
          refine X_istore_n (L' := [(3, .int (-1 : Int32)), (0, .ref 0), (1, .int p1), (2, .int p2)]) (pc := 42) (td kX12_meet 24 rfl) rfl (by decide) rfl ?_
          refine X_iconst (v := (0 : Int32)) (pc := 43) (td kX12_meet 25 rfl) (by decide) ?_
          refine X_istore (L' := [(4, .int (0 : Int32)), (3, .int (-1 : Int32)), (0, .ref 0), (1, .int p1), (2, .int p2)]) (pc := 44) (td kX12_meet 26 rfl) (by decide) rfl ?_
          refine X_jn (P := fun k => ∀ (x3_108 : Int32) (σ_108 : Mm), X (wsOf SHM) RX12 cX12_meet 5 (some .int) 6 0 108 [(0, .ref 0), (3, .int x3_108)] [] σ_108 (k x3_108 σ_108)) (fun x3_108 σ_108 => ?_) (fun k108 h108 => ?_)
          · refine X_aload_n (pc := 108) (td kX12_meet 60 rfl) rfl 0 rfl ?_
            refine X_getF (b := 38) (pc := 109) sM_0 rfl fk_X12_123 (td kX12_meet 61 rfl) ?_
            refine X_iconst (v := (0 : Int32)) (pc := 112) (td kX12_meet 62 rfl) (by decide) ?_
            refine X_aload_n (pc := 113) (td kX12_meet 63 rfl) rfl 0 rfl ?_
            refine X_getF (b := 36) (pc := 114) sM_0 rfl fk_X12_117 (td kX12_meet 64 rfl) ?_
            refine X_iconst (v := (0 : Int32)) (pc := 117) (td kX12_meet 65 rfl) (by decide) ?_
            refine X_callsv (pc := 118) (As := [.ref 38, .int (0 : Int32), .ref 36, .int (0 : Int32)]) (st := []) (x_X12_copies 38 (0 : Int32) 36 (0 : Int32) σ_108) mkX12_copies lk_X12_429 (by omega) rfl rfl (Nat.le_of_ble_eq_true rfl) (td kX12_meet 66 rfl) (fun _ σ118 _ => ?_)
            refine X_iload_n (pc := 121) (td kX12_meet 67 rfl) rfl 1 rfl ?_
            exact X_ret (pc := 122) (td kX12_meet 68 rfl) rfl
          · refine X_sub [2, 3, 4, 1, 0] rfl ?_
            refine lq3_ind (P := fun x3_46 x4_46 σ_46 E => X (wsOf SHM) RX12 cX12_meet 5 (some .int) 6 0 46 [(0, .ref 0), (1, .int p1), (2, .int p2), (3, .int x3_46), (4, .int x4_46)] [] σ_46 E) (fun _ _ _ => X_none) (fun rec46 hrec46 x3_46 x4_46 σ_46 => ?_) _ _ _ _
            unfold F_X12_meet_46
            refine X_iload (pc := 46) (td kX12_meet 27 rfl) 4 rfl ?_
            refine X_bipush (v := (99 : Int32)) (pc := 48) (td kX12_meet 28 rfl) (by decide) ?_
            refine X_icmp_gt (pc := 50) (tgt := 108) (td kX12_meet 29 rfl) (by decide) (fun c_50 => ?_) (fun c_50 => ?_)
            · refine X_sub [0, 3] rfl ?_
              exact h108 x3_46 σ_46
            · refine X_iload_n (pc := 53) (td kX12_meet 30 rfl) rfl 3 rfl ?_
              refine X_if_ge (pc := 54) (tgt := 108) (td kX12_meet 31 rfl) (by decide) (fun c_54 => ?_) (fun c_54 => ?_)
              · refine X_sub [0, 3] rfl ?_
                exact h108 x3_46 σ_46
              · refine X_aload_n (pc := 57) (td kX12_meet 32 rfl) rfl 0 rfl ?_
                refine X_iload_n (pc := 58) (td kX12_meet 33 rfl) rfl 1 rfl ?_
                refine X_callip (pc := 59) (As := [.int p1]) (st := []) (p_X12_isOut p1 σ_46) sM_0 (x_X12_isOut p1 σ_46) mkX12_isOut lk_X12_408 (by omega) rfl rfl (Nat.le_of_ble_eq_true rfl) (td kX12_meet 34 rfl) (fun r59 hr59 => ?_)
                refine X_jn (P := fun k => ∀ (x3_97 : Int32), X (wsOf SHM) RX12 cX12_meet 5 (some .int) 6 0 97 [(0, .ref 0), (1, .int p1), (2, .int p2), (3, .int x3_97), (4, .int x4_46)] [] σ_46 (k x3_97)) (fun x3_97 => ?_) (fun k97 h97 => ?_)
                · refine X_aload_n (pc := 97) (td kX12_meet 55 rfl) rfl 0 rfl ?_
                  refine X_calli (pc := 98) (As := []) (st := []) sM_0 (x_X12_passes σ_46) mkX12_passes lk_X12_436 (by omega) rfl rfl (Nat.le_of_ble_eq_true rfl) (td kX12_meet 56 rfl) (fun r98 σ98 _ hr98 => ?_)
                  refine X_pop (pc := 101) (td kX12_meet 57 rfl) rfl ?_
                  refine X_iinc (v := (x4_46 + (1 : Int32))) (L' := [(4, .int (x4_46 + (1 : Int32))), (0, .ref 0), (1, .int p1), (2, .int p2), (3, .int x3_97)]) (pc := 102) (td kX12_meet 58 rfl) 4 rfl rfl (by decide) rfl ?_
                  refine X_goto (pc := 105) (tgt := 46) (td kX12_meet 59 rfl) (by decide) ?_
                  refine X_sub [1, 2, 3, 4, 0] rfl ?_
                  exact hrec46 x3_97 (x4_46 + (1 : Int32)) σ98
                · refine X_if_eq (pc := 62) (tgt := 97) (td kX12_meet 35 rfl) (by decide) (fun c_62 => ?_) (fun c_62 => ?_)
                  · exact h97 x3_46
                  · refine X_aload_n (pc := 65) (td kX12_meet 36 rfl) rfl 0 rfl ?_
                    refine X_iload_n (pc := 66) (td kX12_meet 37 rfl) rfl 2 rfl ?_
                    refine X_callip (pc := 67) (As := [.int p2]) (st := []) (p_X12_isOut p2 σ_46) sM_0 (x_X12_isOut p2 σ_46) mkX12_isOut lk_X12_408 (by omega) rfl rfl (Nat.le_of_ble_eq_true rfl) (td kX12_meet 38 rfl) (fun r67 hr67 => ?_)
                    refine X_if_eq (pc := 70) (tgt := 97) (td kX12_meet 39 rfl) (by decide) (fun c_70 => ?_) (fun c_70 => ?_)
                    · exact h97 x3_46
                    · refine X_aload_n (pc := 73) (td kX12_meet 40 rfl) rfl 0 rfl ?_
                      refine X_getF (b := 36) (pc := 74) sM_0 rfl fk_X12_117 (td kX12_meet 41 rfl) ?_
                      refine X_bipush (v := (11 : Int32)) (pc := 77) (td kX12_meet 42 rfl) (by decide) ?_
                      refine X_iload_n (pc := 79) (td kX12_meet 43 rfl) rfl 1 rfl ?_
                      refine X_iadd (pc := 80) (td kX12_meet 44 rfl) ?_
                      refine X_bi (fun i_81 => ?_)
                      refine X_iald (pc := 81) sM_36 (td kX12_meet 45 rfl) ?_
                      refine X_aload_n (pc := 82) (td kX12_meet 46 rfl) rfl 0 rfl ?_
                      refine X_getF (b := 36) (pc := 83) sM_0 rfl fk_X12_117 (td kX12_meet 47 rfl) ?_
                      refine X_bipush (v := (11 : Int32)) (pc := 86) (td kX12_meet 48 rfl) (by decide) ?_
                      refine X_iload_n (pc := 88) (td kX12_meet 49 rfl) rfl 2 rfl ?_
                      refine X_iadd (pc := 89) (td kX12_meet 50 rfl) ?_
                      refine X_bi (fun i_90 => ?_)
                      refine X_iald (pc := 90) sM_36 (td kX12_meet 51 rfl) ?_
                      refine X_icmp_ne (pc := 91) (tgt := 97) (td kX12_meet 52 rfl) (by decide) (fun c_91 => ?_) (fun c_91 => ?_)
                      · exact h97 x3_46
                      · refine X_iload (pc := 94) (td kX12_meet 53 rfl) 4 rfl ?_
                        refine X_istore_n (L' := [(3, .int x4_46), (0, .ref 0), (1, .int p1), (2, .int p2), (4, .int x4_46)]) (pc := 96) (td kX12_meet 54 rfl) rfl (by decide) rfl ?_
                        refine X_sub [1, 2, 3, 0, 4] rfl ?_
                        exact h97 x4_46
        · refine X_sub [] rfl ?_
          exact h26
def f_X12_minute (σ : Mm) : Option (Int32 × Mm) := bn (pI σ 0 0 (0 : Int32)) (fun σ2 => cl (f_X12_keeps σ2) (fun _ σ6 => cl (f_X12_passes σ6) (fun r10 σ10 => some (r10, σ10))))
set_option maxHeartbeats 4000000 in
set_option maxRecDepth 100000 in
theorem x_X12_minute (σ : Mm) : Con (wsOf SHM) yX12_minute cX12_minute 1 (some .int) 6 [.ref 0] σ (f_X12_minute σ) := by
  refine Con.of_X (by decide +kernel) (Nat.le_of_ble_eq_true rfl) ?_
  unfold f_X12_minute
  show X (wsOf SHM) RX12 cX12_minute 1 (some .int) 6 0 0 [(0, .ref 0)] [] σ _
  refine X_aload_n (pc := 0) (td kX12_minute 0 rfl) rfl 0 rfl ?_
  refine X_iconst (v := (0 : Int32)) (pc := 1) (td kX12_minute 1 rfl) (by decide) ?_
  refine X_putI (pc := 2) sM_0 rfl fk_X12_169 rfl rfl (td kX12_minute 2 rfl) (fun σ2 => ?_)
  refine X_aload_n (pc := 5) (td kX12_minute 3 rfl) rfl 0 rfl ?_
  refine X_callv (pc := 6) (As := []) (st := []) sM_0 (x_X12_keeps σ2) mkX12_keeps lk_X12_433 (by omega) rfl rfl (Nat.le_of_ble_eq_true rfl) (td kX12_minute 4 rfl) (fun _ σ6 _ => ?_)
  refine X_aload_n (pc := 9) (td kX12_minute 5 rfl) rfl 0 rfl ?_
  refine X_calli (pc := 10) (As := []) (st := []) sM_0 (x_X12_passes σ6) mkX12_passes lk_X12_436 (by omega) rfl rfl (Nat.le_of_ble_eq_true rfl) (td kX12_minute 6 rfl) (fun r10 σ10 _ hr10 => ?_)
  exact X_ret (pc := 13) (td kX12_minute 7 rfl) rfl
def f_X12_needsNew (σ : Mm) : Option (Int32 × Mm) := cl (f_X12_isKept σ) (fun r1 _ => (if r1 = 0 then cl (f_X12_placeNamed (1 : Int32) σ) (fun r15 _ => jn (cl (f_X12_fails (3 : Int32) σ) (fun r31 σ31 => some (r31, σ31))) (fun k29 => (if r15 < 0 then cl (f_X12_walkerNamed (1 : Int32) σ) (fun r23 _ => (if r23 < 0 then bn (pL σ 0 38 (gL σ 0 7)) (fun σ40 => cl (f_X12_nextToken σ40) (fun _ σ44 => some ((1 : Int32), σ44))) else k29)) else k29))) else cl (f_X12_fails (1 : Int32) σ) (fun r9 σ9 => some (r9, σ9))))
set_option maxHeartbeats 4000000 in
set_option maxRecDepth 100000 in
theorem x_X12_needsNew (σ : Mm) : Con (wsOf SHM) yX12_needsNew cX12_needsNew 1 (some .boolean) 3 [.ref 0] σ (f_X12_needsNew σ) := by
  refine Con.of_X (by decide +kernel) (Nat.le_of_ble_eq_true rfl) ?_
  unfold f_X12_needsNew
  show X (wsOf SHM) RX12 cX12_needsNew 1 (some .boolean) 3 0 0 [(0, .ref 0)] [] σ _
  refine X_aload_n (pc := 0) (td kX12_needsNew 0 rfl) rfl 0 rfl ?_
  refine X_callip (pc := 1) (As := []) (st := []) (p_X12_isKept σ) sM_0 (x_X12_isKept σ) mkX12_isKept lk_X12_294 (by omega) rfl rfl (Nat.le_of_ble_eq_true rfl) (td kX12_needsNew 1 rfl) (fun r1 hr1 => ?_)
  refine X_if_eq (pc := 4) (tgt := 13) (td kX12_needsNew 2 rfl) (by decide) (fun c_4 => ?_) (fun c_4 => ?_)
  · refine X_aload_n (pc := 13) (td kX12_needsNew 7 rfl) rfl 0 rfl ?_
    refine X_iconst (v := (1 : Int32)) (pc := 14) (td kX12_needsNew 8 rfl) (by decide) ?_
    refine X_callip (pc := 15) (As := [.int (1 : Int32)]) (st := []) (p_X12_placeNamed (1 : Int32) σ) sM_0 (x_X12_placeNamed (1 : Int32) σ) mkX12_placeNamed lk_X12_298 (by omega) rfl rfl (Nat.le_of_ble_eq_true rfl) (td kX12_needsNew 9 rfl) (fun r15 hr15 => ?_)
    refine X_jn (P := fun k => X (wsOf SHM) RX12 cX12_needsNew 1 (some .boolean) 3 0 29 [(0, .ref 0)] [] σ k) ?_ (fun k29 h29 => ?_)
    · refine X_aload_n (pc := 29) (td kX12_needsNew 15 rfl) rfl 0 rfl ?_
      refine X_iconst (v := (3 : Int32)) (pc := 30) (td kX12_needsNew 16 rfl) (by decide) ?_
      refine X_calli (pc := 31) (As := [.int (3 : Int32)]) (st := []) sM_0 (x_X12_fails (3 : Int32) σ) mkX12_fails lk_X12_232 (by omega) rfl rfl (Nat.le_of_ble_eq_true rfl) (td kX12_needsNew 17 rfl) (fun r31 σ31 _ hr31 => ?_)
      exact X_ret (pc := 34) (td kX12_needsNew 18 rfl) hr31
    · refine X_if_ge (pc := 18) (tgt := 29) (td kX12_needsNew 10 rfl) (by decide) (fun c_18 => ?_) (fun c_18 => ?_)
      · exact h29
      · refine X_aload_n (pc := 21) (td kX12_needsNew 11 rfl) rfl 0 rfl ?_
        refine X_iconst (v := (1 : Int32)) (pc := 22) (td kX12_needsNew 12 rfl) (by decide) ?_
        refine X_callip (pc := 23) (As := [.int (1 : Int32)]) (st := []) (p_X12_walkerNamed (1 : Int32) σ) sM_0 (x_X12_walkerNamed (1 : Int32) σ) mkX12_walkerNamed lk_X12_301 (by omega) rfl rfl (Nat.le_of_ble_eq_true rfl) (td kX12_needsNew 13 rfl) (fun r23 hr23 => ?_)
        refine X_if_lt (pc := 26) (tgt := 35) (td kX12_needsNew 14 rfl) (by decide) (fun c_26 => ?_) (fun c_26 => ?_)
        · refine X_aload_n (pc := 35) (td kX12_needsNew 19 rfl) rfl 0 rfl ?_
          refine X_aload_n (pc := 36) (td kX12_needsNew 20 rfl) rfl 0 rfl ?_
          refine X_getL (pc := 37) sM_0 rfl fk_X12_186 (td kX12_needsNew 21 rfl) ?_
          refine X_putL (pc := 40) sM_0 rfl fk_X12_304 (td kX12_needsNew 22 rfl) (fun σ40 => ?_)
          refine X_aload_n (pc := 43) (td kX12_needsNew 23 rfl) rfl 0 rfl ?_
          refine X_callv (pc := 44) (As := []) (st := []) sM_0 (x_X12_nextToken σ40) mkX12_nextToken lk_X12_239 (by omega) rfl rfl (Nat.le_of_ble_eq_true rfl) (td kX12_needsNew 24 rfl) (fun _ σ44 _ => ?_)
          refine X_iconst (v := (1 : Int32)) (pc := 47) (td kX12_needsNew 25 rfl) (by decide) ?_
          exact X_ret (pc := 48) (td kX12_needsNew 26 rfl) rfl
        · exact h29
  · refine X_aload_n (pc := 7) (td kX12_needsNew 3 rfl) rfl 0 rfl ?_
    refine X_iconst (v := (1 : Int32)) (pc := 8) (td kX12_needsNew 4 rfl) (by decide) ?_
    refine X_calli (pc := 9) (As := [.int (1 : Int32)]) (st := []) sM_0 (x_X12_fails (1 : Int32) σ) mkX12_fails lk_X12_232 (by omega) rfl rfl (Nat.le_of_ble_eq_true rfl) (td kX12_needsNew 5 rfl) (fun r9 σ9 _ hr9 => ?_)
    exact X_ret (pc := 12) (td kX12_needsNew 6 rfl) hr9
def f_X12_needsNumber (p1 : Int32) (p2 : Int32) (σ : Mm) : Option (Int32 × Mm) := (if (gI σ 0 6) = (2 : Int32) then cl (f_X12_within (gI σ 0 8) p1 p2 σ) (fun r20 _ => (if r20 = 0 then cl (f_X12_fails (4 : Int32) σ) (fun r28 σ28 => some (r28, σ28)) else bn (pI σ 0 37 (gI σ 0 8)) (fun σ37 => cl (f_X12_nextToken σ37) (fun _ σ41 => some ((1 : Int32), σ41))))) else cl (f_X12_fails (1 : Int32) σ) (fun r10 σ10 => some (r10, σ10)))
set_option maxHeartbeats 4000000 in
set_option maxRecDepth 100000 in
theorem x_X12_needsNumber (p1 : Int32) (p2 : Int32) (σ : Mm) : Con (wsOf SHM) yX12_needsNumber cX12_needsNumber 3 (some .boolean) 3 [.ref 0, .int p1, .int p2] σ (f_X12_needsNumber p1 p2 σ) := by
  refine Con.of_X (by decide +kernel) (Nat.le_of_ble_eq_true rfl) ?_
  unfold f_X12_needsNumber
  show X (wsOf SHM) RX12 cX12_needsNumber 3 (some .boolean) 3 0 0 [(0, .ref 0), (1, .int p1), (2, .int p2)] [] σ _
  refine X_aload_n (pc := 0) (td kX12_needsNumber 0 rfl) rfl 0 rfl ?_
  refine X_getI (pc := 1) sM_0 rfl fk_X12_193 (td kX12_needsNumber 1 rfl) ?_
  refine X_iconst (v := (2 : Int32)) (pc := 4) (td kX12_needsNumber 2 rfl) (by decide) ?_
  refine X_icmp_eq (pc := 5) (tgt := 14) (td kX12_needsNumber 3 rfl) (by decide) (fun c_5 => ?_) (fun c_5 => ?_)
  · refine X_aload_n (pc := 14) (td kX12_needsNumber 8 rfl) rfl 0 rfl ?_
    refine X_getI (pc := 15) sM_0 rfl fk_X12_190 (td kX12_needsNumber 9 rfl) ?_
    refine X_iload_n (pc := 18) (td kX12_needsNumber 10 rfl) rfl 1 rfl ?_
    refine X_iload_n (pc := 19) (td kX12_needsNumber 11 rfl) rfl 2 rfl ?_
    refine X_callsip (pc := 20) (As := [.int (gI σ 0 8), .int p1, .int p2]) (st := []) (p_X12_within (gI σ 0 8) p1 p2 σ) (x_X12_within (gI σ 0 8) p1 p2 σ) mkX12_within lk_X12_287 (by omega) rfl rfl (Nat.le_of_ble_eq_true rfl) (td kX12_needsNumber 12 rfl) (fun r20 hr20 => ?_)
    refine X_if_ne (pc := 23) (tgt := 32) (td kX12_needsNumber 13 rfl) (by decide) (fun c_23 => ?_) (fun c_23 => ?_)
    · refine X_aload_n (pc := 32) (td kX12_needsNumber 18 rfl) rfl 0 rfl ?_
      refine X_aload_n (pc := 33) (td kX12_needsNumber 19 rfl) rfl 0 rfl ?_
      refine X_getI (pc := 34) sM_0 rfl fk_X12_190 (td kX12_needsNumber 20 rfl) ?_
      refine X_putI (pc := 37) sM_0 rfl fk_X12_291 rfl rfl (td kX12_needsNumber 21 rfl) (fun σ37 => ?_)
      refine X_aload_n (pc := 40) (td kX12_needsNumber 22 rfl) rfl 0 rfl ?_
      refine X_callv (pc := 41) (As := []) (st := []) sM_0 (x_X12_nextToken σ37) mkX12_nextToken lk_X12_239 (by omega) rfl rfl (Nat.le_of_ble_eq_true rfl) (td kX12_needsNumber 23 rfl) (fun _ σ41 _ => ?_)
      refine X_iconst (v := (1 : Int32)) (pc := 44) (td kX12_needsNumber 24 rfl) (by decide) ?_
      exact X_ret (pc := 45) (td kX12_needsNumber 25 rfl) rfl
    · refine X_aload_n (pc := 26) (td kX12_needsNumber 14 rfl) rfl 0 rfl ?_
      refine X_iconst (v := (4 : Int32)) (pc := 27) (td kX12_needsNumber 15 rfl) (by decide) ?_
      refine X_calli (pc := 28) (As := [.int (4 : Int32)]) (st := []) sM_0 (x_X12_fails (4 : Int32) σ) mkX12_fails lk_X12_232 (by omega) rfl rfl (Nat.le_of_ble_eq_true rfl) (td kX12_needsNumber 16 rfl) (fun r28 σ28 _ hr28 => ?_)
      exact X_ret (pc := 31) (td kX12_needsNumber 17 rfl) hr28
  · refine X_aload_n (pc := 8) (td kX12_needsNumber 4 rfl) rfl 0 rfl ?_
    refine X_iconst (v := (1 : Int32)) (pc := 9) (td kX12_needsNumber 5 rfl) (by decide) ?_
    refine X_calli (pc := 10) (As := [.int (1 : Int32)]) (st := []) sM_0 (x_X12_fails (1 : Int32) σ) mkX12_fails lk_X12_232 (by omega) rfl rfl (Nat.le_of_ble_eq_true rfl) (td kX12_needsNumber 6 rfl) (fun r10 σ10 _ hr10 => ?_)
    exact X_ret (pc := 13) (td kX12_needsNumber 7 rfl) hr10
def f_X12_needsWord (p1 : Int64) (σ : Mm) : Option (Int32 × Mm) := cl (f_X12_isWord p1 σ) (fun r2 _ => (if r2 = 0 then cl (f_X12_fails (1 : Int32) σ) (fun r10 σ10 => some (r10, σ10)) else cl (f_X12_nextToken σ) (fun _ σ15 => some ((1 : Int32), σ15))))
set_option maxHeartbeats 4000000 in
set_option maxRecDepth 100000 in
theorem x_X12_needsWord (p1 : Int64) (σ : Mm) : Con (wsOf SHM) yX12_needsWord cX12_needsWord 3 (some .boolean) 3 [.ref 0, .long p1] σ (f_X12_needsWord p1 σ) := by
  refine Con.of_X (by decide +kernel) (Nat.le_of_ble_eq_true rfl) ?_
  unfold f_X12_needsWord
  show X (wsOf SHM) RX12 cX12_needsWord 3 (some .boolean) 3 0 0 [(0, .ref 0), (1, .long p1)] [] σ _
  refine X_aload_n (pc := 0) (td kX12_needsWord 0 rfl) rfl 0 rfl ?_
  refine X_lload_n (pc := 1) (td kX12_needsWord 1 rfl) rfl 1 rfl ?_
  refine X_callip (pc := 2) (As := [.long p1]) (st := []) (p_X12_isWord p1 σ) sM_0 (x_X12_isWord p1 σ) mkX12_isWord lk_X12_224 (by omega) rfl rfl (Nat.le_of_ble_eq_true rfl) (td kX12_needsWord 2 rfl) (fun r2 hr2 => ?_)
  refine X_if_ne (pc := 5) (tgt := 14) (td kX12_needsWord 3 rfl) (by decide) (fun c_5 => ?_) (fun c_5 => ?_)
  · refine X_aload_n (pc := 14) (td kX12_needsWord 8 rfl) rfl 0 rfl ?_
    refine X_callv (pc := 15) (As := []) (st := []) sM_0 (x_X12_nextToken σ) mkX12_nextToken lk_X12_239 (by omega) rfl rfl (Nat.le_of_ble_eq_true rfl) (td kX12_needsWord 9 rfl) (fun _ σ15 _ => ?_)
    refine X_iconst (v := (1 : Int32)) (pc := 18) (td kX12_needsWord 10 rfl) (by decide) ?_
    exact X_ret (pc := 19) (td kX12_needsWord 11 rfl) rfl
  · refine X_aload_n (pc := 8) (td kX12_needsWord 4 rfl) rfl 0 rfl ?_
    refine X_iconst (v := (1 : Int32)) (pc := 9) (td kX12_needsWord 5 rfl) (by decide) ?_
    refine X_calli (pc := 10) (As := [.int (1 : Int32)]) (st := []) sM_0 (x_X12_fails (1 : Int32) σ) mkX12_fails lk_X12_232 (by omega) rfl rfl (Nat.le_of_ble_eq_true rfl) (td kX12_needsWord 6 rfl) (fun r10 σ10 _ hr10 => ?_)
    exact X_ret (pc := 13) (td kX12_needsWord 7 rfl) hr10
def f_X12_next (p1 : Int32) (σ : Mm) : Option (Int32 × Mm) := bn (pI σ 0 0 (0 : Int32)) (fun σ2 => cl (f_X12_isWalker p1 σ2) (fun r7 _ => jn (some ((-1 : Int32), σ2)) (fun k29 => (if r7 = 0 then k29 else cl (f_X12_isOut p1 σ2) (fun r15 _ => (if r15 = 0 then k29 else cl (f_X12_lanesAhead p1 σ2) (fun r23 _ => some (r23, σ2))))))))
set_option maxHeartbeats 4000000 in
set_option maxRecDepth 100000 in
theorem x_X12_next (p1 : Int32) (σ : Mm) : Con (wsOf SHM) yX12_next cX12_next 2 (some .int) 4 [.ref 0, .int p1] σ (f_X12_next p1 σ) := by
  refine Con.of_X (by decide +kernel) (Nat.le_of_ble_eq_true rfl) ?_
  unfold f_X12_next
  show X (wsOf SHM) RX12 cX12_next 2 (some .int) 4 0 0 [(0, .ref 0), (1, .int p1)] [] σ _
  refine X_aload_n (pc := 0) (td kX12_next 0 rfl) rfl 0 rfl ?_
  refine X_iconst (v := (0 : Int32)) (pc := 1) (td kX12_next 1 rfl) (by decide) ?_
  refine X_putI (pc := 2) sM_0 rfl fk_X12_169 rfl rfl (td kX12_next 2 rfl) (fun σ2 => ?_)
  refine X_aload_n (pc := 5) (td kX12_next 3 rfl) rfl 0 rfl ?_
  refine X_iload_n (pc := 6) (td kX12_next 4 rfl) rfl 1 rfl ?_
  refine X_callip (pc := 7) (As := [.int p1]) (st := []) (p_X12_isWalker p1 σ2) sM_0 (x_X12_isWalker p1 σ2) mkX12_isWalker lk_X12_423 (by omega) rfl rfl (Nat.le_of_ble_eq_true rfl) (td kX12_next 5 rfl) (fun r7 hr7 => ?_)
  refine X_jn (P := fun k => X (wsOf SHM) RX12 cX12_next 2 (some .int) 4 0 29 [] [] σ2 k) ?_ (fun k29 h29 => ?_)
  · refine X_iconst (v := (-1 : Int32)) (pc := 29) (td kX12_next 15 rfl) (by decide) ?_
    exact X_ret (pc := 30) (td kX12_next 16 rfl) rfl
  · refine X_if_eq (pc := 10) (tgt := 29) (td kX12_next 6 rfl) (by decide) (fun c_10 => ?_) (fun c_10 => ?_)
    · refine X_sub [] rfl ?_
      exact h29
    · refine X_aload_n (pc := 13) (td kX12_next 7 rfl) rfl 0 rfl ?_
      refine X_iload_n (pc := 14) (td kX12_next 8 rfl) rfl 1 rfl ?_
      refine X_callip (pc := 15) (As := [.int p1]) (st := []) (p_X12_isOut p1 σ2) sM_0 (x_X12_isOut p1 σ2) mkX12_isOut lk_X12_408 (by omega) rfl rfl (Nat.le_of_ble_eq_true rfl) (td kX12_next 9 rfl) (fun r15 hr15 => ?_)
      refine X_if_eq (pc := 18) (tgt := 29) (td kX12_next 10 rfl) (by decide) (fun c_18 => ?_) (fun c_18 => ?_)
      · refine X_sub [] rfl ?_
        exact h29
      · refine X_aload_n (pc := 21) (td kX12_next 11 rfl) rfl 0 rfl ?_
        refine X_iload_n (pc := 22) (td kX12_next 12 rfl) rfl 1 rfl ?_
        refine X_callip (pc := 23) (As := [.int p1]) (st := []) (p_X12_lanesAhead p1 σ2) sM_0 (x_X12_lanesAhead p1 σ2) mkX12_lanesAhead lk_X12_411 (by omega) rfl rfl (Nat.le_of_ble_eq_true rfl) (td kX12_next 13 rfl) (fun r23 hr23 => ?_)
        refine X_goto (pc := 26) (tgt := 30) (td kX12_next 14 rfl) (by decide) ?_
        exact X_ret (pc := 30) (td kX12_next 16 rfl) rfl
def F_X12_nights_81 (k114 : Mm → Option (Int32 × Mm)) (rec81 : Int32 → Mm → Option (Int32 × Mm)) (x8_81 : Int32) (σ_81 : Mm) : Option (Int32 × Mm) := ck (inb (2 : Int32) 8) ((if x8_81 < (gI σ_81 2 (2 : Int32).toNatClampNeg) then cl (f_X12_draws (31 : Int32) σ_81) (fun r104 σ104 => ck (inb ((23 : Int32) + x8_81) 41) (bn (pI σ104 36 ((23 : Int32) + x8_81).toNatClampNeg r104) (fun σ107 => rec81 (x8_81 + (1 : Int32)) σ107))) else k114 σ_81))
def F_X12_nights_68 (p2 : Int32) (k153 : Int32 → Int32 → Int32 → Mm → Option (Int32 × Mm)) (rec68 : Int32 → Int32 → Int32 → Int32 → Mm → Option (Int32 × Mm)) (x4_68 : Int32) (x5_68 : Int32) (x6_68 : Int32) (x7_68 : Int32) (σ_68 : Mm) : Option (Int32 × Mm) := (if x7_68 < p2 then cl (f_X12_fresh σ_68) (fun _ σ75 => jn (fun (σ_114 : Mm) => cl (f_X12_goesHome σ_114) (fun _ σ115 => bn (x4_68 + (gI σ115 0 61)) (fun v4_125 => bn (imx x5_68 (gI σ115 0 61)) (fun v5_136 => bn (x6_68 + (gI σ115 0 62)) (fun v6_145 => rec68 v4_125 v5_136 v6_145 (x7_68 + (1 : Int32)) σ115))))) (fun k114 => lq2 (F_X12_nights_81 k114) 1000000 (0 : Int32) σ75)) else k153 x4_68 x5_68 x6_68 σ_68)
def f_X12_nights (p1 : Int32) (p2 : Int32) (p3 : Int32) (σ : Mm) : Option (Int32 × Mm) := bn (pI σ 0 0 (0 : Int32)) (fun σ2 => cl (f_X12_within p1 (0 : Int32) (9999 : Int32) σ2) (fun r10 _ => jn (some ((-1 : Int32), σ2)) (fun k35 => (if r10 = 0 then k35 else cl (f_X12_within p2 (1 : Int32) (20 : Int32) σ2) (fun r20 _ => (if r20 = 0 then k35 else cl (f_X12_within p3 (0 : Int32) (2 : Int32) σ2) (fun r29 _ => (if r29 = 0 then k35 else bn (pL σ2 0 72 p1.toInt64) (fun σ40 => cl (f_X12_copies 36 (0 : Int32) 37 (0 : Int32) σ40) (fun _ σ53 => jn (fun (x4_153 : Int32) (x5_153 : Int32) (x6_153 : Int32) (σ_153 : Mm) => cl (f_X12_copies 37 (0 : Int32) 36 (0 : Int32) σ_153) (fun _ σ163 => (if p3 = 0 then some (x4_153, σ163) else (if p3 = (1 : Int32) then some (x5_153, σ163) else some (x6_153, σ163))))) (fun k153 => lq5 (F_X12_nights_68 p2 k153) 1000000 (0 : Int32) (0 : Int32) (0 : Int32) (0 : Int32) σ53)))))))))))
set_option maxHeartbeats 4000000 in
set_option maxRecDepth 100000 in
theorem x_X12_nights (p1 : Int32) (p2 : Int32) (p3 : Int32) (σ : Mm) : Con (wsOf SHM) yX12_nights cX12_nights 9 (some .int) 7 [.ref 0, .int p1, .int p2, .int p3] σ (f_X12_nights p1 p2 p3 σ) := by
  refine Con.of_X (by decide +kernel) (Nat.le_of_ble_eq_true rfl) ?_
  unfold f_X12_nights
  show X (wsOf SHM) RX12 cX12_nights 9 (some .int) 7 0 0 [(0, .ref 0), (1, .int p1), (2, .int p2), (3, .int p3)] [] σ _
  refine X_aload_n (pc := 0) (td kX12_nights 0 rfl) rfl 0 rfl ?_
  refine X_iconst (v := (0 : Int32)) (pc := 1) (td kX12_nights 1 rfl) (by decide) ?_
  refine X_putI (pc := 2) sM_0 rfl fk_X12_169 rfl rfl (td kX12_nights 2 rfl) (fun σ2 => ?_)
  refine X_iload_n (pc := 5) (td kX12_nights 3 rfl) rfl 1 rfl ?_
  refine X_iconst (v := (0 : Int32)) (pc := 6) (td kX12_nights 4 rfl) (by decide) ?_
  refine X_sipush (v := (9999 : Int32)) (pc := 7) (td kX12_nights 5 rfl) (by decide) ?_
  refine X_callsip (pc := 10) (As := [.int p1, .int (0 : Int32), .int (9999 : Int32)]) (st := []) (p_X12_within p1 (0 : Int32) (9999 : Int32) σ2) (x_X12_within p1 (0 : Int32) (9999 : Int32) σ2) mkX12_within lk_X12_287 (by omega) rfl rfl (Nat.le_of_ble_eq_true rfl) (td kX12_nights 6 rfl) (fun r10 hr10 => ?_)
  refine X_jn (P := fun k => X (wsOf SHM) RX12 cX12_nights 9 (some .int) 7 0 35 [] [] σ2 k) ?_ (fun k35 h35 => ?_)
  · refine X_iconst (v := (-1 : Int32)) (pc := 35) (td kX12_nights 18 rfl) (by decide) ?_
    exact X_ret (pc := 36) (td kX12_nights 19 rfl) rfl
  · refine X_if_eq (pc := 13) (tgt := 35) (td kX12_nights 7 rfl) (by decide) (fun c_13 => ?_) (fun c_13 => ?_)
    · refine X_sub [] rfl ?_
      exact h35
    · refine X_iload_n (pc := 16) (td kX12_nights 8 rfl) rfl 2 rfl ?_
      refine X_iconst (v := (1 : Int32)) (pc := 17) (td kX12_nights 9 rfl) (by decide) ?_
      refine X_bipush (v := (20 : Int32)) (pc := 18) (td kX12_nights 10 rfl) (by decide) ?_
      refine X_callsip (pc := 20) (As := [.int p2, .int (1 : Int32), .int (20 : Int32)]) (st := []) (p_X12_within p2 (1 : Int32) (20 : Int32) σ2) (x_X12_within p2 (1 : Int32) (20 : Int32) σ2) mkX12_within lk_X12_287 (by omega) rfl rfl (Nat.le_of_ble_eq_true rfl) (td kX12_nights 11 rfl) (fun r20 hr20 => ?_)
      refine X_if_eq (pc := 23) (tgt := 35) (td kX12_nights 12 rfl) (by decide) (fun c_23 => ?_) (fun c_23 => ?_)
      · refine X_sub [] rfl ?_
        exact h35
      · refine X_iload_n (pc := 26) (td kX12_nights 13 rfl) rfl 3 rfl ?_
        refine X_iconst (v := (0 : Int32)) (pc := 27) (td kX12_nights 14 rfl) (by decide) ?_
        refine X_iconst (v := (2 : Int32)) (pc := 28) (td kX12_nights 15 rfl) (by decide) ?_
        refine X_callsip (pc := 29) (As := [.int p3, .int (0 : Int32), .int (2 : Int32)]) (st := []) (p_X12_within p3 (0 : Int32) (2 : Int32) σ2) (x_X12_within p3 (0 : Int32) (2 : Int32) σ2) mkX12_within lk_X12_287 (by omega) rfl rfl (Nat.le_of_ble_eq_true rfl) (td kX12_nights 16 rfl) (fun r29 hr29 => ?_)
        refine X_if_ne (pc := 32) (tgt := 37) (td kX12_nights 17 rfl) (by decide) (fun c_32 => ?_) (fun c_32 => ?_)
        · refine X_aload_n (pc := 37) (td kX12_nights 20 rfl) rfl 0 rfl ?_
          refine X_iload_n (pc := 38) (td kX12_nights 21 rfl) rfl 1 rfl ?_
          refine X_i2l (pc := 39) (td kX12_nights 22 rfl) ?_
          refine X_putL (pc := 40) sM_0 rfl fk_X12_506 (td kX12_nights 23 rfl) (fun σ40 => ?_)
          refine X_aload_n (pc := 43) (td kX12_nights 24 rfl) rfl 0 rfl ?_
          refine X_getF (b := 36) (pc := 44) sM_0 rfl fk_X12_117 (td kX12_nights 25 rfl) ?_
          refine X_iconst (v := (0 : Int32)) (pc := 47) (td kX12_nights 26 rfl) (by decide) ?_
          refine X_aload_n (pc := 48) (td kX12_nights 27 rfl) rfl 0 rfl ?_
          refine X_getF (b := 37) (pc := 49) sM_0 rfl fk_X12_120 (td kX12_nights 28 rfl) ?_
          refine X_iconst (v := (0 : Int32)) (pc := 52) (td kX12_nights 29 rfl) (by decide) ?_
          refine X_callsv (pc := 53) (As := [.ref 36, .int (0 : Int32), .ref 37, .int (0 : Int32)]) (st := []) (x_X12_copies 36 (0 : Int32) 37 (0 : Int32) σ40) mkX12_copies lk_X12_429 (by omega) rfl rfl (Nat.le_of_ble_eq_true rfl) (td kX12_nights 30 rfl) (fun _ σ53 _ => ?_)
          refine X_iconst (v := (0 : Int32)) (pc := 56) (td kX12_nights 31 rfl) (by decide) ?_
          refine X_istore (L' := [(4, .int (0 : Int32)), (0, .ref 0), (1, .int p1), (2, .int p2), (3, .int p3)]) (pc := 57) (td kX12_nights 32 rfl) (by decide) rfl ?_
          refine X_iconst (v := (0 : Int32)) (pc := 59) (td kX12_nights 33 rfl) (by decide) ?_
          refine X_istore (L' := [(5, .int (0 : Int32)), (4, .int (0 : Int32)), (0, .ref 0), (1, .int p1), (2, .int p2), (3, .int p3)]) (pc := 60) (td kX12_nights 34 rfl) (by decide) rfl ?_
          refine X_iconst (v := (0 : Int32)) (pc := 62) (td kX12_nights 35 rfl) (by decide) ?_
          refine X_istore (L' := [(6, .int (0 : Int32)), (5, .int (0 : Int32)), (4, .int (0 : Int32)), (0, .ref 0), (1, .int p1), (2, .int p2), (3, .int p3)]) (pc := 63) (td kX12_nights 36 rfl) (by decide) rfl ?_
          refine X_iconst (v := (0 : Int32)) (pc := 65) (td kX12_nights 37 rfl) (by decide) ?_
          refine X_istore (L' := [(7, .int (0 : Int32)), (6, .int (0 : Int32)), (5, .int (0 : Int32)), (4, .int (0 : Int32)), (0, .ref 0), (1, .int p1), (2, .int p2), (3, .int p3)]) (pc := 66) (td kX12_nights 38 rfl) (by decide) rfl ?_
          refine X_jn (P := fun k => ∀ (x4_153 : Int32) (x5_153 : Int32) (x6_153 : Int32) (σ_153 : Mm), X (wsOf SHM) RX12 cX12_nights 9 (some .int) 7 0 153 [(0, .ref 0), (3, .int p3), (4, .int x4_153), (5, .int x5_153), (6, .int x6_153)] [] σ_153 (k x4_153 x5_153 x6_153 σ_153)) (fun x4_153 x5_153 x6_153 σ_153 => ?_) (fun k153 h153 => ?_)
          · refine X_aload_n (pc := 153) (td kX12_nights 82 rfl) rfl 0 rfl ?_
            refine X_getF (b := 37) (pc := 154) sM_0 rfl fk_X12_120 (td kX12_nights 83 rfl) ?_
            refine X_iconst (v := (0 : Int32)) (pc := 157) (td kX12_nights 84 rfl) (by decide) ?_
            refine X_aload_n (pc := 158) (td kX12_nights 85 rfl) rfl 0 rfl ?_
            refine X_getF (b := 36) (pc := 159) sM_0 rfl fk_X12_117 (td kX12_nights 86 rfl) ?_
            refine X_iconst (v := (0 : Int32)) (pc := 162) (td kX12_nights 87 rfl) (by decide) ?_
            refine X_callsv (pc := 163) (As := [.ref 37, .int (0 : Int32), .ref 36, .int (0 : Int32)]) (st := []) (x_X12_copies 37 (0 : Int32) 36 (0 : Int32) σ_153) mkX12_copies lk_X12_429 (by omega) rfl rfl (Nat.le_of_ble_eq_true rfl) (td kX12_nights 88 rfl) (fun _ σ163 _ => ?_)
            refine X_iload_n (pc := 166) (td kX12_nights 89 rfl) rfl 1 rfl ?_
            refine X_if_ne (pc := 167) (tgt := 175) (td kX12_nights 90 rfl) (by decide) (fun c_167 => ?_) (fun c_167 => ?_)
            · refine X_iload_n (pc := 175) (td kX12_nights 93 rfl) rfl 1 rfl ?_
              refine X_iconst (v := (1 : Int32)) (pc := 176) (td kX12_nights 94 rfl) (by decide) ?_
              refine X_icmp_ne (pc := 177) (tgt := 185) (td kX12_nights 95 rfl) (by decide) (fun c_177 => ?_) (fun c_177 => ?_)
              · refine X_iload (pc := 185) (td kX12_nights 98 rfl) 4 rfl ?_
                exact X_ret (pc := 187) (td kX12_nights 99 rfl) rfl
              · refine X_iload (pc := 180) (td kX12_nights 96 rfl) 3 rfl ?_
                refine X_goto (pc := 182) (tgt := 187) (td kX12_nights 97 rfl) (by decide) ?_
                exact X_ret (pc := 187) (td kX12_nights 99 rfl) rfl
            · refine X_iload (pc := 170) (td kX12_nights 91 rfl) 2 rfl ?_
              refine X_goto (pc := 172) (tgt := 187) (td kX12_nights 92 rfl) (by decide) ?_
              exact X_ret (pc := 187) (td kX12_nights 99 rfl) rfl
          · refine X_sub [4, 6, 7, 3, 2, 1, 0] rfl ?_
            refine lq5_ind (P := fun x4_68 x5_68 x6_68 x7_68 σ_68 E => X (wsOf SHM) RX12 cX12_nights 9 (some .int) 7 0 68 [(0, .ref 0), (2, .int p2), (3, .int p3), (4, .int x4_68), (5, .int x5_68), (6, .int x6_68), (7, .int x7_68)] [] σ_68 E) (fun _ _ _ _ _ => X_none) (fun rec68 hrec68 x4_68 x5_68 x6_68 x7_68 σ_68 => ?_) _ _ _ _ _ _
            unfold F_X12_nights_68
            refine X_iload (pc := 68) (td kX12_nights 39 rfl) 6 rfl ?_
            refine X_iload_n (pc := 70) (td kX12_nights 40 rfl) rfl 1 rfl ?_
            refine X_icmp_ge (pc := 71) (tgt := 153) (td kX12_nights 41 rfl) (by decide) (fun c_71 => ?_) (fun c_71 => ?_)
            · refine X_sub [0, 2, 3, 4, 5] rfl ?_
              exact h153 x4_68 x5_68 x6_68 σ_68
            · refine X_aload_n (pc := 74) (td kX12_nights 42 rfl) rfl 0 rfl ?_
              refine X_callv (pc := 75) (As := []) (st := []) sM_0 (x_X12_fresh σ_68) mkX12_fresh lk_X12_166 (by omega) rfl rfl (Nat.le_of_ble_eq_true rfl) (td kX12_nights 43 rfl) (fun _ σ75 _ => ?_)
              refine X_iconst (v := (0 : Int32)) (pc := 78) (td kX12_nights 44 rfl) (by decide) ?_
              refine X_istore (L' := [(8, .int (0 : Int32)), (0, .ref 0), (2, .int p2), (3, .int p3), (4, .int x4_68), (5, .int x5_68), (6, .int x6_68), (7, .int x7_68)]) (pc := 79) (td kX12_nights 45 rfl) (by decide) rfl ?_
              refine X_jn (P := fun k => ∀ (σ_114 : Mm), X (wsOf SHM) RX12 cX12_nights 9 (some .int) 7 0 114 [(0, .ref 0), (2, .int p2), (3, .int p3), (4, .int x4_68), (5, .int x5_68), (6, .int x6_68), (7, .int x7_68)] [] σ_114 (k σ_114)) (fun σ_114 => ?_) (fun k114 h114 => ?_)
              · refine X_aload_n (pc := 114) (td kX12_nights 63 rfl) rfl 0 rfl ?_
                refine X_callv (pc := 115) (As := []) (st := []) sM_0 (x_X12_goesHome σ_114) mkX12_goesHome lk_X12_475 (by omega) rfl rfl (Nat.le_of_ble_eq_true rfl) (td kX12_nights 64 rfl) (fun _ σ115 _ => ?_)
                refine X_iload (pc := 118) (td kX12_nights 65 rfl) 3 rfl ?_
                refine X_aload_n (pc := 120) (td kX12_nights 66 rfl) rfl 0 rfl ?_
                refine X_getI (pc := 121) sM_0 rfl fk_X12_457 (td kX12_nights 67 rfl) ?_
                refine X_iadd (pc := 124) (td kX12_nights 68 rfl) ?_
                refine X_bi (fun v4_125 => ?_)
                refine X_istore (L' := [(4, .int v4_125), (0, .ref 0), (2, .int p2), (3, .int p3), (5, .int x5_68), (6, .int x6_68), (7, .int x7_68)]) (pc := 125) (td kX12_nights 69 rfl) (by decide) rfl ?_
                refine X_iload (pc := 127) (td kX12_nights 70 rfl) 4 rfl ?_
                refine X_aload_n (pc := 129) (td kX12_nights 71 rfl) rfl 1 rfl ?_
                refine X_getI (pc := 130) sM_0 rfl fk_X12_457 (td kX12_nights 72 rfl) ?_
                refine X_mmax2 (pc := 133) (td kX12_nights 73 rfl) lm_X12_405 (by omega) (Nat.le_of_ble_eq_true rfl) ?_
                refine X_bi (fun v5_136 => ?_)
                refine X_istore (L' := [(5, .int v5_136), (4, .int v4_125), (0, .ref 0), (2, .int p2), (3, .int p3), (6, .int x6_68), (7, .int x7_68)]) (pc := 136) (td kX12_nights 74 rfl) (by decide) rfl ?_
                refine X_iload (pc := 138) (td kX12_nights 75 rfl) 5 rfl ?_
                refine X_aload_n (pc := 140) (td kX12_nights 76 rfl) rfl 2 rfl ?_
                refine X_getI (pc := 141) sM_0 rfl fk_X12_460 (td kX12_nights 77 rfl) ?_
                refine X_iadd (pc := 144) (td kX12_nights 78 rfl) ?_
                refine X_bi (fun v6_145 => ?_)
                refine X_istore (L' := [(6, .int v6_145), (5, .int v5_136), (4, .int v4_125), (0, .ref 0), (2, .int p2), (3, .int p3), (7, .int x7_68)]) (pc := 145) (td kX12_nights 79 rfl) (by decide) rfl ?_
                refine X_iinc (v := (x7_68 + (1 : Int32))) (L' := [(7, .int (x7_68 + (1 : Int32))), (6, .int v6_145), (5, .int v5_136), (4, .int v4_125), (0, .ref 0), (2, .int p2), (3, .int p3)]) (pc := 147) (td kX12_nights 80 rfl) 6 rfl rfl (by decide) rfl ?_
                refine X_goto (pc := 150) (tgt := 68) (td kX12_nights 81 rfl) (by decide) ?_
                refine X_sub [4, 5, 6, 3, 2, 1, 0] rfl ?_
                exact hrec68 v4_125 v5_136 v6_145 (x7_68 + (1 : Int32)) σ115
              · refine X_sub [1, 2, 3, 4, 5, 6, 7, 0] rfl ?_
                refine lq2_ind (P := fun x8_81 σ_81 E => X (wsOf SHM) RX12 cX12_nights 9 (some .int) 7 0 81 [(0, .ref 0), (2, .int p2), (3, .int p3), (4, .int x4_68), (5, .int x5_68), (6, .int x6_68), (7, .int x7_68), (8, .int x8_81)] [] σ_81 E) (fun _ _ => X_none) (fun rec81 hrec81 x8_81 σ_81 => ?_) _ _ _
                unfold F_X12_nights_81
                refine X_iload (pc := 81) (td kX12_nights 46 rfl) 7 rfl ?_
                refine X_aload_n (pc := 83) (td kX12_nights 47 rfl) rfl 0 rfl ?_
                refine X_getF (b := 2) (pc := 84) sM_0 rfl fk_X12_13 (td kX12_nights 48 rfl) ?_
                refine X_iconst (v := (2 : Int32)) (pc := 87) (td kX12_nights 49 rfl) (by decide) ?_
                refine X_iald (pc := 88) sM_2 (td kX12_nights 50 rfl) ?_
                refine X_icmp_ge (pc := 89) (tgt := 114) (td kX12_nights 51 rfl) (by decide) (fun c_89 => ?_) (fun c_89 => ?_)
                · refine X_sub [0, 1, 2, 3, 4, 5, 6] rfl ?_
                  exact h114 σ_81
                · refine X_aload_n (pc := 92) (td kX12_nights 52 rfl) rfl 0 rfl ?_
                  refine X_getF (b := 36) (pc := 93) sM_0 rfl fk_X12_117 (td kX12_nights 53 rfl) ?_
                  refine X_bipush (v := (23 : Int32)) (pc := 96) (td kX12_nights 54 rfl) (by decide) ?_
                  refine X_iload (pc := 98) (td kX12_nights 55 rfl) 7 rfl ?_
                  refine X_iadd (pc := 100) (td kX12_nights 56 rfl) ?_
                  refine X_aload_n (pc := 101) (td kX12_nights 57 rfl) rfl 0 rfl ?_
                  refine X_bipush (v := (31 : Int32)) (pc := 102) (td kX12_nights 58 rfl) (by decide) ?_
                  refine X_calli (pc := 104) (As := [.int (31 : Int32)]) (st := [.int ((23 : Int32) + x8_81), .ref 36]) sM_0 (x_X12_draws (31 : Int32) σ_81) mkX12_draws lk_X12_517 (by omega) rfl rfl (Nat.le_of_ble_eq_true rfl) (td kX12_nights 59 rfl) (fun r104 σ104 _ hr104 => ?_)
                  refine X_iast (pc := 107) sM_36 (td kX12_nights 60 rfl) (fun σ107 => ?_)
                  refine X_iinc (v := (x8_81 + (1 : Int32))) (L' := [(8, .int (x8_81 + (1 : Int32))), (0, .ref 0), (2, .int p2), (3, .int p3), (4, .int x4_68), (5, .int x5_68), (6, .int x6_68), (7, .int x7_68)]) (pc := 108) (td kX12_nights 61 rfl) 7 rfl rfl (by decide) rfl ?_
                  refine X_goto (pc := 111) (tgt := 81) (td kX12_nights 62 rfl) (by decide) ?_
                  refine X_sub [1, 2, 3, 4, 5, 6, 7, 0] rfl ?_
                  exact hrec81 (x8_81 + (1 : Int32)) σ107
        · refine X_sub [] rfl ?_
          exact h35
def f_X12_oil (σ : Mm) : Option (Int32 × Mm) := bn (pI σ 0 0 (0 : Int32)) (fun σ2 => cl (f_X12_tries σ2) (fun _ σ6 => some ((gI σ6 0 62), σ6)))
set_option maxHeartbeats 4000000 in
set_option maxRecDepth 100000 in
theorem x_X12_oil (σ : Mm) : Con (wsOf SHM) yX12_oil cX12_oil 1 (some .int) 8 [.ref 0] σ (f_X12_oil σ) := by
  refine Con.of_X (by decide +kernel) (Nat.le_of_ble_eq_true rfl) ?_
  unfold f_X12_oil
  show X (wsOf SHM) RX12 cX12_oil 1 (some .int) 8 0 0 [(0, .ref 0)] [] σ _
  refine X_aload_n (pc := 0) (td kX12_oil 0 rfl) rfl 0 rfl ?_
  refine X_iconst (v := (0 : Int32)) (pc := 1) (td kX12_oil 1 rfl) (by decide) ?_
  refine X_putI (pc := 2) sM_0 rfl fk_X12_169 rfl rfl (td kX12_oil 2 rfl) (fun σ2 => ?_)
  refine X_aload_n (pc := 5) (td kX12_oil 3 rfl) rfl 0 rfl ?_
  refine X_callv (pc := 6) (As := []) (st := []) sM_0 (x_X12_tries σ2) mkX12_tries lk_X12_478 (by omega) rfl rfl (Nat.le_of_ble_eq_true rfl) (td kX12_oil 4 rfl) (fun _ σ6 _ => ?_)
  refine X_aload_n (pc := 9) (td kX12_oil 5 rfl) rfl 0 rfl ?_
  refine X_getI (pc := 10) sM_0 rfl fk_X12_460 (td kX12_oil 6 rfl) ?_
  exact X_ret (pc := 13) (td kX12_oil 7 rfl) rfl
def f_X12_puts (p1 : Int32) (σ : Mm) : Option (Int32 × Mm) := ck (inb (gI σ 0 23) 2000) (bn (pI σ 14 (gI σ 0 23).toNatClampNeg p1) (fun σ9 => bn (pI σ9 0 23 ((gI σ9 0 23) + (1 : Int32))) (fun σ17 => some (0, σ17))))
set_option maxHeartbeats 4000000 in
set_option maxRecDepth 100000 in
theorem x_X12_puts (p1 : Int32) (σ : Mm) : Con (wsOf SHM) yX12_puts cX12_puts 2 none 1 [.ref 0, .int p1] σ (f_X12_puts p1 σ) := by
  refine Con.of_X (by decide +kernel) (Nat.le_of_ble_eq_true rfl) ?_
  unfold f_X12_puts
  show X (wsOf SHM) RX12 cX12_puts 2 none 1 0 0 [(0, .ref 0), (1, .int p1)] [] σ _
  refine X_aload_n (pc := 0) (td kX12_puts 0 rfl) rfl 0 rfl ?_
  refine X_getF (b := 14) (pc := 1) sM_0 rfl fk_X12_50 (td kX12_puts 1 rfl) ?_
  refine X_aload_n (pc := 4) (td kX12_puts 2 rfl) rfl 0 rfl ?_
  refine X_getI (pc := 5) sM_0 rfl fk_X12_207 (td kX12_puts 3 rfl) ?_
  refine X_iload_n (pc := 8) (td kX12_puts 4 rfl) rfl 1 rfl ?_
  refine X_iast (pc := 9) sM_14 (td kX12_puts 5 rfl) (fun σ9 => ?_)
  refine X_aload_n (pc := 10) (td kX12_puts 6 rfl) rfl 0 rfl ?_
  refine X_dup (pc := 11) (td kX12_puts 7 rfl) rfl ?_
  refine X_getI (pc := 12) sM_0 rfl fk_X12_207 (td kX12_puts 8 rfl) ?_
  refine X_iconst (v := (1 : Int32)) (pc := 15) (td kX12_puts 9 rfl) (by decide) ?_
  refine X_iadd (pc := 16) (td kX12_puts 10 rfl) ?_
  refine X_putI (pc := 17) sM_0 rfl fk_X12_207 rfl rfl (td kX12_puts 11 rfl) (fun σ17 => ?_)
  exact X_retv (pc := 20) (td kX12_puts 12 rfl)
def F_X12_reads_379 (x2_11 : Int32) (k424 : Int32 → Int32 → Mm → Option (Int32 × Mm)) (σ373 : Mm) (rec379 : Int32 → Option (Int32 × Mm)) (x1_379 : Int32) : Option (Int32 × Mm) := (if 0 < x1_379 then ck (inb x1_379 7) ((if (gI σ373 15 x1_379.toNatClampNeg) = (1 : Int32) then rec379 (x1_379 + (-1 : Int32)) else k424 x1_379 x2_11 σ373)) else k424 x1_379 x2_11 σ373)
def J_X12_reads_304 (x1_11 : Int32) (x2_11 : Int32) (σ_11 : Mm) (k424 : Int32 → Int32 → Mm → Option (Int32 × Mm)) : Option (Int32 × Mm) := cl (f_X12_isWord (1111 : Int64) σ_11) (fun r308 _ => jn (cl (f_X12_isWord (1111 : Int64) σ_11) (fun r329 _ => jn (fun (y1_342 : Int32) => cl (f_X12_puts y1_342 σ_11) (fun _ σ342 => ck (inb x1_11 7) (bn (pI σ342 16 x1_11.toNatClampNeg (vp_nar .boolean (0 : Int32))) (fun σ351 => k424 x1_11 (1 : Int32) σ351)))) (fun k342 => (if r329 = 0 then k342 (27 : Int32) else k342 (26 : Int32))))) (fun k324 => (if r308 = 0 then cl (f_X12_isWord (423 : Int64) σ_11) (fun r318 _ => (if r318 = 0 then cl (f_X12_isSign (41 : Int32) σ_11) (fun r360 _ => jn (jn (cl (f_X12_fails (1 : Int32) σ_11) (fun r420 σ420 => some (r420, σ420))) (fun k418 => (if x1_11 = 0 then cl (f_X12_isSign (59 : Int32) σ_11) (fun r406 _ => (if r406 = 0 then k418 else cl (f_X12_nextToken σ_11) (fun _ σ413 => some ((1 : Int32), σ413)))) else k418))) (fun k399 => (if r360 = 0 then k399 else (if 0 < x1_11 then cl (f_X12_puts (29 : Int32) σ_11) (fun _ σ373 => lq1 (F_X12_reads_379 x2_11 k424 σ373) 1000000 (x1_11 + (-1 : Int32))) else k399)))) else k324)) else k324)))
def J_X12_reads_263 (x1_11 : Int32) (σ_11 : Mm) (k424 : Int32 → Int32 → Mm → Option (Int32 × Mm)) (k304 : Option (Int32 × Mm)) : Option (Int32 × Mm) := ck (inb x1_11 7) ((if (gI σ_11 16 x1_11.toNatClampNeg) = 0 then cl (f_X12_isSign (60 : Int32) σ_11) (fun r276 _ => jn (fun (y1_289 : Int32) => cl (f_X12_puts y1_289 σ_11) (fun _ σ289 => ck (inb x1_11 7) (bn (pI σ289 16 x1_11.toNatClampNeg (vp_nar .boolean (1 : Int32))) (fun σ298 => k424 x1_11 (1 : Int32) σ298)))) (fun k289 => (if r276 = 0 then k289 (25 : Int32) else k289 (24 : Int32)))) else k304))
def J_X12_reads_99 (x1_11 : Int32) (x2_11 : Int32) (σ_11 : Mm) (r24 : Int32) (k172 : Int32 → Int32 → Mm → Option (Int32 × Mm)) (y1_99 : Int32) : Option (Int32 × Mm) := cl (f_X12_puts y1_99 σ_11) (fun _ σ99 => jn (fun (y2_120 : Int32) => ck (inb (x1_11 + (1 : Int32)) 7) (bn (pI σ99 15 (x1_11 + (1 : Int32)).toNatClampNeg y2_120) (fun σ120 => ck (inb (x1_11 + (1 : Int32)) 7) (bn (pI σ120 16 (x1_11 + (1 : Int32)).toNatClampNeg (vp_nar .boolean (0 : Int32))) (fun σ127 => k172 (x1_11 + (1 : Int32)) x2_11 σ127))))) (fun k120 => (if r24 = 0 then k120 (2 : Int32) else k120 (1 : Int32))))
def F_X12_reads_152 (k172 : Int32 → Int32 → Mm → Option (Int32 × Mm)) (σ147 : Mm) (rec152 : Int32 → Option (Int32 × Mm)) (x1_152 : Int32) : Option (Int32 × Mm) := (if 0 < x1_152 then ck (inb x1_152 7) ((if (gI σ147 15 x1_152.toNatClampNeg) = (1 : Int32) then rec152 (x1_152 + (-1 : Int32)) else k172 x1_152 (0 : Int32) σ147)) else k172 x1_152 (0 : Int32) σ147)
def J_X12_reads_65 (rec11 : Int32 → Int32 → Mm → Option (Int32 × Mm)) (x1_11 : Int32) (x2_11 : Int32) (σ_11 : Mm) (r16 : Int32) (r24 : Int32) (r32 : Int32) : Option (Int32 × Mm) := (if x1_11 = (5 : Int32) then cl (f_X12_fails (5 : Int32) σ_11) (fun r72 σ72 => some (r72, σ72)) else jn (fun (x1_172 : Int32) (x2_172 : Int32) (σ_172 : Mm) => cl (f_X12_nextToken σ_172) (fun _ σ173 => rec11 x1_172 x2_172 σ173)) (fun k172 => jn (jn (J_X12_reads_99 x1_11 x2_11 σ_11 r24 k172) (fun k99 => (if r24 = 0 then k99 (28 : Int32) else k99 (30 : Int32)))) (fun k86 => (if r24 = 0 then (if r32 = 0 then jn (fun (y1_147 : Int32) => cl (f_X12_puts y1_147 σ_11) (fun _ σ147 => lq1 (F_X12_reads_152 k172 σ147) 1000000 x1_11)) (fun k147 => (if 0 < r16 then k147 r16 else k147 ((100 : Int32) + (gI σ_11 0 8)))) else k86) else k86))))
def F_X12_reads_11 (rec11 : Int32 → Int32 → Mm → Option (Int32 × Mm)) (x1_11 : Int32) (x2_11 : Int32) (σ_11 : Mm) : Option (Int32 × Mm) := (if x2_11 = 0 then cl (f_X12_isSign (43 : Int32) σ_11) (fun r182 _ => jn (fun (x1_424 : Int32) (x2_424 : Int32) (σ_424 : Mm) => cl (f_X12_nextToken σ_424) (fun _ σ425 => rec11 x1_424 x2_424 σ425)) (fun k424 => jn (cl (f_X12_isSign (43 : Int32) σ_11) (fun r210 _ => jn (fun (y1_237 : Int32) => cl (f_X12_puts y1_237 σ_11) (fun _ σ237 => k424 x1_11 (1 : Int32) σ237)) (fun k237 => (if r210 = 0 then cl (f_X12_isSign (45 : Int32) σ_11) (fun r224 _ => (if r224 = 0 then k237 (22 : Int32) else k237 (21 : Int32))) else k237 (20 : Int32))))) (fun k206 => (if r182 = 0 then cl (f_X12_isSign (45 : Int32) σ_11) (fun r191 _ => (if r191 = 0 then cl (f_X12_isSign (42 : Int32) σ_11) (fun r200 _ => (if r200 = 0 then cl (f_X12_isSign (60 : Int32) σ_11) (fun r248 _ => jn (J_X12_reads_304 x1_11 x2_11 σ_11 k424) (fun k304 => jn (J_X12_reads_263 x1_11 σ_11 k424 k304) (fun k263 => (if r248 = 0 then cl (f_X12_isSign (61 : Int32) σ_11) (fun r257 _ => (if r257 = 0 then k304 else k263)) else k263)))) else k206)) else k206)) else k206)))) else cl (f_X12_fact σ_11) (fun r16 _ => cl (f_X12_isWord (10631 : Int64) σ_11) (fun r24 _ => cl (f_X12_isSign (40 : Int32) σ_11) (fun r32 _ => jn (J_X12_reads_65 rec11 x1_11 x2_11 σ_11 r16 r24 r32) (fun k65 => (if r16 = 0 then (if r24 = 0 then (if r32 = 0 then (if (gI σ_11 0 6) = (2 : Int32) then k65 else cl (f_X12_fails (1 : Int32) σ_11) (fun r61 σ61 => some (r61, σ61))) else k65) else k65) else k65))))))
def f_X12_reads (σ : Mm) : Option (Int32 × Mm) := ck (inb (0 : Int32) 7) (bn (pI σ 16 (0 : Int32).toNatClampNeg (vp_nar .boolean (0 : Int32))) (fun σ10 => lq3 (F_X12_reads_11) 1000000 (0 : Int32) (1 : Int32) σ10))
set_option maxHeartbeats 4000000 in
set_option maxRecDepth 100000 in
theorem x_X12_reads (σ : Mm) : Con (wsOf SHM) yX12_reads cX12_reads 6 (some .boolean) 3 [.ref 0] σ (f_X12_reads σ) := by
  refine Con.of_X (by decide +kernel) (Nat.le_of_ble_eq_true rfl) ?_
  unfold f_X12_reads
  show X (wsOf SHM) RX12 cX12_reads 6 (some .boolean) 3 0 0 [(0, .ref 0)] [] σ _
  refine X_iconst (v := (0 : Int32)) (pc := 0) (td kX12_reads 0 rfl) (by decide) ?_
  refine X_istore_n (L' := [(1, .int (0 : Int32)), (0, .ref 0)]) (pc := 1) (td kX12_reads 1 rfl) rfl (by decide) rfl ?_
  refine X_iconst (v := (1 : Int32)) (pc := 2) (td kX12_reads 2 rfl) (by decide) ?_
  refine X_istore_n (L' := [(2, .int (1 : Int32)), (1, .int (0 : Int32)), (0, .ref 0)]) (pc := 3) (td kX12_reads 3 rfl) rfl (by decide) rfl ?_
  refine X_aload_n (pc := 4) (td kX12_reads 4 rfl) rfl 2 rfl ?_
  refine X_getF (b := 16) (pc := 5) sM_0 rfl fk_X12_56 (td kX12_reads 5 rfl) ?_
  refine X_iconst (v := (0 : Int32)) (pc := 8) (td kX12_reads 6 rfl) (by decide) ?_
  refine X_iconst (v := (0 : Int32)) (pc := 9) (td kX12_reads 7 rfl) (by decide) ?_
  refine X_zast (pc := 10) sM_16 (td kX12_reads 8 rfl) (fun σ10 => ?_)
  refine X_sub [2, 1, 0] rfl ?_
  refine lq3_ind (P := fun x1_11 x2_11 σ_11 E => X (wsOf SHM) RX12 cX12_reads 6 (some .boolean) 3 0 11 [(0, .ref 0), (1, .int x1_11), (2, .int x2_11)] [] σ_11 E) (fun _ _ _ => X_none) (fun rec11 hrec11 x1_11 x2_11 σ_11 => ?_) _ _ _ _
  unfold F_X12_reads_11
  refine X_iload_n (pc := 11) (td kX12_reads 9 rfl) rfl 2 rfl ?_
  refine X_if_eq (pc := 12) (tgt := 179) (td kX12_reads 10 rfl) (by decide) (fun c_12 => ?_) (fun c_12 => ?_)
  · refine X_aload_n (pc := 179) (td kX12_reads 95 rfl) rfl 0 rfl ?_
    refine X_bipush (v := (43 : Int32)) (pc := 180) (td kX12_reads 96 rfl) (by decide) ?_
    refine X_callip (pc := 182) (As := [.int (43 : Int32)]) (st := []) (p_X12_isSign (43 : Int32) σ_11) sM_0 (x_X12_isSign (43 : Int32) σ_11) mkX12_isSign lk_X12_228 (by omega) rfl rfl (Nat.le_of_ble_eq_true rfl) (td kX12_reads 97 rfl) (fun r182 hr182 => ?_)
    refine X_jn (P := fun k => ∀ (x1_424 : Int32) (x2_424 : Int32) (σ_424 : Mm), X (wsOf SHM) RX12 cX12_reads 6 (some .boolean) 3 0 424 [(0, .ref 0), (1, .int x1_424), (2, .int x2_424)] [] σ_424 (k x1_424 x2_424 σ_424)) (fun x1_424 x2_424 σ_424 => ?_) (fun k424 h424 => ?_)
    · refine X_aload_n (pc := 424) (td kX12_reads 214 rfl) rfl 0 rfl ?_
      refine X_callv (pc := 425) (As := []) (st := []) sM_0 (x_X12_nextToken σ_424) mkX12_nextToken lk_X12_239 (by omega) rfl rfl (Nat.le_of_ble_eq_true rfl) (td kX12_reads 215 rfl) (fun _ σ425 _ => ?_)
      refine X_goto (pc := 428) (tgt := 11) (td kX12_reads 216 rfl) (by decide) ?_
      exact hrec11 x1_424 x2_424 σ425
    · refine X_jn (P := fun k => X (wsOf SHM) RX12 cX12_reads 6 (some .boolean) 3 0 206 [(0, .ref 0), (1, .int x1_11)] [] σ_11 k) ?_ (fun k206 h206 => ?_)
      · refine X_aload_n (pc := 206) (td kX12_reads 107 rfl) rfl 0 rfl ?_
        refine X_aload_n (pc := 207) (td kX12_reads 108 rfl) rfl 0 rfl ?_
        refine X_bipush (v := (43 : Int32)) (pc := 208) (td kX12_reads 109 rfl) (by decide) ?_
        refine X_callip (pc := 210) (As := [.int (43 : Int32)]) (st := [.ref 0]) (p_X12_isSign (43 : Int32) σ_11) sM_0 (x_X12_isSign (43 : Int32) σ_11) mkX12_isSign lk_X12_228 (by omega) rfl rfl (Nat.le_of_ble_eq_true rfl) (td kX12_reads 110 rfl) (fun r210 hr210 => ?_)
        refine X_jn (P := fun k => ∀ (y1_237 : Int32), X (wsOf SHM) RX12 cX12_reads 6 (some .boolean) 3 0 237 [(0, .ref 0), (1, .int x1_11)] [.int y1_237, .ref 0] σ_11 (k y1_237)) (fun y1_237 => ?_) (fun k237 h237 => ?_)
        · refine X_callv (pc := 237) (As := [.int y1_237]) (st := []) sM_0 (x_X12_puts y1_237 σ_11) mkX12_puts lk_X12_235 (by omega) rfl rfl (Nat.le_of_ble_eq_true rfl) (td kX12_reads 121 rfl) (fun _ σ237 _ => ?_)
          refine X_iconst (v := (1 : Int32)) (pc := 240) (td kX12_reads 122 rfl) (by decide) ?_
          refine X_istore_n (L' := [(2, .int (1 : Int32)), (0, .ref 0), (1, .int x1_11)]) (pc := 241) (td kX12_reads 123 rfl) rfl (by decide) rfl ?_
          refine X_goto (pc := 242) (tgt := 424) (td kX12_reads 124 rfl) (by decide) ?_
          refine X_sub [1, 2, 0] rfl ?_
          exact h424 x1_11 (1 : Int32) σ237
        · refine X_if_eq (pc := 213) (tgt := 221) (td kX12_reads 111 rfl) (by decide) (fun c_213 => ?_) (fun c_213 => ?_)
          · refine X_aload_n (pc := 221) (td kX12_reads 114 rfl) rfl 0 rfl ?_
            refine X_bipush (v := (45 : Int32)) (pc := 222) (td kX12_reads 115 rfl) (by decide) ?_
            refine X_callip (pc := 224) (As := [.int (45 : Int32)]) (st := [.ref 0]) (p_X12_isSign (45 : Int32) σ_11) sM_0 (x_X12_isSign (45 : Int32) σ_11) mkX12_isSign lk_X12_228 (by omega) rfl rfl (Nat.le_of_ble_eq_true rfl) (td kX12_reads 116 rfl) (fun r224 hr224 => ?_)
            refine X_if_eq (pc := 227) (tgt := 235) (td kX12_reads 117 rfl) (by decide) (fun c_227 => ?_) (fun c_227 => ?_)
            · refine X_bipush (v := (22 : Int32)) (pc := 235) (td kX12_reads 120 rfl) (by decide) ?_
              exact h237 (22 : Int32)
            · refine X_bipush (v := (21 : Int32)) (pc := 230) (td kX12_reads 118 rfl) (by decide) ?_
              refine X_goto (pc := 232) (tgt := 237) (td kX12_reads 119 rfl) (by decide) ?_
              exact h237 (21 : Int32)
          · refine X_bipush (v := (20 : Int32)) (pc := 216) (td kX12_reads 112 rfl) (by decide) ?_
            refine X_goto (pc := 218) (tgt := 237) (td kX12_reads 113 rfl) (by decide) ?_
            exact h237 (20 : Int32)
      · refine X_if_ne (pc := 185) (tgt := 206) (td kX12_reads 98 rfl) (by decide) (fun c_185 => ?_) (fun c_185 => ?_)
        · refine X_sub [0, 1] rfl ?_
          exact h206
        · refine X_aload_n (pc := 188) (td kX12_reads 99 rfl) rfl 0 rfl ?_
          refine X_bipush (v := (45 : Int32)) (pc := 189) (td kX12_reads 100 rfl) (by decide) ?_
          refine X_callip (pc := 191) (As := [.int (45 : Int32)]) (st := []) (p_X12_isSign (45 : Int32) σ_11) sM_0 (x_X12_isSign (45 : Int32) σ_11) mkX12_isSign lk_X12_228 (by omega) rfl rfl (Nat.le_of_ble_eq_true rfl) (td kX12_reads 101 rfl) (fun r191 hr191 => ?_)
          refine X_if_ne (pc := 194) (tgt := 206) (td kX12_reads 102 rfl) (by decide) (fun c_194 => ?_) (fun c_194 => ?_)
          · refine X_sub [0, 1] rfl ?_
            exact h206
          · refine X_aload_n (pc := 197) (td kX12_reads 103 rfl) rfl 0 rfl ?_
            refine X_bipush (v := (42 : Int32)) (pc := 198) (td kX12_reads 104 rfl) (by decide) ?_
            refine X_callip (pc := 200) (As := [.int (42 : Int32)]) (st := []) (p_X12_isSign (42 : Int32) σ_11) sM_0 (x_X12_isSign (42 : Int32) σ_11) mkX12_isSign lk_X12_228 (by omega) rfl rfl (Nat.le_of_ble_eq_true rfl) (td kX12_reads 105 rfl) (fun r200 hr200 => ?_)
            refine X_if_eq (pc := 203) (tgt := 245) (td kX12_reads 106 rfl) (by decide) (fun c_203 => ?_) (fun c_203 => ?_)
            · refine X_aload_n (pc := 245) (td kX12_reads 125 rfl) rfl 0 rfl ?_
              refine X_bipush (v := (60 : Int32)) (pc := 246) (td kX12_reads 126 rfl) (by decide) ?_
              refine X_callip (pc := 248) (As := [.int (60 : Int32)]) (st := []) (p_X12_isSign (60 : Int32) σ_11) sM_0 (x_X12_isSign (60 : Int32) σ_11) mkX12_isSign lk_X12_228 (by omega) rfl rfl (Nat.le_of_ble_eq_true rfl) (td kX12_reads 127 rfl) (fun r248 hr248 => ?_)
              refine X_jn (P := fun k => X (wsOf SHM) RX12 cX12_reads 6 (some .boolean) 3 0 304 [(0, .ref 0), (1, .int x1_11), (2, .int x2_11)] [] σ_11 k) ?_ (fun k304 h304 => ?_)
              · unfold J_X12_reads_304
                refine X_aload_n (pc := 304) (td kX12_reads 155 rfl) rfl 0 rfl ?_
                refine X_ldc2 (v := (1111 : Int64)) (pc := 305) (td kX12_reads 156 rfl) cn_X12_242 ?_
                refine X_callip (pc := 308) (As := [.long (1111 : Int64)]) (st := []) (p_X12_isWord (1111 : Int64) σ_11) sM_0 (x_X12_isWord (1111 : Int64) σ_11) mkX12_isWord lk_X12_224 (by omega) rfl rfl (Nat.le_of_ble_eq_true rfl) (td kX12_reads 157 rfl) (fun r308 hr308 => ?_)
                refine X_jn (P := fun k => X (wsOf SHM) RX12 cX12_reads 6 (some .boolean) 3 0 324 [(0, .ref 0), (1, .int x1_11)] [] σ_11 k) ?_ (fun k324 h324 => ?_)
                · refine X_aload_n (pc := 324) (td kX12_reads 163 rfl) rfl 0 rfl ?_
                  refine X_aload_n (pc := 325) (td kX12_reads 164 rfl) rfl 0 rfl ?_
                  refine X_ldc2 (v := (1111 : Int64)) (pc := 326) (td kX12_reads 165 rfl) cn_X12_242 ?_
                  refine X_callip (pc := 329) (As := [.long (1111 : Int64)]) (st := [.ref 0]) (p_X12_isWord (1111 : Int64) σ_11) sM_0 (x_X12_isWord (1111 : Int64) σ_11) mkX12_isWord lk_X12_224 (by omega) rfl rfl (Nat.le_of_ble_eq_true rfl) (td kX12_reads 166 rfl) (fun r329 hr329 => ?_)
                  refine X_jn (P := fun k => ∀ (y1_342 : Int32), X (wsOf SHM) RX12 cX12_reads 6 (some .boolean) 3 0 342 [(0, .ref 0), (1, .int x1_11)] [.int y1_342, .ref 0] σ_11 (k y1_342)) (fun y1_342 => ?_) (fun k342 h342 => ?_)
                  · refine X_callv (pc := 342) (As := [.int y1_342]) (st := []) sM_0 (x_X12_puts y1_342 σ_11) mkX12_puts lk_X12_235 (by omega) rfl rfl (Nat.le_of_ble_eq_true rfl) (td kX12_reads 171 rfl) (fun _ σ342 _ => ?_)
                    refine X_aload_n (pc := 345) (td kX12_reads 172 rfl) rfl 0 rfl ?_
                    refine X_getF (b := 16) (pc := 346) sM_0 rfl fk_X12_56 (td kX12_reads 173 rfl) ?_
                    refine X_iload_n (pc := 349) (td kX12_reads 174 rfl) rfl 1 rfl ?_
                    refine X_iconst (v := (0 : Int32)) (pc := 350) (td kX12_reads 175 rfl) (by decide) ?_
                    refine X_zast (pc := 351) sM_16 (td kX12_reads 176 rfl) (fun σ351 => ?_)
                    refine X_iconst (v := (1 : Int32)) (pc := 352) (td kX12_reads 177 rfl) (by decide) ?_
                    refine X_istore_n (L' := [(2, .int (1 : Int32)), (0, .ref 0), (1, .int x1_11)]) (pc := 353) (td kX12_reads 178 rfl) rfl (by decide) rfl ?_
                    refine X_goto (pc := 354) (tgt := 424) (td kX12_reads 179 rfl) (by decide) ?_
                    refine X_sub [1, 2, 0] rfl ?_
                    exact h424 x1_11 (1 : Int32) σ351
                  · refine X_if_eq (pc := 332) (tgt := 340) (td kX12_reads 167 rfl) (by decide) (fun c_332 => ?_) (fun c_332 => ?_)
                    · refine X_bipush (v := (27 : Int32)) (pc := 340) (td kX12_reads 170 rfl) (by decide) ?_
                      exact h342 (27 : Int32)
                    · refine X_bipush (v := (26 : Int32)) (pc := 335) (td kX12_reads 168 rfl) (by decide) ?_
                      refine X_goto (pc := 337) (tgt := 342) (td kX12_reads 169 rfl) (by decide) ?_
                      exact h342 (26 : Int32)
                · refine X_if_ne (pc := 311) (tgt := 324) (td kX12_reads 158 rfl) (by decide) (fun c_311 => ?_) (fun c_311 => ?_)
                  · refine X_sub [0, 1] rfl ?_
                    exact h324
                  · refine X_aload_n (pc := 314) (td kX12_reads 159 rfl) rfl 0 rfl ?_
                    refine X_ldc2 (v := (423 : Int64)) (pc := 315) (td kX12_reads 160 rfl) cn_X12_244 ?_
                    refine X_callip (pc := 318) (As := [.long (423 : Int64)]) (st := []) (p_X12_isWord (423 : Int64) σ_11) sM_0 (x_X12_isWord (423 : Int64) σ_11) mkX12_isWord lk_X12_224 (by omega) rfl rfl (Nat.le_of_ble_eq_true rfl) (td kX12_reads 161 rfl) (fun r318 hr318 => ?_)
                    refine X_if_eq (pc := 321) (tgt := 357) (td kX12_reads 162 rfl) (by decide) (fun c_321 => ?_) (fun c_321 => ?_)
                    · refine X_aload_n (pc := 357) (td kX12_reads 180 rfl) rfl 0 rfl ?_
                      refine X_bipush (v := (41 : Int32)) (pc := 358) (td kX12_reads 181 rfl) (by decide) ?_
                      refine X_callip (pc := 360) (As := [.int (41 : Int32)]) (st := []) (p_X12_isSign (41 : Int32) σ_11) sM_0 (x_X12_isSign (41 : Int32) σ_11) mkX12_isSign lk_X12_228 (by omega) rfl rfl (Nat.le_of_ble_eq_true rfl) (td kX12_reads 182 rfl) (fun r360 hr360 => ?_)
                      refine X_jn (P := fun k => X (wsOf SHM) RX12 cX12_reads 6 (some .boolean) 3 0 399 [(0, .ref 0), (1, .int x1_11)] [] σ_11 k) ?_ (fun k399 h399 => ?_)
                      · refine X_iload_n (pc := 399) (td kX12_reads 200 rfl) rfl 1 rfl ?_
                        refine X_jn (P := fun k => X (wsOf SHM) RX12 cX12_reads 6 (some .boolean) 3 0 418 [(0, .ref 0)] [] σ_11 k) ?_ (fun k418 h418 => ?_)
                        · refine X_aload_n (pc := 418) (td kX12_reads 210 rfl) rfl 0 rfl ?_
                          refine X_iconst (v := (1 : Int32)) (pc := 419) (td kX12_reads 211 rfl) (by decide) ?_
                          refine X_calli (pc := 420) (As := [.int (1 : Int32)]) (st := []) sM_0 (x_X12_fails (1 : Int32) σ_11) mkX12_fails lk_X12_232 (by omega) rfl rfl (Nat.le_of_ble_eq_true rfl) (td kX12_reads 212 rfl) (fun r420 σ420 _ hr420 => ?_)
                          exact X_ret (pc := 423) (td kX12_reads 213 rfl) hr420
                        · refine X_if_ne (pc := 400) (tgt := 418) (td kX12_reads 201 rfl) (by decide) (fun c_400 => ?_) (fun c_400 => ?_)
                          · refine X_sub [0] rfl ?_
                            exact h418
                          · refine X_aload_n (pc := 403) (td kX12_reads 202 rfl) rfl 0 rfl ?_
                            refine X_bipush (v := (59 : Int32)) (pc := 404) (td kX12_reads 203 rfl) (by decide) ?_
                            refine X_callip (pc := 406) (As := [.int (59 : Int32)]) (st := []) (p_X12_isSign (59 : Int32) σ_11) sM_0 (x_X12_isSign (59 : Int32) σ_11) mkX12_isSign lk_X12_228 (by omega) rfl rfl (Nat.le_of_ble_eq_true rfl) (td kX12_reads 204 rfl) (fun r406 hr406 => ?_)
                            refine X_if_eq (pc := 409) (tgt := 418) (td kX12_reads 205 rfl) (by decide) (fun c_409 => ?_) (fun c_409 => ?_)
                            · refine X_sub [0] rfl ?_
                              exact h418
                            · refine X_aload_n (pc := 412) (td kX12_reads 206 rfl) rfl 0 rfl ?_
                              refine X_callv (pc := 413) (As := []) (st := []) sM_0 (x_X12_nextToken σ_11) mkX12_nextToken lk_X12_239 (by omega) rfl rfl (Nat.le_of_ble_eq_true rfl) (td kX12_reads 207 rfl) (fun _ σ413 _ => ?_)
                              refine X_iconst (v := (1 : Int32)) (pc := 416) (td kX12_reads 208 rfl) (by decide) ?_
                              exact X_ret (pc := 417) (td kX12_reads 209 rfl) rfl
                      · refine X_if_eq (pc := 363) (tgt := 399) (td kX12_reads 183 rfl) (by decide) (fun c_363 => ?_) (fun c_363 => ?_)
                        · refine X_sub [0, 1] rfl ?_
                          exact h399
                        · refine X_iload_n (pc := 366) (td kX12_reads 184 rfl) rfl 1 rfl ?_
                          refine X_if_le (pc := 367) (tgt := 399) (td kX12_reads 185 rfl) (by decide) (fun c_367 => ?_) (fun c_367 => ?_)
                          · refine X_sub [0, 1] rfl ?_
                            exact h399
                          · refine X_aload_n (pc := 370) (td kX12_reads 186 rfl) rfl 0 rfl ?_
                            refine X_bipush (v := (29 : Int32)) (pc := 371) (td kX12_reads 187 rfl) (by decide) ?_
                            refine X_callv (pc := 373) (As := [.int (29 : Int32)]) (st := []) sM_0 (x_X12_puts (29 : Int32) σ_11) mkX12_puts lk_X12_235 (by omega) rfl rfl (Nat.le_of_ble_eq_true rfl) (td kX12_reads 188 rfl) (fun _ σ373 _ => ?_)
                            refine X_iinc (v := (x1_11 + (-1 : Int32))) (L' := [(1, .int (x1_11 + (-1 : Int32))), (0, .ref 0), (2, .int x2_11)]) (pc := 376) (td kX12_reads 189 rfl) 1 rfl rfl (by decide) rfl ?_
                            refine X_sub [1, 0, 2] rfl ?_
                            refine lq1_ind (P := fun x1_379 E => X (wsOf SHM) RX12 cX12_reads 6 (some .boolean) 3 0 379 [(0, .ref 0), (1, .int x1_379), (2, .int x2_11)] [] σ373 E) (fun _ => X_none) (fun rec379 hrec379 x1_379 => ?_) _ _
                            unfold F_X12_reads_379
                            refine X_iload_n (pc := 379) (td kX12_reads 190 rfl) rfl 1 rfl ?_
                            refine X_if_le (pc := 380) (tgt := 424) (td kX12_reads 191 rfl) (by decide) (fun c_380 => ?_) (fun c_380 => ?_)
                            · exact h424 x1_379 x2_11 σ373
                            · refine X_aload_n (pc := 383) (td kX12_reads 192 rfl) rfl 0 rfl ?_
                              refine X_getF (b := 15) (pc := 384) sM_0 rfl fk_X12_53 (td kX12_reads 193 rfl) ?_
                              refine X_iload_n (pc := 387) (td kX12_reads 194 rfl) rfl 1 rfl ?_
                              refine X_iald (pc := 388) sM_15 (td kX12_reads 195 rfl) ?_
                              refine X_iconst (v := (1 : Int32)) (pc := 389) (td kX12_reads 196 rfl) (by decide) ?_
                              refine X_icmp_ne (pc := 390) (tgt := 424) (td kX12_reads 197 rfl) (by decide) (fun c_390 => ?_) (fun c_390 => ?_)
                              · exact h424 x1_379 x2_11 σ373
                              · refine X_iinc (v := (x1_379 + (-1 : Int32))) (L' := [(1, .int (x1_379 + (-1 : Int32))), (0, .ref 0), (2, .int x2_11)]) (pc := 393) (td kX12_reads 198 rfl) 1 rfl rfl (by decide) rfl ?_
                                refine X_goto (pc := 396) (tgt := 379) (td kX12_reads 199 rfl) (by decide) ?_
                                refine X_sub [1, 0, 2] rfl ?_
                                exact hrec379 (x1_379 + (-1 : Int32))
                    · refine X_sub [0, 1] rfl ?_
                      exact h324
              · refine X_jn (P := fun k => X (wsOf SHM) RX12 cX12_reads 6 (some .boolean) 3 0 263 [(0, .ref 0), (1, .int x1_11), (2, .int x2_11)] [] σ_11 k) ?_ (fun k263 h263 => ?_)
                · unfold J_X12_reads_263
                  refine X_aload_n (pc := 263) (td kX12_reads 133 rfl) rfl 0 rfl ?_
                  refine X_getF (b := 16) (pc := 264) sM_0 rfl fk_X12_56 (td kX12_reads 134 rfl) ?_
                  refine X_iload_n (pc := 267) (td kX12_reads 135 rfl) rfl 1 rfl ?_
                  refine X_zald (pc := 268) sM_16 (td kX12_reads 136 rfl) ?_
                  refine X_if_ne (pc := 269) (tgt := 304) (td kX12_reads 137 rfl) (by decide) (fun c_269 => ?_) (fun c_269 => ?_)
                  · exact h304
                  · refine X_aload_n (pc := 272) (td kX12_reads 138 rfl) rfl 0 rfl ?_
                    refine X_aload_n (pc := 273) (td kX12_reads 139 rfl) rfl 0 rfl ?_
                    refine X_bipush (v := (60 : Int32)) (pc := 274) (td kX12_reads 140 rfl) (by decide) ?_
                    refine X_callip (pc := 276) (As := [.int (60 : Int32)]) (st := [.ref 0]) (p_X12_isSign (60 : Int32) σ_11) sM_0 (x_X12_isSign (60 : Int32) σ_11) mkX12_isSign lk_X12_228 (by omega) rfl rfl (Nat.le_of_ble_eq_true rfl) (td kX12_reads 141 rfl) (fun r276 hr276 => ?_)
                    refine X_jn (P := fun k => ∀ (y1_289 : Int32), X (wsOf SHM) RX12 cX12_reads 6 (some .boolean) 3 0 289 [(0, .ref 0), (1, .int x1_11)] [.int y1_289, .ref 0] σ_11 (k y1_289)) (fun y1_289 => ?_) (fun k289 h289 => ?_)
                    · refine X_callv (pc := 289) (As := [.int y1_289]) (st := []) sM_0 (x_X12_puts y1_289 σ_11) mkX12_puts lk_X12_235 (by omega) rfl rfl (Nat.le_of_ble_eq_true rfl) (td kX12_reads 146 rfl) (fun _ σ289 _ => ?_)
                      refine X_aload_n (pc := 292) (td kX12_reads 147 rfl) rfl 0 rfl ?_
                      refine X_getF (b := 16) (pc := 293) sM_0 rfl fk_X12_56 (td kX12_reads 148 rfl) ?_
                      refine X_iload_n (pc := 296) (td kX12_reads 149 rfl) rfl 1 rfl ?_
                      refine X_iconst (v := (1 : Int32)) (pc := 297) (td kX12_reads 150 rfl) (by decide) ?_
                      refine X_zast (pc := 298) sM_16 (td kX12_reads 151 rfl) (fun σ298 => ?_)
                      refine X_iconst (v := (1 : Int32)) (pc := 299) (td kX12_reads 152 rfl) (by decide) ?_
                      refine X_istore_n (L' := [(2, .int (1 : Int32)), (0, .ref 0), (1, .int x1_11)]) (pc := 300) (td kX12_reads 153 rfl) rfl (by decide) rfl ?_
                      refine X_goto (pc := 301) (tgt := 424) (td kX12_reads 154 rfl) (by decide) ?_
                      refine X_sub [1, 2, 0] rfl ?_
                      exact h424 x1_11 (1 : Int32) σ298
                    · refine X_if_eq (pc := 279) (tgt := 287) (td kX12_reads 142 rfl) (by decide) (fun c_279 => ?_) (fun c_279 => ?_)
                      · refine X_bipush (v := (25 : Int32)) (pc := 287) (td kX12_reads 145 rfl) (by decide) ?_
                        refine X_sub [0, 1] rfl ?_
                        exact h289 (25 : Int32)
                      · refine X_bipush (v := (24 : Int32)) (pc := 282) (td kX12_reads 143 rfl) (by decide) ?_
                        refine X_goto (pc := 284) (tgt := 289) (td kX12_reads 144 rfl) (by decide) ?_
                        refine X_sub [0, 1] rfl ?_
                        exact h289 (24 : Int32)
                · refine X_if_ne (pc := 251) (tgt := 263) (td kX12_reads 128 rfl) (by decide) (fun c_251 => ?_) (fun c_251 => ?_)
                  · exact h263
                  · refine X_aload_n (pc := 254) (td kX12_reads 129 rfl) rfl 0 rfl ?_
                    refine X_bipush (v := (61 : Int32)) (pc := 255) (td kX12_reads 130 rfl) (by decide) ?_
                    refine X_callip (pc := 257) (As := [.int (61 : Int32)]) (st := []) (p_X12_isSign (61 : Int32) σ_11) sM_0 (x_X12_isSign (61 : Int32) σ_11) mkX12_isSign lk_X12_228 (by omega) rfl rfl (Nat.le_of_ble_eq_true rfl) (td kX12_reads 131 rfl) (fun r257 hr257 => ?_)
                    refine X_if_eq (pc := 260) (tgt := 304) (td kX12_reads 132 rfl) (by decide) (fun c_260 => ?_) (fun c_260 => ?_)
                    · exact h304
                    · exact h263
            · refine X_sub [0, 1] rfl ?_
              exact h206
  · refine X_aload_n (pc := 15) (td kX12_reads 11 rfl) rfl 0 rfl ?_
    refine X_callip (pc := 16) (As := []) (st := []) (p_X12_fact σ_11) sM_0 (x_X12_fact σ_11) mkX12_fact lk_X12_218 (by omega) rfl rfl (Nat.le_of_ble_eq_true rfl) (td kX12_reads 12 rfl) (fun r16 hr16 => ?_)
    refine X_istore_n (L' := [(3, .int r16), (0, .ref 0), (1, .int x1_11), (2, .int x2_11)]) (pc := 19) (td kX12_reads 13 rfl) rfl (by decide) rfl ?_
    refine X_aload_n (pc := 20) (td kX12_reads 14 rfl) rfl 1 rfl ?_
    refine X_ldc2 (v := (10631 : Int64)) (pc := 21) (td kX12_reads 15 rfl) cn_X12_222 ?_
    refine X_callip (pc := 24) (As := [.long (10631 : Int64)]) (st := []) (p_X12_isWord (10631 : Int64) σ_11) sM_0 (x_X12_isWord (10631 : Int64) σ_11) mkX12_isWord lk_X12_224 (by omega) rfl rfl (Nat.le_of_ble_eq_true rfl) (td kX12_reads 16 rfl) (fun r24 hr24 => ?_)
    refine X_istore (L' := [(4, .int r24), (3, .int r16), (0, .ref 0), (1, .int x1_11), (2, .int x2_11)]) (pc := 27) (td kX12_reads 17 rfl) (by decide) rfl ?_
    refine X_aload_n (pc := 29) (td kX12_reads 18 rfl) rfl 2 rfl ?_
    refine X_bipush (v := (40 : Int32)) (pc := 30) (td kX12_reads 19 rfl) (by decide) ?_
    refine X_callip (pc := 32) (As := [.int (40 : Int32)]) (st := []) (p_X12_isSign (40 : Int32) σ_11) sM_0 (x_X12_isSign (40 : Int32) σ_11) mkX12_isSign lk_X12_228 (by omega) rfl rfl (Nat.le_of_ble_eq_true rfl) (td kX12_reads 20 rfl) (fun r32 hr32 => ?_)
    refine X_istore (L' := [(5, .int r32), (4, .int r24), (3, .int r16), (0, .ref 0), (1, .int x1_11), (2, .int x2_11)]) (pc := 35) (td kX12_reads 21 rfl) (by decide) rfl ?_
    refine X_iload_n (pc := 37) (td kX12_reads 22 rfl) rfl 2 rfl ?_
    refine X_jn (P := fun k => X (wsOf SHM) RX12 cX12_reads 6 (some .boolean) 3 0 65 [(0, .ref 0), (1, .int x1_11), (2, .int x2_11), (3, .int r16), (4, .int r24), (5, .int r32)] [] σ_11 k) ?_ (fun k65 h65 => ?_)
    · unfold J_X12_reads_65
      refine X_iload_n (pc := 65) (td kX12_reads 36 rfl) rfl 1 rfl ?_
      refine X_iconst (v := (5 : Int32)) (pc := 66) (td kX12_reads 37 rfl) (by decide) ?_
      refine X_icmp_ne (pc := 67) (tgt := 76) (td kX12_reads 38 rfl) (by decide) (fun c_67 => ?_) (fun c_67 => ?_)
      · refine X_iload (pc := 76) (td kX12_reads 43 rfl) 4 rfl ?_
        refine X_jn (P := fun k => ∀ (x1_172 : Int32) (x2_172 : Int32) (σ_172 : Mm), X (wsOf SHM) RX12 cX12_reads 6 (some .boolean) 3 0 172 [(0, .ref 0), (1, .int x1_172), (2, .int x2_172)] [] σ_172 (k x1_172 x2_172 σ_172)) (fun x1_172 x2_172 σ_172 => ?_) (fun k172 h172 => ?_)
        · refine X_aload_n (pc := 172) (td kX12_reads 92 rfl) rfl 0 rfl ?_
          refine X_callv (pc := 173) (As := []) (st := []) sM_0 (x_X12_nextToken σ_172) mkX12_nextToken lk_X12_239 (by omega) rfl rfl (Nat.le_of_ble_eq_true rfl) (td kX12_reads 93 rfl) (fun _ σ173 _ => ?_)
          refine X_goto (pc := 176) (tgt := 11) (td kX12_reads 94 rfl) (by decide) ?_
          exact hrec11 x1_172 x2_172 σ173
        · refine X_jn (P := fun k => X (wsOf SHM) RX12 cX12_reads 6 (some .boolean) 3 0 86 [(0, .ref 0), (1, .int x1_11), (2, .int x2_11), (4, .int r24)] [] σ_11 k) ?_ (fun k86 h86 => ?_)
          · refine X_aload_n (pc := 86) (td kX12_reads 47 rfl) rfl 0 rfl ?_
            refine X_iload (pc := 87) (td kX12_reads 48 rfl) 3 rfl ?_
            refine X_jn (P := fun k => ∀ (y1_99 : Int32), X (wsOf SHM) RX12 cX12_reads 6 (some .boolean) 3 0 99 [(0, .ref 0), (1, .int x1_11), (2, .int x2_11), (4, .int r24)] [.int y1_99, .ref 0] σ_11 (k y1_99)) (fun y1_99 => ?_) (fun k99 h99 => ?_)
            · unfold J_X12_reads_99
              refine X_callv (pc := 99) (As := [.int y1_99]) (st := []) sM_0 (x_X12_puts y1_99 σ_11) mkX12_puts lk_X12_235 (by omega) rfl rfl (Nat.le_of_ble_eq_true rfl) (td kX12_reads 53 rfl) (fun _ σ99 _ => ?_)
              refine X_iinc (v := (x1_11 + (1 : Int32))) (L' := [(1, .int (x1_11 + (1 : Int32))), (0, .ref 0), (2, .int x2_11), (4, .int r24)]) (pc := 102) (td kX12_reads 54 rfl) 1 rfl rfl (by decide) rfl ?_
              refine X_aload_n (pc := 105) (td kX12_reads 55 rfl) rfl 1 rfl ?_
              refine X_getF (b := 15) (pc := 106) sM_0 rfl fk_X12_53 (td kX12_reads 56 rfl) ?_
              refine X_iload_n (pc := 109) (td kX12_reads 57 rfl) rfl 0 rfl ?_
              refine X_iload (pc := 110) (td kX12_reads 58 rfl) 3 rfl ?_
              refine X_jn (P := fun k => ∀ (y2_120 : Int32), X (wsOf SHM) RX12 cX12_reads 6 (some .boolean) 3 0 120 [(0, .ref 0), (1, .int (x1_11 + (1 : Int32))), (2, .int x2_11)] [.int y2_120, .int (x1_11 + (1 : Int32)), .ref 15] σ99 (k y2_120)) (fun y2_120 => ?_) (fun k120 h120 => ?_)
              · refine X_iast (pc := 120) sM_15 (td kX12_reads 63 rfl) (fun σ120 => ?_)
                refine X_aload_n (pc := 121) (td kX12_reads 64 rfl) rfl 0 rfl ?_
                refine X_getF (b := 16) (pc := 122) sM_0 rfl fk_X12_56 (td kX12_reads 65 rfl) ?_
                refine X_iload_n (pc := 125) (td kX12_reads 66 rfl) rfl 1 rfl ?_
                refine X_iconst (v := (0 : Int32)) (pc := 126) (td kX12_reads 67 rfl) (by decide) ?_
                refine X_zast (pc := 127) sM_16 (td kX12_reads 68 rfl) (fun σ127 => ?_)
                refine X_goto (pc := 128) (tgt := 172) (td kX12_reads 69 rfl) (by decide) ?_
                exact h172 (x1_11 + (1 : Int32)) x2_11 σ127
              · refine X_if_eq (pc := 112) (tgt := 119) (td kX12_reads 59 rfl) (by decide) (fun c_112 => ?_) (fun c_112 => ?_)
                · refine X_iconst (v := (2 : Int32)) (pc := 119) (td kX12_reads 62 rfl) (by decide) ?_
                  refine X_sub [1, 0, 2] rfl ?_
                  exact h120 (2 : Int32)
                · refine X_iconst (v := (1 : Int32)) (pc := 115) (td kX12_reads 60 rfl) (by decide) ?_
                  refine X_goto (pc := 116) (tgt := 120) (td kX12_reads 61 rfl) (by decide) ?_
                  refine X_sub [1, 0, 2] rfl ?_
                  exact h120 (1 : Int32)
            · refine X_if_eq (pc := 89) (tgt := 97) (td kX12_reads 49 rfl) (by decide) (fun c_89 => ?_) (fun c_89 => ?_)
              · refine X_bipush (v := (28 : Int32)) (pc := 97) (td kX12_reads 52 rfl) (by decide) ?_
                exact h99 (28 : Int32)
              · refine X_bipush (v := (30 : Int32)) (pc := 92) (td kX12_reads 50 rfl) (by decide) ?_
                refine X_goto (pc := 94) (tgt := 99) (td kX12_reads 51 rfl) (by decide) ?_
                exact h99 (30 : Int32)
          · refine X_if_ne (pc := 78) (tgt := 86) (td kX12_reads 44 rfl) (by decide) (fun c_78 => ?_) (fun c_78 => ?_)
            · refine X_sub [0, 1, 2, 4] rfl ?_
              exact h86
            · refine X_iload (pc := 81) (td kX12_reads 45 rfl) 5 rfl ?_
              refine X_if_eq (pc := 83) (tgt := 131) (td kX12_reads 46 rfl) (by decide) (fun c_83 => ?_) (fun c_83 => ?_)
              · refine X_aload_n (pc := 131) (td kX12_reads 70 rfl) rfl 0 rfl ?_
                refine X_iload_n (pc := 132) (td kX12_reads 71 rfl) rfl 3 rfl ?_
                refine X_jn (P := fun k => ∀ (y1_147 : Int32), X (wsOf SHM) RX12 cX12_reads 6 (some .boolean) 3 0 147 [(0, .ref 0), (1, .int x1_11)] [.int y1_147, .ref 0] σ_11 (k y1_147)) (fun y1_147 => ?_) (fun k147 h147 => ?_)
                · refine X_callv (pc := 147) (As := [.int y1_147]) (st := []) sM_0 (x_X12_puts y1_147 σ_11) mkX12_puts lk_X12_235 (by omega) rfl rfl (Nat.le_of_ble_eq_true rfl) (td kX12_reads 79 rfl) (fun _ σ147 _ => ?_)
                  refine X_iconst (v := (0 : Int32)) (pc := 150) (td kX12_reads 80 rfl) (by decide) ?_
                  refine X_istore_n (L' := [(2, .int (0 : Int32)), (0, .ref 0), (1, .int x1_11)]) (pc := 151) (td kX12_reads 81 rfl) rfl (by decide) rfl ?_
                  refine X_sub [1, 2, 0] rfl ?_
                  refine lq1_ind (P := fun x1_152 E => X (wsOf SHM) RX12 cX12_reads 6 (some .boolean) 3 0 152 [(0, .ref 0), (1, .int x1_152), (2, .int (0 : Int32))] [] σ147 E) (fun _ => X_none) (fun rec152 hrec152 x1_152 => ?_) _ _
                  unfold F_X12_reads_152
                  refine X_iload_n (pc := 152) (td kX12_reads 82 rfl) rfl 1 rfl ?_
                  refine X_if_le (pc := 153) (tgt := 172) (td kX12_reads 83 rfl) (by decide) (fun c_153 => ?_) (fun c_153 => ?_)
                  · exact h172 x1_152 (0 : Int32) σ147
                  · refine X_aload_n (pc := 156) (td kX12_reads 84 rfl) rfl 0 rfl ?_
                    refine X_getF (b := 15) (pc := 157) sM_0 rfl fk_X12_53 (td kX12_reads 85 rfl) ?_
                    refine X_iload_n (pc := 160) (td kX12_reads 86 rfl) rfl 1 rfl ?_
                    refine X_iald (pc := 161) sM_15 (td kX12_reads 87 rfl) ?_
                    refine X_iconst (v := (1 : Int32)) (pc := 162) (td kX12_reads 88 rfl) (by decide) ?_
                    refine X_icmp_ne (pc := 163) (tgt := 172) (td kX12_reads 89 rfl) (by decide) (fun c_163 => ?_) (fun c_163 => ?_)
                    · exact h172 x1_152 (0 : Int32) σ147
                    · refine X_iinc (v := (x1_152 + (-1 : Int32))) (L' := [(1, .int (x1_152 + (-1 : Int32))), (0, .ref 0), (2, .int (0 : Int32))]) (pc := 166) (td kX12_reads 90 rfl) 1 rfl rfl (by decide) rfl ?_
                      refine X_goto (pc := 169) (tgt := 152) (td kX12_reads 91 rfl) (by decide) ?_
                      refine X_sub [1, 0, 2] rfl ?_
                      exact hrec152 (x1_152 + (-1 : Int32))
                · refine X_if_le (pc := 133) (tgt := 140) (td kX12_reads 72 rfl) (by decide) (fun c_133 => ?_) (fun c_133 => ?_)
                  · refine X_bipush (v := (100 : Int32)) (pc := 140) (td kX12_reads 75 rfl) (by decide) ?_
                    refine X_aload_n (pc := 142) (td kX12_reads 76 rfl) rfl 0 rfl ?_
                    refine X_getI (pc := 143) sM_0 rfl fk_X12_190 (td kX12_reads 77 rfl) ?_
                    refine X_iadd (pc := 146) (td kX12_reads 78 rfl) ?_
                    refine X_sub [0, 1] rfl ?_
                    exact h147 ((100 : Int32) + (gI σ_11 0 8))
                  · refine X_iload_n (pc := 136) (td kX12_reads 73 rfl) rfl 3 rfl ?_
                    refine X_goto (pc := 137) (tgt := 147) (td kX12_reads 74 rfl) (by decide) ?_
                    refine X_sub [0, 1] rfl ?_
                    exact h147 r16
              · refine X_sub [0, 1, 2, 4] rfl ?_
                exact h86
      · refine X_aload_n (pc := 70) (td kX12_reads 39 rfl) rfl 0 rfl ?_
        refine X_iconst (v := (5 : Int32)) (pc := 71) (td kX12_reads 40 rfl) (by decide) ?_
        refine X_calli (pc := 72) (As := [.int (5 : Int32)]) (st := []) sM_0 (x_X12_fails (5 : Int32) σ_11) mkX12_fails lk_X12_232 (by omega) rfl rfl (Nat.le_of_ble_eq_true rfl) (td kX12_reads 41 rfl) (fun r72 σ72 _ hr72 => ?_)
        exact X_ret (pc := 75) (td kX12_reads 42 rfl) hr72
    · refine X_if_ne (pc := 38) (tgt := 65) (td kX12_reads 23 rfl) (by decide) (fun c_38 => ?_) (fun c_38 => ?_)
      · refine X_sub [3, 4, 5, 2, 1, 0] rfl ?_
        exact h65
      · refine X_iload (pc := 41) (td kX12_reads 24 rfl) 1 rfl ?_
        refine X_if_ne (pc := 43) (tgt := 65) (td kX12_reads 25 rfl) (by decide) (fun c_43 => ?_) (fun c_43 => ?_)
        · refine X_sub [3, 4, 5, 2, 1, 0] rfl ?_
          exact h65
        · refine X_iload (pc := 46) (td kX12_reads 26 rfl) 0 rfl ?_
          refine X_if_ne (pc := 48) (tgt := 65) (td kX12_reads 27 rfl) (by decide) (fun c_48 => ?_) (fun c_48 => ?_)
          · refine X_sub [3, 4, 5, 2, 1, 0] rfl ?_
            exact h65
          · refine X_aload_n (pc := 51) (td kX12_reads 28 rfl) rfl 3 rfl ?_
            refine X_getI (pc := 52) sM_0 rfl fk_X12_193 (td kX12_reads 29 rfl) ?_
            refine X_iconst (v := (2 : Int32)) (pc := 55) (td kX12_reads 30 rfl) (by decide) ?_
            refine X_icmp_eq (pc := 56) (tgt := 65) (td kX12_reads 31 rfl) (by decide) (fun c_56 => ?_) (fun c_56 => ?_)
            · refine X_sub [3, 4, 5, 2, 1, 0] rfl ?_
              exact h65
            · refine X_aload_n (pc := 59) (td kX12_reads 32 rfl) rfl 3 rfl ?_
              refine X_iconst (v := (1 : Int32)) (pc := 60) (td kX12_reads 33 rfl) (by decide) ?_
              refine X_calli (pc := 61) (As := [.int (1 : Int32)]) (st := []) sM_0 (x_X12_fails (1 : Int32) σ_11) mkX12_fails lk_X12_232 (by omega) rfl rfl (Nat.le_of_ble_eq_true rfl) (td kX12_reads 34 rfl) (fun r61 σ61 _ hr61 => ?_)
              exact X_ret (pc := 64) (td kX12_reads 35 rfl) hr61
