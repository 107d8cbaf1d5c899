def f_X8_isName (σ : Mm) : Option (Int32 × Mm) := jn (some ((0 : Int32), σ)) (fun k29 => (if (gI σ 4 2) = (2 : Int32) then jn (some ((1 : Int32), σ)) (fun k25 => (if (gI σ 4 6) = (-1 : Int32) then k25 else (if (gI σ 4 6) < (19 : Int32) then k29 else k25))) else k29))
set_option maxHeartbeats 4000000 in
set_option maxRecDepth 100000 in
theorem x_X8_isName (σ : Mm) : Con (wsOf SHC) yX8_isName cX8_isName 1 (some .boolean) 1 [.ref 4] σ (f_X8_isName σ) := by
  refine Con.of_X (by decide +kernel) (Nat.le_of_ble_eq_true rfl) ?_
  unfold f_X8_isName
  show X (wsOf SHC) RX8 cX8_isName 1 (some .boolean) 1 0 0 [(0, .ref 4)] [] σ _
  refine X_aload_n (pc := 0) (td kX8_isName 0 rfl) rfl 0 rfl ?_
  refine X_getI (pc := 1) sC_4 rfl fk_X8_49 (td kX8_isName 1 rfl) ?_
  refine X_iconst (v := (2 : Int32)) (pc := 4) (td kX8_isName 2 rfl) (by decide) ?_
  refine X_jn (P := fun k => X (wsOf SHC) RX8 cX8_isName 1 (some .boolean) 1 0 29 [] [] σ k) ?_ (fun k29 h29 => ?_)
  · refine X_iconst (v := (0 : Int32)) (pc := 29) (td kX8_isName 14 rfl) (by decide) ?_
    exact X_ret (pc := 30) (td kX8_isName 15 rfl) rfl
  · refine X_icmp_ne (pc := 5) (tgt := 29) (td kX8_isName 3 rfl) (by decide) (fun c_5 => ?_) (fun c_5 => ?_)
    · refine X_sub [] rfl ?_
      exact h29
    · refine X_aload_n (pc := 8) (td kX8_isName 4 rfl) rfl 0 rfl ?_
      refine X_getI (pc := 9) sC_4 rfl fk_X8_64 (td kX8_isName 5 rfl) ?_
      refine X_iconst (v := (-1 : Int32)) (pc := 12) (td kX8_isName 6 rfl) (by decide) ?_
      refine X_jn (P := fun k => X (wsOf SHC) RX8 cX8_isName 1 (some .boolean) 1 0 25 [] [] σ k) ?_ (fun k25 h25 => ?_)
      · refine X_iconst (v := (1 : Int32)) (pc := 25) (td kX8_isName 12 rfl) (by decide) ?_
        refine X_goto (pc := 26) (tgt := 30) (td kX8_isName 13 rfl) (by decide) ?_
        exact X_ret (pc := 30) (td kX8_isName 15 rfl) rfl
      · refine X_icmp_eq (pc := 13) (tgt := 25) (td kX8_isName 7 rfl) (by decide) (fun c_13 => ?_) (fun c_13 => ?_)
        · refine X_sub [] rfl ?_
          exact h25
        · refine X_aload_n (pc := 16) (td kX8_isName 8 rfl) rfl 0 rfl ?_
          refine X_getI (pc := 17) sC_4 rfl fk_X8_64 (td kX8_isName 9 rfl) ?_
          refine X_bipush (v := (19 : Int32)) (pc := 20) (td kX8_isName 10 rfl) (by decide) ?_
          refine X_icmp_lt (pc := 22) (tgt := 29) (td kX8_isName 11 rfl) (by decide) (fun c_22 => ?_) (fun c_22 => ?_)
          · refine X_sub [] rfl ?_
            exact h29
          · refine X_sub [] rfl ?_
            exact h25
set_option maxHeartbeats 4000000 in
theorem p_X8_isName (σ : Mm) : Pu σ (f_X8_isName σ) := by
  unfold f_X8_isName
  refine Pu_jn (fun k => Pu σ (k)) ?_ (fun k29 h29 => ?_)
  · exact Pu_some
  · refine Pu_if ?_ ?_
    · refine Pu_jn (fun k => Pu σ (k)) ?_ (fun k25 h25 => ?_)
      · exact Pu_some
      · refine Pu_if ?_ ?_
        · exact h25
        · refine Pu_if ?_ ?_
          · exact h29
          · exact h25
    · exact h29
def F_X8_takeNumber_5 (k93 : Mm → Option (Int32 × Mm)) (rec5 : Mm → Option (Int32 × Mm)) (σ_5 : Mm) : Option (Int32 × Mm) := (if (gI σ_5 4 4) < (gI σ_5 1 1) then bn (gI σ_5 4 4) (fun i_30 => ck (inb i_30 1000) ((if (gI σ_5 2 i_30.toNatClampNeg) < (48 : Int32) then k93 σ_5 else bn (gI σ_5 4 4) (fun i_47 => ck (inb i_47 1000) ((if (57 : Int32) < (gI σ_5 2 i_47.toNatClampNeg) then k93 σ_5 else bn (gI σ_5 4 4) (fun i_72 => ck (inb i_72 1000) (bn (pI σ_5 4 6 ((((gI σ_5 4 6) * (10 : Int32)) + (gI σ_5 2 i_72.toNatClampNeg)) - (48 : Int32))) (fun σ77 => bn (pI σ77 4 4 ((gI σ77 4 4) + (1 : Int32))) (fun σ87 => rec5 σ87)))))))))) else k93 σ_5)
def f_X8_takeNumber (σ : Mm) : Option (Int32 × Mm) := bn (pI σ 4 6 (0 : Int32)) (fun σ2 => jn (fun (σ_93 : Mm) => jn (fun (y1_112 : Int32) => bn (pI σ_93 4 2 y1_112) (fun σ112 => some (0, σ112))) (fun k112 => (if (4 : Int32) < ((gI σ_93 4 4) - (gI σ_93 4 3)) then k112 (0 : Int32) else k112 (3 : Int32)))) (fun k93 => lq1 (F_X8_takeNumber_5 k93) 1000000 σ2))
set_option maxHeartbeats 4000000 in
set_option maxRecDepth 100000 in
theorem x_X8_takeNumber (σ : Mm) : Con (wsOf SHC) yX8_takeNumber cX8_takeNumber 1 none 1 [.ref 4] σ (f_X8_takeNumber σ) := by
  refine Con.of_X (by decide +kernel) (Nat.le_of_ble_eq_true rfl) ?_
  unfold f_X8_takeNumber
  show X (wsOf SHC) RX8 cX8_takeNumber 1 none 1 0 0 [(0, .ref 4)] [] σ _
  refine X_aload_n (pc := 0) (td kX8_takeNumber 0 rfl) rfl 0 rfl ?_
  refine X_iconst (v := (0 : Int32)) (pc := 1) (td kX8_takeNumber 1 rfl) (by decide) ?_
  refine X_putI (pc := 2) sC_4 rfl fk_X8_64 rfl rfl (td kX8_takeNumber 2 rfl) (fun σ2 => ?_)
  refine X_jn (P := fun k => ∀ (σ_93 : Mm), X (wsOf SHC) RX8 cX8_takeNumber 1 none 1 0 93 [(0, .ref 4)] [] σ_93 (k σ_93)) (fun σ_93 => ?_) (fun k93 h93 => ?_)
  · refine X_aload_n (pc := 93) (td kX8_takeNumber 47 rfl) rfl 0 rfl ?_
    refine X_aload_n (pc := 94) (td kX8_takeNumber 48 rfl) rfl 0 rfl ?_
    refine X_getI (pc := 95) sC_4 rfl fk_X8_31 (td kX8_takeNumber 49 rfl) ?_
    refine X_aload_n (pc := 98) (td kX8_takeNumber 50 rfl) rfl 0 rfl ?_
    refine X_getI (pc := 99) sC_4 rfl fk_X8_38 (td kX8_takeNumber 51 rfl) ?_
    refine X_isub (pc := 102) (td kX8_takeNumber 52 rfl) ?_
    refine X_iconst (v := (4 : Int32)) (pc := 103) (td kX8_takeNumber 53 rfl) (by decide) ?_
    refine X_jn (P := fun k => ∀ (y1_112 : Int32), X (wsOf SHC) RX8 cX8_takeNumber 1 none 1 0 112 [] [.int y1_112, .ref 4] σ_93 (k y1_112)) (fun y1_112 => ?_) (fun k112 h112 => ?_)
    · refine X_putI (pc := 112) sC_4 rfl fk_X8_49 rfl rfl (td kX8_takeNumber 58 rfl) (fun σ112 => ?_)
      exact X_retv (pc := 115) (td kX8_takeNumber 59 rfl)
    · refine X_icmp_gt (pc := 104) (tgt := 111) (td kX8_takeNumber 54 rfl) (by decide) (fun c_104 => ?_) (fun c_104 => ?_)
      · refine X_iconst (v := (0 : Int32)) (pc := 111) (td kX8_takeNumber 57 rfl) (by decide) ?_
        refine X_sub [] rfl ?_
        exact h112 (0 : Int32)
      · refine X_iconst (v := (3 : Int32)) (pc := 107) (td kX8_takeNumber 55 rfl) (by decide) ?_
        refine X_goto (pc := 108) (tgt := 112) (td kX8_takeNumber 56 rfl) (by decide) ?_
        refine X_sub [] rfl ?_
        exact h112 (3 : Int32)
  · refine lq1_ind (P := fun σ_5 E => X (wsOf SHC) RX8 cX8_takeNumber 1 none 1 0 5 [(0, .ref 4)] [] σ_5 E) (fun _ => X_none) (fun rec5 hrec5 σ_5 => ?_) _ _
    unfold F_X8_takeNumber_5
    refine X_aload_n (pc := 5) (td kX8_takeNumber 3 rfl) rfl 0 rfl ?_
    refine X_getI (pc := 6) sC_4 rfl fk_X8_31 (td kX8_takeNumber 4 rfl) ?_
    refine X_aload_n (pc := 9) (td kX8_takeNumber 5 rfl) rfl 0 rfl ?_
    refine X_getF (b := 1) (pc := 10) sC_4 rfl fk_X8_15 (td kX8_takeNumber 6 rfl) ?_
    refine X_getI (pc := 13) sC_1 rfl fk_X8_41 (td kX8_takeNumber 7 rfl) ?_
    refine X_icmp_ge (pc := 16) (tgt := 93) (td kX8_takeNumber 8 rfl) (by decide) (fun c_16 => ?_) (fun c_16 => ?_)
    · exact h93 σ_5
    · refine X_aload_n (pc := 19) (td kX8_takeNumber 9 rfl) rfl 0 rfl ?_
      refine X_getF (b := 1) (pc := 20) sC_4 rfl fk_X8_15 (td kX8_takeNumber 10 rfl) ?_
      refine X_getF (b := 2) (pc := 23) sC_1 rfl fk_X8_45 (td kX8_takeNumber 11 rfl) ?_
      refine X_aload_n (pc := 26) (td kX8_takeNumber 12 rfl) rfl 0 rfl ?_
      refine X_getI (pc := 27) sC_4 rfl fk_X8_31 (td kX8_takeNumber 13 rfl) ?_
      refine X_bi (fun i_30 => ?_)
      refine X_bald (pc := 30) sC_2 (td kX8_takeNumber 14 rfl) ?_
      refine X_bipush (v := (48 : Int32)) (pc := 31) (td kX8_takeNumber 15 rfl) (by decide) ?_
      refine X_icmp_lt (pc := 33) (tgt := 93) (td kX8_takeNumber 16 rfl) (by decide) (fun c_33 => ?_) (fun c_33 => ?_)
      · exact h93 σ_5
      · refine X_aload_n (pc := 36) (td kX8_takeNumber 17 rfl) rfl 0 rfl ?_
        refine X_getF (b := 1) (pc := 37) sC_4 rfl fk_X8_15 (td kX8_takeNumber 18 rfl) ?_
        refine X_getF (b := 2) (pc := 40) sC_1 rfl fk_X8_45 (td kX8_takeNumber 19 rfl) ?_
        refine X_aload_n (pc := 43) (td kX8_takeNumber 20 rfl) rfl 0 rfl ?_
        refine X_getI (pc := 44) sC_4 rfl fk_X8_31 (td kX8_takeNumber 21 rfl) ?_
        refine X_bi (fun i_47 => ?_)
        refine X_bald (pc := 47) sC_2 (td kX8_takeNumber 22 rfl) ?_
        refine X_bipush (v := (57 : Int32)) (pc := 48) (td kX8_takeNumber 23 rfl) (by decide) ?_
        refine X_icmp_gt (pc := 50) (tgt := 93) (td kX8_takeNumber 24 rfl) (by decide) (fun c_50 => ?_) (fun c_50 => ?_)
        · exact h93 σ_5
        · refine X_aload_n (pc := 53) (td kX8_takeNumber 25 rfl) rfl 0 rfl ?_
          refine X_aload_n (pc := 54) (td kX8_takeNumber 26 rfl) rfl 0 rfl ?_
          refine X_getI (pc := 55) sC_4 rfl fk_X8_64 (td kX8_takeNumber 27 rfl) ?_
          refine X_bipush (v := (10 : Int32)) (pc := 58) (td kX8_takeNumber 28 rfl) (by decide) ?_
          refine X_imul (pc := 60) (td kX8_takeNumber 29 rfl) ?_
          refine X_aload_n (pc := 61) (td kX8_takeNumber 30 rfl) rfl 0 rfl ?_
          refine X_getF (b := 1) (pc := 62) sC_4 rfl fk_X8_15 (td kX8_takeNumber 31 rfl) ?_
          refine X_getF (b := 2) (pc := 65) sC_1 rfl fk_X8_45 (td kX8_takeNumber 32 rfl) ?_
          refine X_aload_n (pc := 68) (td kX8_takeNumber 33 rfl) rfl 0 rfl ?_
          refine X_getI (pc := 69) sC_4 rfl fk_X8_31 (td kX8_takeNumber 34 rfl) ?_
          refine X_bi (fun i_72 => ?_)
          refine X_bald (pc := 72) sC_2 (td kX8_takeNumber 35 rfl) ?_
          refine X_iadd (pc := 73) (td kX8_takeNumber 36 rfl) ?_
          refine X_bipush (v := (48 : Int32)) (pc := 74) (td kX8_takeNumber 37 rfl) (by decide) ?_
          refine X_isub (pc := 76) (td kX8_takeNumber 38 rfl) ?_
          refine X_putI (pc := 77) sC_4 rfl fk_X8_64 rfl rfl (td kX8_takeNumber 39 rfl) (fun σ77 => ?_)
          refine X_aload_n (pc := 80) (td kX8_takeNumber 40 rfl) rfl 0 rfl ?_
          refine X_dup (pc := 81) (td kX8_takeNumber 41 rfl) rfl ?_
          refine X_getI (pc := 82) sC_4 rfl fk_X8_31 (td kX8_takeNumber 42 rfl) ?_
          refine X_iconst (v := (1 : Int32)) (pc := 85) (td kX8_takeNumber 43 rfl) (by decide) ?_
          refine X_iadd (pc := 86) (td kX8_takeNumber 44 rfl) ?_
          refine X_putI (pc := 87) sC_4 rfl fk_X8_31 rfl rfl (td kX8_takeNumber 45 rfl) (fun σ87 => ?_)
          refine X_goto (pc := 90) (tgt := 5) (td kX8_takeNumber 46 rfl) (by decide) ?_
          exact hrec5 σ87
def F_X8_takeWord_125 (k156 : Mm → Option (Int32 × Mm)) (rec125 : Int32 → Mm → Option (Int32 × Mm)) (x1_125 : Int32) (σ_125 : Mm) : Option (Int32 × Mm) := (if x1_125 < (23 : Int32) then ck (inb x1_125 23) (jn (fun (σ_150 : Mm) => rec125 (x1_125 + (1 : Int32)) σ_150) (fun k150 => (if (lg_cmp (gL σ_125 5 x1_125.toNatClampNeg) (gL σ_125 4 5)) = 0 then bn (pI σ_125 4 6 x1_125) (fun σ147 => k150 σ147) else k150 σ_125))) else k156 σ_125)
def F_X8_takeWord_5 (k95 : Mm → Option (Int32 × Mm)) (rec5 : Mm → Option (Int32 × Mm)) (σ_5 : Mm) : Option (Int32 × Mm) := (if (gI σ_5 4 4) < (gI σ_5 1 1) then bn (gI σ_5 4 4) (fun i_30 => ck (inb i_30 1000) ((if (gI σ_5 2 i_30.toNatClampNeg) < (97 : Int32) then k95 σ_5 else bn (gI σ_5 4 4) (fun i_47 => ck (inb i_47 1000) ((if (122 : Int32) < (gI σ_5 2 i_47.toNatClampNeg) then k95 σ_5 else bn (gI σ_5 4 4) (fun i_71 => ck (inb i_71 1000) (bn (pL σ_5 4 5 ((lshl (gL σ_5 4 5) (5 : Int32)) ||| (((gI σ_5 2 i_71.toNatClampNeg) - (97 : Int32)) + (1 : Int32)).toInt64)) (fun σ79 => bn (pI σ79 4 4 ((gI σ79 4 4) + (1 : Int32))) (fun σ89 => rec5 σ89)))))))))) else k95 σ_5)
def f_X8_takeWord (σ : Mm) : Option (Int32 × Mm) := bn (pL σ 4 5 (0 : Int64)) (fun σ2 => jn (fun (σ_95 : Mm) => jn (fun (y1_115 : Int32) => bn (pI σ_95 4 2 y1_115) (fun σ115 => bn (pI σ115 4 6 (-1 : Int32)) (fun σ120 => jn (fun (σ_156 : Mm) => some (0, σ_156)) (fun k156 => lq2 (F_X8_takeWord_125 k156) 1000000 (0 : Int32) σ120)))) (fun k115 => (if (8 : Int32) < ((gI σ_95 4 4) - (gI σ_95 4 3)) then k115 (0 : Int32) else k115 (2 : Int32)))) (fun k95 => lq1 (F_X8_takeWord_5 k95) 1000000 σ2))
set_option maxHeartbeats 4000000 in
set_option maxRecDepth 100000 in
theorem x_X8_takeWord (σ : Mm) : Con (wsOf SHC) yX8_takeWord cX8_takeWord 2 none 1 [.ref 4] σ (f_X8_takeWord σ) := by
  refine Con.of_X (by decide +kernel) (Nat.le_of_ble_eq_true rfl) ?_
  unfold f_X8_takeWord
  show X (wsOf SHC) RX8 cX8_takeWord 2 none 1 0 0 [(0, .ref 4)] [] σ _
  refine X_aload_n (pc := 0) (td kX8_takeWord 0 rfl) rfl 0 rfl ?_
  refine X_lconst (v := (0 : Int64)) (pc := 1) (td kX8_takeWord 1 rfl) (by decide) ?_
  refine X_putL (pc := 2) sC_4 rfl fk_X8_67 (td kX8_takeWord 2 rfl) (fun σ2 => ?_)
  refine X_jn (P := fun k => ∀ (σ_95 : Mm), X (wsOf SHC) RX8 cX8_takeWord 2 none 1 0 95 [(0, .ref 4)] [] σ_95 (k σ_95)) (fun σ_95 => ?_) (fun k95 h95 => ?_)
  · refine X_aload_n (pc := 95) (td kX8_takeWord 50 rfl) rfl 0 rfl ?_
    refine X_aload_n (pc := 96) (td kX8_takeWord 51 rfl) rfl 0 rfl ?_
    refine X_getI (pc := 97) sC_4 rfl fk_X8_31 (td kX8_takeWord 52 rfl) ?_
    refine X_aload_n (pc := 100) (td kX8_takeWord 53 rfl) rfl 0 rfl ?_
    refine X_getI (pc := 101) sC_4 rfl fk_X8_38 (td kX8_takeWord 54 rfl) ?_
    refine X_isub (pc := 104) (td kX8_takeWord 55 rfl) ?_
    refine X_bipush (v := (8 : Int32)) (pc := 105) (td kX8_takeWord 56 rfl) (by decide) ?_
    refine X_jn (P := fun k => ∀ (y1_115 : Int32), X (wsOf SHC) RX8 cX8_takeWord 2 none 1 0 115 [(0, .ref 4)] [.int y1_115, .ref 4] σ_95 (k y1_115)) (fun y1_115 => ?_) (fun k115 h115 => ?_)
    · refine X_putI (pc := 115) sC_4 rfl fk_X8_49 rfl rfl (td kX8_takeWord 61 rfl) (fun σ115 => ?_)
      refine X_aload_n (pc := 118) (td kX8_takeWord 62 rfl) rfl 0 rfl ?_
      refine X_iconst (v := (-1 : Int32)) (pc := 119) (td kX8_takeWord 63 rfl) (by decide) ?_
      refine X_putI (pc := 120) sC_4 rfl fk_X8_64 rfl rfl (td kX8_takeWord 64 rfl) (fun σ120 => ?_)
      refine X_iconst (v := (0 : Int32)) (pc := 123) (td kX8_takeWord 65 rfl) (by decide) ?_
      refine X_istore_n (L' := [(1, .int (0 : Int32)), (0, .ref 4)]) (pc := 124) (td kX8_takeWord 66 rfl) rfl (by decide) rfl ?_
      refine X_jn (P := fun k => ∀ (σ_156 : Mm), X (wsOf SHC) RX8 cX8_takeWord 2 none 1 0 156 [] [] σ_156 (k σ_156)) (fun σ_156 => ?_) (fun k156 h156 => ?_)
      · exact X_retv (pc := 156) (td kX8_takeWord 83 rfl)
      · refine X_sub [1, 0] rfl ?_
        refine lq2_ind (P := fun x1_125 σ_125 E => X (wsOf SHC) RX8 cX8_takeWord 2 none 1 0 125 [(0, .ref 4), (1, .int x1_125)] [] σ_125 E) (fun _ _ => X_none) (fun rec125 hrec125 x1_125 σ_125 => ?_) _ _ _
        unfold F_X8_takeWord_125
        refine X_iload_n (pc := 125) (td kX8_takeWord 67 rfl) rfl 1 rfl ?_
        refine X_bipush (v := (23 : Int32)) (pc := 126) (td kX8_takeWord 68 rfl) (by decide) ?_
        refine X_icmp_ge (pc := 128) (tgt := 156) (td kX8_takeWord 69 rfl) (by decide) (fun c_128 => ?_) (fun c_128 => ?_)
        · refine X_sub [] rfl ?_
          exact h156 σ_125
        · refine X_aload_n (pc := 131) (td kX8_takeWord 70 rfl) rfl 0 rfl ?_
          refine X_getF (b := 5) (pc := 132) sC_4 rfl fk_X8_11 (td kX8_takeWord 71 rfl) ?_
          refine X_iload_n (pc := 135) (td kX8_takeWord 72 rfl) rfl 1 rfl ?_
          refine X_lald (pc := 136) sC_5 (td kX8_takeWord 73 rfl) ?_
          refine X_aload_n (pc := 137) (td kX8_takeWord 74 rfl) rfl 0 rfl ?_
          refine X_getL (pc := 138) sC_4 rfl fk_X8_67 (td kX8_takeWord 75 rfl) ?_
          refine X_lcmp (pc := 141) (td kX8_takeWord 76 rfl) ?_
          refine X_jn (P := fun k => ∀ (σ_150 : Mm), X (wsOf SHC) RX8 cX8_takeWord 2 none 1 0 150 [(0, .ref 4), (1, .int x1_125)] [] σ_150 (k σ_150)) (fun σ_150 => ?_) (fun k150 h150 => ?_)
          · refine X_iinc (v := (x1_125 + (1 : Int32))) (L' := [(1, .int (x1_125 + (1 : Int32))), (0, .ref 4)]) (pc := 150) (td kX8_takeWord 81 rfl) 1 rfl rfl (by decide) rfl ?_
            refine X_goto (pc := 153) (tgt := 125) (td kX8_takeWord 82 rfl) (by decide) ?_
            refine X_sub [1, 0] rfl ?_
            exact hrec125 (x1_125 + (1 : Int32)) σ_150
          · refine X_if_ne (pc := 142) (tgt := 150) (td kX8_takeWord 77 rfl) (by decide) (fun c_142 => ?_) (fun c_142 => ?_)
            · exact h150 σ_125
            · refine X_aload_n (pc := 145) (td kX8_takeWord 78 rfl) rfl 0 rfl ?_
              refine X_iload_n (pc := 146) (td kX8_takeWord 79 rfl) rfl 1 rfl ?_
              refine X_putI (pc := 147) sC_4 rfl fk_X8_64 rfl rfl (td kX8_takeWord 80 rfl) (fun σ147 => ?_)
              exact h150 σ147
    · refine X_icmp_gt (pc := 107) (tgt := 114) (td kX8_takeWord 57 rfl) (by decide) (fun c_107 => ?_) (fun c_107 => ?_)
      · refine X_iconst (v := (0 : Int32)) (pc := 114) (td kX8_takeWord 60 rfl) (by decide) ?_
        exact h115 (0 : Int32)
      · refine X_iconst (v := (2 : Int32)) (pc := 110) (td kX8_takeWord 58 rfl) (by decide) ?_
        refine X_goto (pc := 111) (tgt := 115) (td kX8_takeWord 59 rfl) (by decide) ?_
        exact h115 (2 : Int32)
  · refine lq1_ind (P := fun σ_5 E => X (wsOf SHC) RX8 cX8_takeWord 2 none 1 0 5 [(0, .ref 4)] [] σ_5 E) (fun _ => X_none) (fun rec5 hrec5 σ_5 => ?_) _ _
    unfold F_X8_takeWord_5
    refine X_aload_n (pc := 5) (td kX8_takeWord 3 rfl) rfl 0 rfl ?_
    refine X_getI (pc := 6) sC_4 rfl fk_X8_31 (td kX8_takeWord 4 rfl) ?_
    refine X_aload_n (pc := 9) (td kX8_takeWord 5 rfl) rfl 0 rfl ?_
    refine X_getF (b := 1) (pc := 10) sC_4 rfl fk_X8_15 (td kX8_takeWord 6 rfl) ?_
    refine X_getI (pc := 13) sC_1 rfl fk_X8_41 (td kX8_takeWord 7 rfl) ?_
    refine X_icmp_ge (pc := 16) (tgt := 95) (td kX8_takeWord 8 rfl) (by decide) (fun c_16 => ?_) (fun c_16 => ?_)
    · exact h95 σ_5
    · refine X_aload_n (pc := 19) (td kX8_takeWord 9 rfl) rfl 0 rfl ?_
      refine X_getF (b := 1) (pc := 20) sC_4 rfl fk_X8_15 (td kX8_takeWord 10 rfl) ?_
      refine X_getF (b := 2) (pc := 23) sC_1 rfl fk_X8_45 (td kX8_takeWord 11 rfl) ?_
      refine X_aload_n (pc := 26) (td kX8_takeWord 12 rfl) rfl 0 rfl ?_
      refine X_getI (pc := 27) sC_4 rfl fk_X8_31 (td kX8_takeWord 13 rfl) ?_
      refine X_bi (fun i_30 => ?_)
      refine X_bald (pc := 30) sC_2 (td kX8_takeWord 14 rfl) ?_
      refine X_bipush (v := (97 : Int32)) (pc := 31) (td kX8_takeWord 15 rfl) (by decide) ?_
      refine X_icmp_lt (pc := 33) (tgt := 95) (td kX8_takeWord 16 rfl) (by decide) (fun c_33 => ?_) (fun c_33 => ?_)
      · exact h95 σ_5
      · refine X_aload_n (pc := 36) (td kX8_takeWord 17 rfl) rfl 0 rfl ?_
        refine X_getF (b := 1) (pc := 37) sC_4 rfl fk_X8_15 (td kX8_takeWord 18 rfl) ?_
        refine X_getF (b := 2) (pc := 40) sC_1 rfl fk_X8_45 (td kX8_takeWord 19 rfl) ?_
        refine X_aload_n (pc := 43) (td kX8_takeWord 20 rfl) rfl 0 rfl ?_
        refine X_getI (pc := 44) sC_4 rfl fk_X8_31 (td kX8_takeWord 21 rfl) ?_
        refine X_bi (fun i_47 => ?_)
        refine X_bald (pc := 47) sC_2 (td kX8_takeWord 22 rfl) ?_
        refine X_bipush (v := (122 : Int32)) (pc := 48) (td kX8_takeWord 23 rfl) (by decide) ?_
        refine X_icmp_gt (pc := 50) (tgt := 95) (td kX8_takeWord 24 rfl) (by decide) (fun c_50 => ?_) (fun c_50 => ?_)
        · exact h95 σ_5
        · refine X_aload_n (pc := 53) (td kX8_takeWord 25 rfl) rfl 0 rfl ?_
          refine X_aload_n (pc := 54) (td kX8_takeWord 26 rfl) rfl 0 rfl ?_
          refine X_getL (pc := 55) sC_4 rfl fk_X8_67 (td kX8_takeWord 27 rfl) ?_
          refine X_iconst (v := (5 : Int32)) (pc := 58) (td kX8_takeWord 28 rfl) (by decide) ?_
          refine X_lshl (pc := 59) (td kX8_takeWord 29 rfl) ?_
          refine X_aload_n (pc := 60) (td kX8_takeWord 30 rfl) rfl 0 rfl ?_
          refine X_getF (b := 1) (pc := 61) sC_4 rfl fk_X8_15 (td kX8_takeWord 31 rfl) ?_
          refine X_getF (b := 2) (pc := 64) sC_1 rfl fk_X8_45 (td kX8_takeWord 32 rfl) ?_
          refine X_aload_n (pc := 67) (td kX8_takeWord 33 rfl) rfl 0 rfl ?_
          refine X_getI (pc := 68) sC_4 rfl fk_X8_31 (td kX8_takeWord 34 rfl) ?_
          refine X_bi (fun i_71 => ?_)
          refine X_bald (pc := 71) sC_2 (td kX8_takeWord 35 rfl) ?_
          refine X_bipush (v := (97 : Int32)) (pc := 72) (td kX8_takeWord 36 rfl) (by decide) ?_
          refine X_isub (pc := 74) (td kX8_takeWord 37 rfl) ?_
          refine X_iconst (v := (1 : Int32)) (pc := 75) (td kX8_takeWord 38 rfl) (by decide) ?_
          refine X_iadd (pc := 76) (td kX8_takeWord 39 rfl) ?_
          refine X_i2l (pc := 77) (td kX8_takeWord 40 rfl) ?_
          refine X_lor (pc := 78) (td kX8_takeWord 41 rfl) ?_
          refine X_putL (pc := 79) sC_4 rfl fk_X8_67 (td kX8_takeWord 42 rfl) (fun σ79 => ?_)
          refine X_aload_n (pc := 82) (td kX8_takeWord 43 rfl) rfl 0 rfl ?_
          refine X_dup (pc := 83) (td kX8_takeWord 44 rfl) rfl ?_
          refine X_getI (pc := 84) sC_4 rfl fk_X8_31 (td kX8_takeWord 45 rfl) ?_
          refine X_iconst (v := (1 : Int32)) (pc := 87) (td kX8_takeWord 46 rfl) (by decide) ?_
          refine X_iadd (pc := 88) (td kX8_takeWord 47 rfl) ?_
          refine X_putI (pc := 89) sC_4 rfl fk_X8_31 rfl rfl (td kX8_takeWord 48 rfl) (fun σ89 => ?_)
          refine X_goto (pc := 92) (tgt := 5) (td kX8_takeWord 49 rfl) (by decide) ?_
          exact hrec5 σ89
def J_X8_advance_129 (σ74 : Mm) (v1_109 : Int32) : Option (Int32 × Mm) := jn (bn (pI σ74 4 4 ((gI σ74 4 3) + (1 : Int32))) (fun σ155 => cl (f_J0_indexOf_0f7a4 1000002 (v1_109.toUInt32 % 65536).toInt32 σ155) (fun r163 _ => jn (fun (y1_174 : Int32) => bn (pI σ155 4 2 y1_174) (fun σ174 => bn (pI σ174 4 6 v1_109) (fun σ179 => some (0, σ179)))) (fun k174 => (if r163 < 0 then k174 (0 : Int32) else k174 (4 : Int32)))))) (fun k148 => (if v1_109 < (48 : Int32) then k148 else (if (57 : Int32) < v1_109 then k148 else cl (f_X8_takeNumber σ74) (fun _ σ142 => some (0, σ142)))))
def J_X8_advance_69 (σ_69 : Mm) : Option (Int32 × Mm) := bn (pI σ_69 4 4 (gI σ_69 4 3)) (fun σ74 => (if (gI σ74 4 3) < (gI σ74 1 1) then bn (gI σ74 4 3) (fun i_108 => ck (inb i_108 1000) (bn (gI σ74 2 i_108.toNatClampNeg) (fun v1_109 => jn (J_X8_advance_129 σ74 v1_109) (fun k129 => (if v1_109 < (97 : Int32) then k129 else (if (122 : Int32) < v1_109 then k129 else cl (f_X8_takeWord σ74) (fun _ σ123 => some (0, σ123)))))))) else bn (pI σ74 4 2 (1 : Int32)) (fun σ93 => some (0, σ93))))
def F_X8_advance_8 (k69 : Mm → Option (Int32 × Mm)) (rec8 : Mm → Option (Int32 × Mm)) (σ_8 : Mm) : Option (Int32 × Mm) := (if (gI σ_8 4 3) < (gI σ_8 1 1) then bn (gI σ_8 4 3) (fun i_33 => ck (inb i_33 1000) (jn (bn (pI σ_8 4 3 ((gI σ_8 4 3) + (1 : Int32))) (fun σ63 => rec8 σ63)) (fun k56 => (if (gI σ_8 2 i_33.toNatClampNeg) = (10 : Int32) then k56 else bn (gI σ_8 4 3) (fun i_50 => ck (inb i_50 1000) ((if (gI σ_8 2 i_50.toNatClampNeg) = (32 : Int32) then k56 else k69 σ_8))))))) else k69 σ_8)
def f_X8_advance (σ : Mm) : Option (Int32 × Mm) := bn (pI σ 4 3 (gI σ 4 4)) (fun σ5 => jn (J_X8_advance_69) (fun k69 => lq1 (F_X8_advance_8 k69) 1000000 σ5))
set_option maxHeartbeats 4000000 in
set_option maxRecDepth 100000 in
theorem x_X8_advance (σ : Mm) : Con (wsOf SHC) yX8_advance cX8_advance 2 none 5 [.ref 4] σ (f_X8_advance σ) := by
  refine Con.of_X (by decide +kernel) (Nat.le_of_ble_eq_true rfl) ?_
  unfold f_X8_advance
  show X (wsOf SHC) RX8 cX8_advance 2 none 5 0 0 [(0, .ref 4)] [] σ _
  refine X_aload_n (pc := 0) (td kX8_advance 0 rfl) rfl 0 rfl ?_
  refine X_aload_n (pc := 1) (td kX8_advance 1 rfl) rfl 0 rfl ?_
  refine X_getI (pc := 2) sC_4 rfl fk_X8_31 (td kX8_advance 2 rfl) ?_
  refine X_putI (pc := 5) sC_4 rfl fk_X8_38 rfl rfl (td kX8_advance 3 rfl) (fun σ5 => ?_)
  refine X_jn (P := fun k => ∀ (σ_69 : Mm), X (wsOf SHC) RX8 cX8_advance 2 none 5 0 69 [(0, .ref 4)] [] σ_69 (k σ_69)) (fun σ_69 => ?_) (fun k69 h69 => ?_)
  · unfold J_X8_advance_69
    refine X_aload_n (pc := 69) (td kX8_advance 33 rfl) rfl 0 rfl ?_
    refine X_aload_n (pc := 70) (td kX8_advance 34 rfl) rfl 0 rfl ?_
    refine X_getI (pc := 71) sC_4 rfl fk_X8_38 (td kX8_advance 35 rfl) ?_
    refine X_putI (pc := 74) sC_4 rfl fk_X8_31 rfl rfl (td kX8_advance 36 rfl) (fun σ74 => ?_)
    refine X_aload_n (pc := 77) (td kX8_advance 37 rfl) rfl 0 rfl ?_
    refine X_getI (pc := 78) sC_4 rfl fk_X8_38 (td kX8_advance 38 rfl) ?_
    refine X_aload_n (pc := 81) (td kX8_advance 39 rfl) rfl 0 rfl ?_
    refine X_getF (b := 1) (pc := 82) sC_4 rfl fk_X8_15 (td kX8_advance 40 rfl) ?_
    refine X_getI (pc := 85) sC_1 rfl fk_X8_41 (td kX8_advance 41 rfl) ?_
    refine X_icmp_lt (pc := 88) (tgt := 97) (td kX8_advance 42 rfl) (by decide) (fun c_88 => ?_) (fun c_88 => ?_)
    · refine X_aload_n (pc := 97) (td kX8_advance 47 rfl) rfl 0 rfl ?_
      refine X_getF (b := 1) (pc := 98) sC_4 rfl fk_X8_15 (td kX8_advance 48 rfl) ?_
      refine X_getF (b := 2) (pc := 101) sC_1 rfl fk_X8_45 (td kX8_advance 49 rfl) ?_
      refine X_aload_n (pc := 104) (td kX8_advance 50 rfl) rfl 0 rfl ?_
      refine X_getI (pc := 105) sC_4 rfl fk_X8_38 (td kX8_advance 51 rfl) ?_
      refine X_bi (fun i_108 => ?_)
      refine X_bald (pc := 108) sC_2 (td kX8_advance 52 rfl) ?_
      refine X_bi (fun v1_109 => ?_)
      refine X_istore_n (L' := [(1, .int v1_109), (0, .ref 4)]) (pc := 109) (td kX8_advance 53 rfl) rfl (by decide) rfl ?_
      refine X_iload_n (pc := 110) (td kX8_advance 54 rfl) rfl 0 rfl ?_
      refine X_bipush (v := (97 : Int32)) (pc := 111) (td kX8_advance 55 rfl) (by decide) ?_
      refine X_jn (P := fun k => X (wsOf SHC) RX8 cX8_advance 2 none 5 0 129 [(0, .ref 4), (1, .int v1_109)] [] σ74 k) ?_ (fun k129 h129 => ?_)
      · unfold J_X8_advance_129
        refine X_iload_n (pc := 129) (td kX8_advance 63 rfl) rfl 1 rfl ?_
        refine X_bipush (v := (48 : Int32)) (pc := 130) (td kX8_advance 64 rfl) (by decide) ?_
        refine X_jn (P := fun k => X (wsOf SHC) RX8 cX8_advance 2 none 5 0 148 [(0, .ref 4), (1, .int v1_109)] [] σ74 k) ?_ (fun k148 h148 => ?_)
        · refine X_aload_n (pc := 148) (td kX8_advance 72 rfl) rfl 0 rfl ?_
          refine X_aload_n (pc := 149) (td kX8_advance 73 rfl) rfl 0 rfl ?_
          refine X_getI (pc := 150) sC_4 rfl fk_X8_38 (td kX8_advance 74 rfl) ?_
          refine X_iconst (v := (1 : Int32)) (pc := 153) (td kX8_advance 75 rfl) (by decide) ?_
          refine X_iadd (pc := 154) (td kX8_advance 76 rfl) ?_
          refine X_putI (pc := 155) sC_4 rfl fk_X8_31 rfl rfl (td kX8_advance 77 rfl) (fun σ155 => ?_)
          refine X_aload_n (pc := 158) (td kX8_advance 78 rfl) rfl 0 rfl ?_
          refine X_ldcS (pc := 159) rfl (td kX8_advance 79 rfl) ?_
          refine X_iload_n (pc := 161) (td kX8_advance 80 rfl) rfl 1 rfl ?_
          refine X_i2c (pc := 162) (td kX8_advance 81 rfl) ?_
          refine X_callj (pc := 163) (As := [.int (v1_109.toUInt32 % 65536).toInt32]) (st := [.ref 4]) (p_J0_indexOf_0f7a4 1000002 (v1_109.toUInt32 % 65536).toInt32 σ155) (by decide) (x_J0_indexOf_0f7a4 1000002 (v1_109.toUInt32 % 65536).toInt32 σ155) mkJ0_indexOf_0f7a4 lk_X8_60 (by omega) rfl rfl (Nat.le_of_ble_eq_true rfl) (td kX8_advance 82 rfl) (fun r163 hr163 => ?_)
          refine X_jn (P := fun k => ∀ (y1_174 : Int32), X (wsOf SHC) RX8 cX8_advance 2 none 5 0 174 [(0, .ref 4), (1, .int v1_109)] [.int y1_174, .ref 4] σ155 (k y1_174)) (fun y1_174 => ?_) (fun k174 h174 => ?_)
          · refine X_putI (pc := 174) sC_4 rfl fk_X8_49 rfl rfl (td kX8_advance 87 rfl) (fun σ174 => ?_)
            refine X_aload_n (pc := 177) (td kX8_advance 88 rfl) rfl 0 rfl ?_
            refine X_iload_n (pc := 178) (td kX8_advance 89 rfl) rfl 1 rfl ?_
            refine X_putI (pc := 179) sC_4 rfl fk_X8_64 rfl rfl (td kX8_advance 90 rfl) (fun σ179 => ?_)
            exact X_retv (pc := 182) (td kX8_advance 91 rfl)
          · refine X_if_lt (pc := 166) (tgt := 173) (td kX8_advance 83 rfl) (by decide) (fun c_166 => ?_) (fun c_166 => ?_)
            · refine X_iconst (v := (0 : Int32)) (pc := 173) (td kX8_advance 86 rfl) (by decide) ?_
              exact h174 (0 : Int32)
            · refine X_iconst (v := (4 : Int32)) (pc := 169) (td kX8_advance 84 rfl) (by decide) ?_
              refine X_goto (pc := 170) (tgt := 174) (td kX8_advance 85 rfl) (by decide) ?_
              exact h174 (4 : Int32)
        · refine X_icmp_lt (pc := 132) (tgt := 148) (td kX8_advance 65 rfl) (by decide) (fun c_132 => ?_) (fun c_132 => ?_)
          · exact h148
          · refine X_iload_n (pc := 135) (td kX8_advance 66 rfl) rfl 1 rfl ?_
            refine X_bipush (v := (57 : Int32)) (pc := 136) (td kX8_advance 67 rfl) (by decide) ?_
            refine X_icmp_gt (pc := 138) (tgt := 148) (td kX8_advance 68 rfl) (by decide) (fun c_138 => ?_) (fun c_138 => ?_)
            · exact h148
            · refine X_aload_n (pc := 141) (td kX8_advance 69 rfl) rfl 0 rfl ?_
              refine X_callv (pc := 142) (As := []) (st := []) sC_4 (x_X8_takeNumber σ74) mkX8_takeNumber lk_X8_55 (by omega) rfl rfl (Nat.le_of_ble_eq_true rfl) (td kX8_advance 70 rfl) (fun _ σ142 _ => ?_)
              refine X_goto (pc := 145) (tgt := 182) (td kX8_advance 71 rfl) (by decide) ?_
              exact X_retv (pc := 182) (td kX8_advance 91 rfl)
      · refine X_icmp_lt (pc := 113) (tgt := 129) (td kX8_advance 56 rfl) (by decide) (fun c_113 => ?_) (fun c_113 => ?_)
        · refine X_sub [1, 0] rfl ?_
          exact h129
        · refine X_iload_n (pc := 116) (td kX8_advance 57 rfl) rfl 0 rfl ?_
          refine X_bipush (v := (122 : Int32)) (pc := 117) (td kX8_advance 58 rfl) (by decide) ?_
          refine X_icmp_gt (pc := 119) (tgt := 129) (td kX8_advance 59 rfl) (by decide) (fun c_119 => ?_) (fun c_119 => ?_)
          · refine X_sub [1, 0] rfl ?_
            exact h129
          · refine X_aload_n (pc := 122) (td kX8_advance 60 rfl) rfl 1 rfl ?_
            refine X_callv (pc := 123) (As := []) (st := []) sC_4 (x_X8_takeWord σ74) mkX8_takeWord lk_X8_52 (by omega) rfl rfl (Nat.le_of_ble_eq_true rfl) (td kX8_advance 61 rfl) (fun _ σ123 _ => ?_)
            refine X_goto (pc := 126) (tgt := 182) (td kX8_advance 62 rfl) (by decide) ?_
            exact X_retv (pc := 182) (td kX8_advance 91 rfl)
    · refine X_aload_n (pc := 91) (td kX8_advance 43 rfl) rfl 0 rfl ?_
      refine X_iconst (v := (1 : Int32)) (pc := 92) (td kX8_advance 44 rfl) (by decide) ?_
      refine X_putI (pc := 93) sC_4 rfl fk_X8_49 rfl rfl (td kX8_advance 45 rfl) (fun σ93 => ?_)
      exact X_retv (pc := 96) (td kX8_advance 46 rfl)
  · refine lq1_ind (P := fun σ_8 E => X (wsOf SHC) RX8 cX8_advance 2 none 5 0 8 [(0, .ref 4)] [] σ_8 E) (fun _ => X_none) (fun rec8 hrec8 σ_8 => ?_) _ _
    unfold F_X8_advance_8
    refine X_aload_n (pc := 8) (td kX8_advance 4 rfl) rfl 0 rfl ?_
    refine X_getI (pc := 9) sC_4 rfl fk_X8_38 (td kX8_advance 5 rfl) ?_
    refine X_aload_n (pc := 12) (td kX8_advance 6 rfl) rfl 0 rfl ?_
    refine X_getF (b := 1) (pc := 13) sC_4 rfl fk_X8_15 (td kX8_advance 7 rfl) ?_
    refine X_getI (pc := 16) sC_1 rfl fk_X8_41 (td kX8_advance 8 rfl) ?_
    refine X_icmp_ge (pc := 19) (tgt := 69) (td kX8_advance 9 rfl) (by decide) (fun c_19 => ?_) (fun c_19 => ?_)
    · exact h69 σ_8
    · refine X_aload_n (pc := 22) (td kX8_advance 10 rfl) rfl 0 rfl ?_
      refine X_getF (b := 1) (pc := 23) sC_4 rfl fk_X8_15 (td kX8_advance 11 rfl) ?_
      refine X_getF (b := 2) (pc := 26) sC_1 rfl fk_X8_45 (td kX8_advance 12 rfl) ?_
      refine X_aload_n (pc := 29) (td kX8_advance 13 rfl) rfl 0 rfl ?_
      refine X_getI (pc := 30) sC_4 rfl fk_X8_38 (td kX8_advance 14 rfl) ?_
      refine X_bi (fun i_33 => ?_)
      refine X_bald (pc := 33) sC_2 (td kX8_advance 15 rfl) ?_
      refine X_bipush (v := (10 : Int32)) (pc := 34) (td kX8_advance 16 rfl) (by decide) ?_
      refine X_jn (P := fun k => X (wsOf SHC) RX8 cX8_advance 2 none 5 0 56 [(0, .ref 4)] [] σ_8 k) ?_ (fun k56 h56 => ?_)
      · refine X_aload_n (pc := 56) (td kX8_advance 26 rfl) rfl 0 rfl ?_
        refine X_dup (pc := 57) (td kX8_advance 27 rfl) rfl ?_
        refine X_getI (pc := 58) sC_4 rfl fk_X8_38 (td kX8_advance 28 rfl) ?_
        refine X_iconst (v := (1 : Int32)) (pc := 61) (td kX8_advance 29 rfl) (by decide) ?_
        refine X_iadd (pc := 62) (td kX8_advance 30 rfl) ?_
        refine X_putI (pc := 63) sC_4 rfl fk_X8_38 rfl rfl (td kX8_advance 31 rfl) (fun σ63 => ?_)
        refine X_goto (pc := 66) (tgt := 8) (td kX8_advance 32 rfl) (by decide) ?_
        exact hrec8 σ63
      · refine X_icmp_eq (pc := 36) (tgt := 56) (td kX8_advance 17 rfl) (by decide) (fun c_36 => ?_) (fun c_36 => ?_)
        · exact h56
        · refine X_aload_n (pc := 39) (td kX8_advance 18 rfl) rfl 0 rfl ?_
          refine X_getF (b := 1) (pc := 40) sC_4 rfl fk_X8_15 (td kX8_advance 19 rfl) ?_
          refine X_getF (b := 2) (pc := 43) sC_1 rfl fk_X8_45 (td kX8_advance 20 rfl) ?_
          refine X_aload_n (pc := 46) (td kX8_advance 21 rfl) rfl 0 rfl ?_
          refine X_getI (pc := 47) sC_4 rfl fk_X8_38 (td kX8_advance 22 rfl) ?_
          refine X_bi (fun i_50 => ?_)
          refine X_bald (pc := 50) sC_2 (td kX8_advance 23 rfl) ?_
          refine X_bipush (v := (32 : Int32)) (pc := 51) (td kX8_advance 24 rfl) (by decide) ?_
          refine X_icmp_ne (pc := 53) (tgt := 69) (td kX8_advance 25 rfl) (by decide) (fun c_53 => ?_) (fun c_53 => ?_)
          · exact h69 σ_8
          · exact h56
def f_X8_isSign (p1 : Int32) (σ : Mm) : Option (Int32 × Mm) := jn (some ((0 : Int32), σ)) (fun k20 => (if (gI σ 4 2) = (4 : Int32) then (if (gI σ 4 6) = p1 then some ((1 : Int32), σ) else k20) else k20))
set_option maxHeartbeats 4000000 in
set_option maxRecDepth 100000 in
theorem x_X8_isSign (p1 : Int32) (σ : Mm) : Con (wsOf SHC) yX8_isSign cX8_isSign 2 (some .boolean) 1 [.ref 4, .int p1] σ (f_X8_isSign p1 σ) := by
  refine Con.of_X (by decide +kernel) (Nat.le_of_ble_eq_true rfl) ?_
  unfold f_X8_isSign
  show X (wsOf SHC) RX8 cX8_isSign 2 (some .boolean) 1 0 0 [(0, .ref 4), (1, .int p1)] [] σ _
  refine X_aload_n (pc := 0) (td kX8_isSign 0 rfl) rfl 0 rfl ?_
  refine X_getI (pc := 1) sC_4 rfl fk_X8_49 (td kX8_isSign 1 rfl) ?_
  refine X_iconst (v := (4 : Int32)) (pc := 4) (td kX8_isSign 2 rfl) (by decide) ?_
  refine X_jn (P := fun k => X (wsOf SHC) RX8 cX8_isSign 2 (some .boolean) 1 0 20 [] [] σ k) ?_ (fun k20 h20 => ?_)
  · refine X_iconst (v := (0 : Int32)) (pc := 20) (td kX8_isSign 10 rfl) (by decide) ?_
    exact X_ret (pc := 21) (td kX8_isSign 11 rfl) rfl
  · refine X_icmp_ne (pc := 5) (tgt := 20) (td kX8_isSign 3 rfl) (by decide) (fun c_5 => ?_) (fun c_5 => ?_)
    · refine X_sub [] rfl ?_
      exact h20
    · refine X_aload_n (pc := 8) (td kX8_isSign 4 rfl) rfl 0 rfl ?_
      refine X_getI (pc := 9) sC_4 rfl fk_X8_64 (td kX8_isSign 5 rfl) ?_
      refine X_iload_n (pc := 12) (td kX8_isSign 6 rfl) rfl 1 rfl ?_
      refine X_icmp_ne (pc := 13) (tgt := 20) (td kX8_isSign 7 rfl) (by decide) (fun c_13 => ?_) (fun c_13 => ?_)
      · refine X_sub [] rfl ?_
        exact h20
      · refine X_iconst (v := (1 : Int32)) (pc := 16) (td kX8_isSign 8 rfl) (by decide) ?_
        refine X_goto (pc := 17) (tgt := 21) (td kX8_isSign 9 rfl) (by decide) ?_
        exact X_ret (pc := 21) (td kX8_isSign 11 rfl) rfl
set_option maxHeartbeats 4000000 in
theorem p_X8_isSign (p1 : Int32) (σ : Mm) : Pu σ (f_X8_isSign p1 σ) := by
  unfold f_X8_isSign
  refine Pu_jn (fun k => Pu σ (k)) ?_ (fun k20 h20 => ?_)
  · exact Pu_some
  · refine Pu_if ?_ ?_
    · refine Pu_if ?_ ?_
      · exact Pu_some
      · exact h20
    · exact h20
def f_X8_restart (σ : Mm) : Option (Int32 × Mm) := bn (pI σ 4 4 (0 : Int32)) (fun σ2 => cl (f_X8_advance σ2) (fun _ σ6 => some (0, σ6)))
set_option maxHeartbeats 4000000 in
set_option maxRecDepth 100000 in
theorem x_X8_restart (σ : Mm) : Con (wsOf SHC) yX8_restart cX8_restart 1 none 6 [.ref 4] σ (f_X8_restart σ) := by
  refine Con.of_X (by decide +kernel) (Nat.le_of_ble_eq_true rfl) ?_
  unfold f_X8_restart
  show X (wsOf SHC) RX8 cX8_restart 1 none 6 0 0 [(0, .ref 4)] [] σ _
  refine X_aload_n (pc := 0) (td kX8_restart 0 rfl) rfl 0 rfl ?_
  refine X_iconst (v := (0 : Int32)) (pc := 1) (td kX8_restart 1 rfl) (by decide) ?_
  refine X_putI (pc := 2) sC_4 rfl fk_X8_31 rfl rfl (td kX8_restart 2 rfl) (fun σ2 => ?_)
  refine X_aload_n (pc := 5) (td kX8_restart 3 rfl) rfl 0 rfl ?_
  refine X_callv (pc := 6) (As := []) (st := []) sC_4 (x_X8_advance σ2) mkX8_advance lk_X8_35 (by omega) rfl rfl (Nat.le_of_ble_eq_true rfl) (td kX8_restart 4 rfl) (fun _ σ6 _ => ?_)
  exact X_retv (pc := 9) (td kX8_restart 5 rfl)
def f_X8_isWord (p1 : Int32) (σ : Mm) : Option (Int32 × Mm) := jn (some ((0 : Int32), σ)) (fun k20 => (if (gI σ 4 2) = (2 : Int32) then (if (gI σ 4 6) = p1 then some ((1 : Int32), σ) else k20) else k20))
set_option maxHeartbeats 4000000 in
set_option maxRecDepth 100000 in
theorem x_X8_isWord (p1 : Int32) (σ : Mm) : Con (wsOf SHC) yX8_isWord cX8_isWord 2 (some .boolean) 1 [.ref 4, .int p1] σ (f_X8_isWord p1 σ) := by
  refine Con.of_X (by decide +kernel) (Nat.le_of_ble_eq_true rfl) ?_
  unfold f_X8_isWord
  show X (wsOf SHC) RX8 cX8_isWord 2 (some .boolean) 1 0 0 [(0, .ref 4), (1, .int p1)] [] σ _
  refine X_aload_n (pc := 0) (td kX8_isWord 0 rfl) rfl 0 rfl ?_
  refine X_getI (pc := 1) sC_4 rfl fk_X8_49 (td kX8_isWord 1 rfl) ?_
  refine X_iconst (v := (2 : Int32)) (pc := 4) (td kX8_isWord 2 rfl) (by decide) ?_
  refine X_jn (P := fun k => X (wsOf SHC) RX8 cX8_isWord 2 (some .boolean) 1 0 20 [] [] σ k) ?_ (fun k20 h20 => ?_)
  · refine X_iconst (v := (0 : Int32)) (pc := 20) (td kX8_isWord 10 rfl) (by decide) ?_
    exact X_ret (pc := 21) (td kX8_isWord 11 rfl) rfl
  · refine X_icmp_ne (pc := 5) (tgt := 20) (td kX8_isWord 3 rfl) (by decide) (fun c_5 => ?_) (fun c_5 => ?_)
    · refine X_sub [] rfl ?_
      exact h20
    · refine X_aload_n (pc := 8) (td kX8_isWord 4 rfl) rfl 0 rfl ?_
      refine X_getI (pc := 9) sC_4 rfl fk_X8_64 (td kX8_isWord 5 rfl) ?_
      refine X_iload_n (pc := 12) (td kX8_isWord 6 rfl) rfl 1 rfl ?_
      refine X_icmp_ne (pc := 13) (tgt := 20) (td kX8_isWord 7 rfl) (by decide) (fun c_13 => ?_) (fun c_13 => ?_)
      · refine X_sub [] rfl ?_
        exact h20
      · refine X_iconst (v := (1 : Int32)) (pc := 16) (td kX8_isWord 8 rfl) (by decide) ?_
        refine X_goto (pc := 17) (tgt := 21) (td kX8_isWord 9 rfl) (by decide) ?_
        exact X_ret (pc := 21) (td kX8_isWord 11 rfl) rfl
set_option maxHeartbeats 4000000 in
theorem p_X8_isWord (p1 : Int32) (σ : Mm) : Pu σ (f_X8_isWord p1 σ) := by
  unfold f_X8_isWord
  refine Pu_jn (fun k => Pu σ (k)) ?_ (fun k20 h20 => ?_)
  · exact Pu_some
  · refine Pu_if ?_ ?_
    · refine Pu_if ?_ ?_
      · exact Pu_some
      · exact h20
    · exact h20
