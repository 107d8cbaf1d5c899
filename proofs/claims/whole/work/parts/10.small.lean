def f_J6_bitCount_0f7a4 (p1 : Int32) (σ : Mm) : Option (Int32 × Mm) := bn (p1 - ((ushr p1 (1 : Int32)) &&& (1431655765 : Int32))) (fun v0_9 => bn ((v0_9 &&& (858993459 : Int32)) + ((ushr v0_9 (2 : Int32)) &&& (858993459 : Int32))) (fun v0_23 => bn ((v0_23 + (ushr v0_23 (4 : Int32))) &&& (252645135 : Int32)) (fun v0_33 => bn (v0_33 + (ushr v0_33 (8 : Int32))) (fun v0_40 => bn (v0_40 + (ushr v0_40 (16 : Int32))) (fun v0_47 => some ((v0_47 &&& (63 : Int32)), σ))))))
set_option maxHeartbeats 4000000 in
set_option maxRecDepth 100000 in
theorem x_J6_bitCount_0f7a4 (p1 : Int32) (σ : Mm) : Con (wsOf SHC) yJ6_bitCount_0f7a4 cJ6_bitCount_0f7a4 1 (some .int) 1 [.int p1] σ (f_J6_bitCount_0f7a4 p1 σ) := by
  refine Con.of_X (by decide +kernel) (Nat.le_of_ble_eq_true rfl) ?_
  unfold f_J6_bitCount_0f7a4
  show X (wsOf SHC) RJ6 cJ6_bitCount_0f7a4 1 (some .int) 1 0 0 [(0, .int p1)] [] σ _
  refine X_iload_n (pc := 0) (td kJ6_bitCount_0f7a4 0 rfl) rfl 0 rfl ?_
  refine X_iload_n (pc := 1) (td kJ6_bitCount_0f7a4 1 rfl) rfl 0 rfl ?_
  refine X_iconst (v := (1 : Int32)) (pc := 2) (td kJ6_bitCount_0f7a4 2 rfl) (by decide) ?_
  refine X_iushr (pc := 3) (td kJ6_bitCount_0f7a4 3 rfl) ?_
  refine X_ldcw (v := (1431655765 : Int32)) (pc := 4) (td kJ6_bitCount_0f7a4 4 rfl) cn_J6_265 ?_
  refine X_iand (pc := 7) (td kJ6_bitCount_0f7a4 5 rfl) ?_
  refine X_isub (pc := 8) (td kJ6_bitCount_0f7a4 6 rfl) ?_
  refine X_bi (fun v0_9 => ?_)
  refine X_istore_n (L' := [(0, .int v0_9)]) (pc := 9) (td kJ6_bitCount_0f7a4 7 rfl) rfl (by decide) rfl ?_
  refine X_iload_n (pc := 10) (td kJ6_bitCount_0f7a4 8 rfl) rfl 0 rfl ?_
  refine X_ldcw (v := (858993459 : Int32)) (pc := 11) (td kJ6_bitCount_0f7a4 9 rfl) cn_J6_266 ?_
  refine X_iand (pc := 14) (td kJ6_bitCount_0f7a4 10 rfl) ?_
  refine X_iload_n (pc := 15) (td kJ6_bitCount_0f7a4 11 rfl) rfl 0 rfl ?_
  refine X_iconst (v := (2 : Int32)) (pc := 16) (td kJ6_bitCount_0f7a4 12 rfl) (by decide) ?_
  refine X_iushr (pc := 17) (td kJ6_bitCount_0f7a4 13 rfl) ?_
  refine X_ldcw (v := (858993459 : Int32)) (pc := 18) (td kJ6_bitCount_0f7a4 14 rfl) cn_J6_266 ?_
  refine X_iand (pc := 21) (td kJ6_bitCount_0f7a4 15 rfl) ?_
  refine X_iadd (pc := 22) (td kJ6_bitCount_0f7a4 16 rfl) ?_
  refine X_bi (fun v0_23 => ?_)
  refine X_istore_n (L' := [(0, .int v0_23)]) (pc := 23) (td kJ6_bitCount_0f7a4 17 rfl) rfl (by decide) rfl ?_
  refine X_iload_n (pc := 24) (td kJ6_bitCount_0f7a4 18 rfl) rfl 0 rfl ?_
  refine X_iload_n (pc := 25) (td kJ6_bitCount_0f7a4 19 rfl) rfl 0 rfl ?_
  refine X_iconst (v := (4 : Int32)) (pc := 26) (td kJ6_bitCount_0f7a4 20 rfl) (by decide) ?_
  refine X_iushr (pc := 27) (td kJ6_bitCount_0f7a4 21 rfl) ?_
  refine X_iadd (pc := 28) (td kJ6_bitCount_0f7a4 22 rfl) ?_
  refine X_ldcw (v := (252645135 : Int32)) (pc := 29) (td kJ6_bitCount_0f7a4 23 rfl) cn_J6_267 ?_
  refine X_iand (pc := 32) (td kJ6_bitCount_0f7a4 24 rfl) ?_
  refine X_bi (fun v0_33 => ?_)
  refine X_istore_n (L' := [(0, .int v0_33)]) (pc := 33) (td kJ6_bitCount_0f7a4 25 rfl) rfl (by decide) rfl ?_
  refine X_iload_n (pc := 34) (td kJ6_bitCount_0f7a4 26 rfl) rfl 0 rfl ?_
  refine X_iload_n (pc := 35) (td kJ6_bitCount_0f7a4 27 rfl) rfl 0 rfl ?_
  refine X_bipush (v := (8 : Int32)) (pc := 36) (td kJ6_bitCount_0f7a4 28 rfl) (by decide) ?_
  refine X_iushr (pc := 38) (td kJ6_bitCount_0f7a4 29 rfl) ?_
  refine X_iadd (pc := 39) (td kJ6_bitCount_0f7a4 30 rfl) ?_
  refine X_bi (fun v0_40 => ?_)
  refine X_istore_n (L' := [(0, .int v0_40)]) (pc := 40) (td kJ6_bitCount_0f7a4 31 rfl) rfl (by decide) rfl ?_
  refine X_iload_n (pc := 41) (td kJ6_bitCount_0f7a4 32 rfl) rfl 0 rfl ?_
  refine X_iload_n (pc := 42) (td kJ6_bitCount_0f7a4 33 rfl) rfl 0 rfl ?_
  refine X_bipush (v := (16 : Int32)) (pc := 43) (td kJ6_bitCount_0f7a4 34 rfl) (by decide) ?_
  refine X_iushr (pc := 45) (td kJ6_bitCount_0f7a4 35 rfl) ?_
  refine X_iadd (pc := 46) (td kJ6_bitCount_0f7a4 36 rfl) ?_
  refine X_bi (fun v0_47 => ?_)
  refine X_istore_n (L' := [(0, .int v0_47)]) (pc := 47) (td kJ6_bitCount_0f7a4 37 rfl) rfl (by decide) rfl ?_
  refine X_iload_n (pc := 48) (td kJ6_bitCount_0f7a4 38 rfl) rfl 0 rfl ?_
  refine X_bipush (v := (63 : Int32)) (pc := 49) (td kJ6_bitCount_0f7a4 39 rfl) (by decide) ?_
  refine X_iand (pc := 51) (td kJ6_bitCount_0f7a4 40 rfl) ?_
  exact X_ret (pc := 52) (td kJ6_bitCount_0f7a4 41 rfl) rfl
set_option maxHeartbeats 4000000 in
theorem p_J6_bitCount_0f7a4 (p1 : Int32) (σ : Mm) : Pu σ (f_J6_bitCount_0f7a4 p1 σ) := by
  unfold f_J6_bitCount_0f7a4
  refine Pu_bn (fun _ => ?_)
  refine Pu_bn (fun _ => ?_)
  refine Pu_bn (fun _ => ?_)
  refine Pu_bn (fun _ => ?_)
  refine Pu_bn (fun _ => ?_)
  exact Pu_some
def f_X1_joined (p1 : Int32) (p2 : Int32) (p3 : Int32) (σ : Mm) : Option (Int32 × Mm) := (if p1 = (1 : Int32) then jn (some ((0 : Int32), σ)) (fun k52 => (if p2 = 0 then k52 else (if p3 = 0 then k52 else some ((1 : Int32), σ)))) else (if p1 = (2 : Int32) then jn (some ((1 : Int32), σ)) (fun k62 => (if p2 = 0 then (if p3 = 0 then some ((0 : Int32), σ) else k62) else k62)) else (if p1 = (3 : Int32) then (if p2 < p3 then some ((1 : Int32), σ) else some ((0 : Int32), σ)) else (if p1 = (4 : Int32) then (if p2 = p3 then some ((1 : Int32), σ) else some ((0 : Int32), σ)) else (if p1 = (5 : Int32) then some ((p2 + p3), σ) else (if p1 = (6 : Int32) then some ((p2 - p3), σ) else some ((p2 * p3), σ)))))))
set_option maxHeartbeats 4000000 in
set_option maxRecDepth 100000 in
theorem x_X1_joined (p1 : Int32) (p2 : Int32) (p3 : Int32) (σ : Mm) : Con (wsOf SHC) yX1_joined cX1_joined 3 (some .int) 1 [.int p1, .int p2, .int p3] σ (f_X1_joined p1 p2 p3 σ) := by
  refine Con.of_X (by decide +kernel) (Nat.le_of_ble_eq_true rfl) ?_
  unfold f_X1_joined
  show X (wsOf SHC) RX1 cX1_joined 3 (some .int) 1 0 0 [(0, .int p1), (1, .int p2), (2, .int p3)] [] σ _
  refine X_iload_n (pc := 0) (td kX1_joined 0 rfl) rfl 0 rfl ?_
  refine X_sp (fun c_1_0 => ?_) (fun c_1_0 => ?_)
  · refine X_swI (pc := 1) (tgt := 40) (td kX1_joined 1 rfl) c_1_0 (by decide) (by decide) rfl (by decide) ?_
    refine X_iload_n (pc := 40) (td kX1_joined 2 rfl) rfl 1 rfl ?_
    refine X_jn (P := fun k => X (wsOf SHC) RX1 cX1_joined 3 (some .int) 1 0 52 [] [] σ k) ?_ (fun k52 h52 => ?_)
    · refine X_iconst (v := (0 : Int32)) (pc := 52) (td kX1_joined 8 rfl) (by decide) ?_
      exact X_ret (pc := 53) (td kX1_joined 9 rfl) rfl
    · refine X_if_eq (pc := 41) (tgt := 52) (td kX1_joined 3 rfl) (by decide) (fun c_41 => ?_) (fun c_41 => ?_)
      · refine X_sub [] rfl ?_
        exact h52
      · refine X_iload_n (pc := 44) (td kX1_joined 4 rfl) rfl 2 rfl ?_
        refine X_if_eq (pc := 45) (tgt := 52) (td kX1_joined 5 rfl) (by decide) (fun c_45 => ?_) (fun c_45 => ?_)
        · refine X_sub [] rfl ?_
          exact h52
        · refine X_iconst (v := (1 : Int32)) (pc := 48) (td kX1_joined 6 rfl) (by decide) ?_
          refine X_goto (pc := 49) (tgt := 53) (td kX1_joined 7 rfl) (by decide) ?_
          exact X_ret (pc := 53) (td kX1_joined 9 rfl) rfl
  · refine X_sp (fun c_1_1 => ?_) (fun c_1_1 => ?_)
    · refine X_swI (pc := 1) (tgt := 54) (td kX1_joined 1 rfl) c_1_1 (by decide) (by decide) rfl (by decide) ?_
      refine X_iload_n (pc := 54) (td kX1_joined 10 rfl) rfl 1 rfl ?_
      refine X_jn (P := fun k => X (wsOf SHC) RX1 cX1_joined 3 (some .int) 1 0 62 [] [] σ k) ?_ (fun k62 h62 => ?_)
      · refine X_iconst (v := (1 : Int32)) (pc := 62) (td kX1_joined 14 rfl) (by decide) ?_
        refine X_goto (pc := 63) (tgt := 67) (td kX1_joined 15 rfl) (by decide) ?_
        exact X_ret (pc := 67) (td kX1_joined 17 rfl) rfl
      · refine X_if_ne (pc := 55) (tgt := 62) (td kX1_joined 11 rfl) (by decide) (fun c_55 => ?_) (fun c_55 => ?_)
        · refine X_sub [] rfl ?_
          exact h62
        · refine X_iload_n (pc := 58) (td kX1_joined 12 rfl) rfl 2 rfl ?_
          refine X_if_eq (pc := 59) (tgt := 66) (td kX1_joined 13 rfl) (by decide) (fun c_59 => ?_) (fun c_59 => ?_)
          · refine X_iconst (v := (0 : Int32)) (pc := 66) (td kX1_joined 16 rfl) (by decide) ?_
            exact X_ret (pc := 67) (td kX1_joined 17 rfl) rfl
          · refine X_sub [] rfl ?_
            exact h62
    · refine X_sp (fun c_1_2 => ?_) (fun c_1_2 => ?_)
      · refine X_swI (pc := 1) (tgt := 68) (td kX1_joined 1 rfl) c_1_2 (by decide) (by decide) rfl (by decide) ?_
        refine X_iload_n (pc := 68) (td kX1_joined 18 rfl) rfl 1 rfl ?_
        refine X_iload_n (pc := 69) (td kX1_joined 19 rfl) rfl 2 rfl ?_
        refine X_icmp_ge (pc := 70) (tgt := 77) (td kX1_joined 20 rfl) (by decide) (fun c_70 => ?_) (fun c_70 => ?_)
        · refine X_iconst (v := (0 : Int32)) (pc := 77) (td kX1_joined 23 rfl) (by decide) ?_
          exact X_ret (pc := 78) (td kX1_joined 24 rfl) rfl
        · refine X_iconst (v := (1 : Int32)) (pc := 73) (td kX1_joined 21 rfl) (by decide) ?_
          refine X_goto (pc := 74) (tgt := 78) (td kX1_joined 22 rfl) (by decide) ?_
          exact X_ret (pc := 78) (td kX1_joined 24 rfl) rfl
      · refine X_sp (fun c_1_3 => ?_) (fun c_1_3 => ?_)
        · refine X_swI (pc := 1) (tgt := 79) (td kX1_joined 1 rfl) c_1_3 (by decide) (by decide) rfl (by decide) ?_
          refine X_iload_n (pc := 79) (td kX1_joined 25 rfl) rfl 1 rfl ?_
          refine X_iload_n (pc := 80) (td kX1_joined 26 rfl) rfl 2 rfl ?_
          refine X_icmp_ne (pc := 81) (tgt := 88) (td kX1_joined 27 rfl) (by decide) (fun c_81 => ?_) (fun c_81 => ?_)
          · refine X_iconst (v := (0 : Int32)) (pc := 88) (td kX1_joined 30 rfl) (by decide) ?_
            exact X_ret (pc := 89) (td kX1_joined 31 rfl) rfl
          · refine X_iconst (v := (1 : Int32)) (pc := 84) (td kX1_joined 28 rfl) (by decide) ?_
            refine X_goto (pc := 85) (tgt := 89) (td kX1_joined 29 rfl) (by decide) ?_
            exact X_ret (pc := 89) (td kX1_joined 31 rfl) rfl
        · refine X_sp (fun c_1_4 => ?_) (fun c_1_4 => ?_)
          · refine X_swI (pc := 1) (tgt := 90) (td kX1_joined 1 rfl) c_1_4 (by decide) (by decide) rfl (by decide) ?_
            refine X_iload_n (pc := 90) (td kX1_joined 32 rfl) rfl 1 rfl ?_
            refine X_iload_n (pc := 91) (td kX1_joined 33 rfl) rfl 2 rfl ?_
            refine X_iadd (pc := 92) (td kX1_joined 34 rfl) ?_
            exact X_ret (pc := 93) (td kX1_joined 35 rfl) rfl
          · refine X_sp (fun c_1_5 => ?_) (fun c_1_5 => ?_)
            · refine X_swI (pc := 1) (tgt := 94) (td kX1_joined 1 rfl) c_1_5 (by decide) (by decide) rfl (by decide) ?_
              refine X_iload_n (pc := 94) (td kX1_joined 36 rfl) rfl 1 rfl ?_
              refine X_iload_n (pc := 95) (td kX1_joined 37 rfl) rfl 2 rfl ?_
              refine X_isub (pc := 96) (td kX1_joined 38 rfl) ?_
              exact X_ret (pc := 97) (td kX1_joined 39 rfl) rfl
            · refine X_swO (pc := 1) (tgt := 98) (td kX1_joined 1 rfl) (by have z0 := tsw_ne (1) (by decide) c_1_0; have z1 := tsw_ne (2) (by decide) c_1_1; have z2 := tsw_ne (3) (by decide) c_1_2; have z3 := tsw_ne (4) (by decide) c_1_3; have z4 := tsw_ne (5) (by decide) c_1_4; have z5 := tsw_ne (6) (by decide) c_1_5; omega) (by decide) ?_
              refine X_iload_n (pc := 98) (td kX1_joined 40 rfl) rfl 1 rfl ?_
              refine X_iload_n (pc := 99) (td kX1_joined 41 rfl) rfl 2 rfl ?_
              refine X_imul (pc := 100) (td kX1_joined 42 rfl) ?_
              exact X_ret (pc := 101) (td kX1_joined 43 rfl) rfl
set_option maxHeartbeats 4000000 in
theorem p_X1_joined (p1 : Int32) (p2 : Int32) (p3 : Int32) (σ : Mm) : Pu σ (f_X1_joined p1 p2 p3 σ) := by
  unfold f_X1_joined
  refine Pu_if ?_ ?_
  · refine Pu_jn (fun k => Pu σ (k)) ?_ (fun k52 h52 => ?_)
    · exact Pu_some
    · refine Pu_if ?_ ?_
      · exact h52
      · refine Pu_if ?_ ?_
        · exact h52
        · exact Pu_some
  · refine Pu_if ?_ ?_
    · refine Pu_jn (fun k => Pu σ (k)) ?_ (fun k62 h62 => ?_)
      · exact Pu_some
      · refine Pu_if ?_ ?_
        · refine Pu_if ?_ ?_
          · exact Pu_some
          · exact h62
        · exact h62
    · refine Pu_if ?_ ?_
      · refine Pu_if ?_ ?_
        · exact Pu_some
        · exact Pu_some
      · refine Pu_if ?_ ?_
        · refine Pu_if ?_ ?_
          · exact Pu_some
          · exact Pu_some
        · refine Pu_if ?_ ?_
          · exact Pu_some
          · refine Pu_if ?_ ?_
            · exact Pu_some
            · exact Pu_some
def J_X1_tells_155 (a0 : Nat) (x5_20 : Int32) (σ_20 : Mm) (v7_36 : Int32) (k201 : Int32 → Mm → Option (Int32 × Mm)) : Option (Int32 × Mm) := (if v7_36 < (8 : Int32) then (if x5_20 < (2 : Int32) then k201 x5_20 σ_20 else bn ((x5_20 + (-1 : Int32)) - (1 : Int32)) (fun i_189 => ck (inb i_189 32) (bn (x5_20 + (-1 : Int32)) (fun i_196 => ck (inb i_196 32) (cl (f_X1_joined v7_36 (gI σ_20 (a0 + 2) i_189.toNatClampNeg) (gI σ_20 (a0 + 2) i_196.toNatClampNeg) σ_20) (fun r197 _ => ck (inb ((x5_20 + (-1 : Int32)) - (1 : Int32)) 32) (bn (pI σ_20 (a0 + 2) ((x5_20 + (-1 : Int32)) - (1 : Int32)).toNatClampNeg r197) (fun σ200 => k201 (x5_20 + (-1 : Int32)) σ200)))))))) else k201 x5_20 σ_20)
def J_X1_tells_115 (a0 : Nat) (x5_20 : Int32) (σ_20 : Mm) (v7_36 : Int32) (k201 : Int32 → Mm → Option (Int32 × Mm)) : Option (Int32 × Mm) := jn (J_X1_tells_155 a0 x5_20 σ_20 v7_36 k201) (fun k155 => (if v7_36 = 0 then (if x5_20 < (1 : Int32) then k155 else bn (x5_20 - (1 : Int32)) (fun i_142 => ck (inb i_142 32) (jn (fun (y2_151 : Int32) => ck (inb (x5_20 - (1 : Int32)) 32) (bn (pI σ_20 (a0 + 2) (x5_20 - (1 : Int32)).toNatClampNeg y2_151) (fun σ151 => k201 x5_20 σ151))) (fun k151 => (if (gI σ_20 (a0 + 2) i_142.toNatClampNeg) = 0 then k151 (1 : Int32) else k151 (0 : Int32)))))) else k155))
def F_X1_tells_20 (a0 : Nat) (p1 : Int32) (p2 : Int32) (p3 : Int32) (p4 : Int32) (k207 : Mm → Option (Int32 × Mm)) (rec20 : Int32 → Int32 → Mm → Option (Int32 × Mm)) (x5_20 : Int32) (x6_20 : Int32) (σ_20 : Mm) : Option (Int32 × Mm) := (if x6_20 < (gI σ_20 a0 2) then ck (inb x6_20 1000) (bn (gI σ_20 (a0 + 1) x6_20.toNatClampNeg) (fun v7_36 => jn (fun (x5_201 : Int32) (σ_201 : Mm) => rec20 x5_201 (x6_20 + (1 : Int32)) σ_201) (fun k201 => jn (J_X1_tells_115 a0 x5_20 σ_20 v7_36 k201) (fun k115 => (if v7_36 < (8 : Int32) then k115 else (if x5_20 < (32 : Int32) then jn (fun (y2_108 : Int32) => ck (inb x5_20 32) (bn (pI σ_20 (a0 + 2) x5_20.toNatClampNeg y2_108) (fun σ108 => k201 (x5_20 + (1 : Int32)) σ108))) (fun k108 => (if v7_36 = (8 : Int32) then k108 p1 else (if v7_36 = (9 : Int32) then k108 p2 else (if v7_36 = (10 : Int32) then k108 p3 else (if v7_36 = (11 : Int32) then k108 p4 else k108 (v7_36 - (12 : Int32))))))) else k115)))))) else k207 σ_20)
def f_X1_tells (a0 : Nat) (p1 : Int32) (p2 : Int32) (p3 : Int32) (p4 : Int32) (σ : Mm) : Option (Int32 × Mm) := ck (isLaw a0) ((if (gI σ a0 2) = 0 then some ((imn p1 (30 : Int32)), σ) else jn (fun (σ_207 : Mm) => ck (inb (0 : Int32) 32) (some ((imx (0 : Int32) (imn (gI σ_207 (a0 + 2) (0 : Int32).toNatClampNeg) (30 : Int32))), σ_207))) (fun k207 => lq3 (F_X1_tells_20 a0 p1 p2 p3 p4 k207) 1000000 (0 : Int32) (0 : Int32) σ)))
set_option maxHeartbeats 4000000 in
set_option maxRecDepth 100000 in
theorem x_X1_tells (a0 : Nat) (p1 : Int32) (p2 : Int32) (p3 : Int32) (p4 : Int32) (σ : Mm) : Con (wsOf SHC) yX1_tells cX1_tells 8 (some .int) 2 [.ref a0, .int p1, .int p2, .int p3, .int p4] σ (f_X1_tells a0 p1 p2 p3 p4 σ) := by
  refine Con.of_X (by decide +kernel) (Nat.le_of_ble_eq_true rfl) ?_
  unfold f_X1_tells
  show X (wsOf SHC) RX1 cX1_tells 8 (some .int) 2 0 0 [(0, .ref a0), (1, .int p1), (2, .int p2), (3, .int p3), (4, .int p4)] [] σ _
  refine X_ck (fun a0_h => ?_)
  obtain ⟨a0_s0, a0_s1, a0_s2⟩ := knLaw a0_h
  refine X_aload_n (pc := 0) (td kX1_tells 0 rfl) rfl 0 rfl ?_
  refine X_getI (pc := 1) a0_s0 rfl fk_X1_19 (td kX1_tells 1 rfl) ?_
  refine X_if_ne (pc := 4) (tgt := 14) (td kX1_tells 2 rfl) (by decide) (fun c_4 => ?_) (fun c_4 => ?_)
  · refine X_iconst (v := (0 : Int32)) (pc := 14) (td kX1_tells 7 rfl) (by decide) ?_
    refine X_istore (L' := [(5, .int (0 : Int32)), (0, .ref a0), (1, .int p1), (2, .int p2), (3, .int p3), (4, .int p4)]) (pc := 15) (td kX1_tells 8 rfl) (by decide) rfl ?_
    refine X_iconst (v := (0 : Int32)) (pc := 17) (td kX1_tells 9 rfl) (by decide) ?_
    refine X_istore (L' := [(6, .int (0 : Int32)), (5, .int (0 : Int32)), (0, .ref a0), (1, .int p1), (2, .int p2), (3, .int p3), (4, .int p4)]) (pc := 18) (td kX1_tells 10 rfl) (by decide) rfl ?_
    refine X_jn (P := fun k => ∀ (σ_207 : Mm), X (wsOf SHC) RX1 cX1_tells 8 (some .int) 2 0 207 [(0, .ref a0)] [] σ_207 (k σ_207)) (fun σ_207 => ?_) (fun k207 h207 => ?_)
    · refine X_iconst (v := (0 : Int32)) (pc := 207) (td kX1_tells 104 rfl) (by decide) ?_
      refine X_aload_n (pc := 208) (td kX1_tells 105 rfl) rfl 0 rfl ?_
      refine X_getF (b := (a0 + 2)) (pc := 209) a0_s0 rfl fk_X1_15 (td kX1_tells 106 rfl) ?_
      refine X_iconst (v := (0 : Int32)) (pc := 212) (td kX1_tells 107 rfl) (by decide) ?_
      refine X_iald (pc := 213) a0_s2 (td kX1_tells 108 rfl) ?_
      refine X_bipush (v := (30 : Int32)) (pc := 214) (td kX1_tells 109 rfl) (by decide) ?_
      refine X_mmin2 (pc := 216) (td kX1_tells 110 rfl) lm_X1_23 (by omega) (Nat.le_of_ble_eq_true rfl) ?_
      refine X_mmax2 (pc := 219) (td kX1_tells 111 rfl) lm_X1_33 (by omega) (Nat.le_of_ble_eq_true rfl) ?_
      exact X_ret (pc := 222) (td kX1_tells 112 rfl) rfl
    · refine X_sub [2, 3, 4, 5, 6, 1, 0] rfl ?_
      refine lq3_ind (P := fun x5_20 x6_20 σ_20 E => X (wsOf SHC) RX1 cX1_tells 8 (some .int) 2 0 20 [(0, .ref a0), (1, .int p1), (2, .int p2), (3, .int p3), (4, .int p4), (5, .int x5_20), (6, .int x6_20)] [] σ_20 E) (fun _ _ _ => X_none) (fun rec20 hrec20 x5_20 x6_20 σ_20 => ?_) _ _ _ _
      unfold F_X1_tells_20
      refine X_iload (pc := 20) (td kX1_tells 11 rfl) 6 rfl ?_
      refine X_aload_n (pc := 22) (td kX1_tells 12 rfl) rfl 0 rfl ?_
      refine X_getI (pc := 23) a0_s0 rfl fk_X1_19 (td kX1_tells 13 rfl) ?_
      refine X_icmp_ge (pc := 26) (tgt := 207) (td kX1_tells 14 rfl) (by decide) (fun c_26 => ?_) (fun c_26 => ?_)
      · refine X_sub [0] rfl ?_
        exact h207 σ_20
      · refine X_aload_n (pc := 29) (td kX1_tells 15 rfl) rfl 0 rfl ?_
        refine X_getF (b := (a0 + 1)) (pc := 30) a0_s0 rfl fk_X1_9 (td kX1_tells 16 rfl) ?_
        refine X_iload (pc := 33) (td kX1_tells 17 rfl) 6 rfl ?_
        refine X_sald (pc := 35) a0_s1 (td kX1_tells 18 rfl) ?_
        refine X_bi (fun v7_36 => ?_)
        refine X_istore (L' := [(7, .int v7_36), (0, .ref a0), (1, .int p1), (2, .int p2), (3, .int p3), (4, .int p4), (5, .int x5_20), (6, .int x6_20)]) (pc := 36) (td kX1_tells 19 rfl) (by decide) rfl ?_
        refine X_iload (pc := 38) (td kX1_tells 20 rfl) 0 rfl ?_
        refine X_bipush (v := (8 : Int32)) (pc := 40) (td kX1_tells 21 rfl) (by decide) ?_
        refine X_jn (P := fun k => ∀ (x5_201 : Int32) (σ_201 : Mm), X (wsOf SHC) RX1 cX1_tells 8 (some .int) 2 0 201 [(0, .ref a0), (1, .int p1), (2, .int p2), (3, .int p3), (4, .int p4), (5, .int x5_201), (6, .int x6_20)] [] σ_201 (k x5_201 σ_201)) (fun x5_201 σ_201 => ?_) (fun k201 h201 => ?_)
        · refine X_iinc (v := (x6_20 + (1 : Int32))) (L' := [(6, .int (x6_20 + (1 : Int32))), (0, .ref a0), (1, .int p1), (2, .int p2), (3, .int p3), (4, .int p4), (5, .int x5_201)]) (pc := 201) (td kX1_tells 102 rfl) 6 rfl rfl (by decide) rfl ?_
          refine X_goto (pc := 204) (tgt := 20) (td kX1_tells 103 rfl) (by decide) ?_
          refine X_sub [1, 2, 3, 4, 5, 6, 0] rfl ?_
          exact hrec20 x5_201 (x6_20 + (1 : Int32)) σ_201
        · refine X_jn (P := fun k => X (wsOf SHC) RX1 cX1_tells 8 (some .int) 2 0 115 [(0, .ref a0), (1, .int p1), (2, .int p2), (3, .int p3), (4, .int p4), (5, .int x5_20), (6, .int x6_20), (7, .int v7_36)] [] σ_20 k) ?_ (fun k115 h115 => ?_)
          · unfold J_X1_tells_115
            refine X_iload (pc := 115) (td kX1_tells 55 rfl) 7 rfl ?_
            refine X_jn (P := fun k => X (wsOf SHC) RX1 cX1_tells 8 (some .int) 2 0 155 [(0, .ref a0), (1, .int p1), (2, .int p2), (3, .int p3), (4, .int p4), (5, .int x5_20), (6, .int x6_20), (7, .int v7_36)] [] σ_20 k) ?_ (fun k155 h155 => ?_)
            · unfold J_X1_tells_155
              refine X_iload (pc := 155) (td kX1_tells 77 rfl) 7 rfl ?_
              refine X_bipush (v := (8 : Int32)) (pc := 157) (td kX1_tells 78 rfl) (by decide) ?_
              refine X_icmp_ge (pc := 159) (tgt := 201) (td kX1_tells 79 rfl) (by decide) (fun c_159 => ?_) (fun c_159 => ?_)
              · refine X_sub [0, 1, 2, 3, 4, 5, 6] rfl ?_
                exact h201 x5_20 σ_20
              · refine X_iload (pc := 162) (td kX1_tells 80 rfl) 5 rfl ?_
                refine X_iconst (v := (2 : Int32)) (pc := 164) (td kX1_tells 81 rfl) (by decide) ?_
                refine X_icmp_lt (pc := 165) (tgt := 201) (td kX1_tells 82 rfl) (by decide) (fun c_165 => ?_) (fun c_165 => ?_)
                · refine X_sub [0, 1, 2, 3, 4, 5, 6] rfl ?_
                  exact h201 x5_20 σ_20
                · refine X_iinc (v := (x5_20 + (-1 : Int32))) (L' := [(5, .int (x5_20 + (-1 : Int32))), (0, .ref a0), (1, .int p1), (2, .int p2), (3, .int p3), (4, .int p4), (6, .int x6_20), (7, .int v7_36)]) (pc := 168) (td kX1_tells 83 rfl) 5 rfl rfl (by decide) rfl ?_
                  refine X_aload_n (pc := 171) (td kX1_tells 84 rfl) rfl 1 rfl ?_
                  refine X_getF (b := (a0 + 2)) (pc := 172) a0_s0 rfl fk_X1_15 (td kX1_tells 85 rfl) ?_
                  refine X_iload (pc := 175) (td kX1_tells 86 rfl) 0 rfl ?_
                  refine X_iconst (v := (1 : Int32)) (pc := 177) (td kX1_tells 87 rfl) (by decide) ?_
                  refine X_isub (pc := 178) (td kX1_tells 88 rfl) ?_
                  refine X_iload (pc := 179) (td kX1_tells 89 rfl) 7 rfl ?_
                  refine X_aload_n (pc := 181) (td kX1_tells 90 rfl) rfl 1 rfl ?_
                  refine X_getF (b := (a0 + 2)) (pc := 182) a0_s0 rfl fk_X1_15 (td kX1_tells 91 rfl) ?_
                  refine X_iload (pc := 185) (td kX1_tells 92 rfl) 0 rfl ?_
                  refine X_iconst (v := (1 : Int32)) (pc := 187) (td kX1_tells 93 rfl) (by decide) ?_
                  refine X_isub (pc := 188) (td kX1_tells 94 rfl) ?_
                  refine X_bi (fun i_189 => ?_)
                  refine X_iald (pc := 189) a0_s2 (td kX1_tells 95 rfl) ?_
                  refine X_aload_n (pc := 190) (td kX1_tells 96 rfl) rfl 1 rfl ?_
                  refine X_getF (b := (a0 + 2)) (pc := 191) a0_s0 rfl fk_X1_15 (td kX1_tells 97 rfl) ?_
                  refine X_iload (pc := 194) (td kX1_tells 98 rfl) 0 rfl ?_
                  refine X_bi (fun i_196 => ?_)
                  refine X_iald (pc := 196) a0_s2 (td kX1_tells 99 rfl) ?_
                  refine X_callsip (pc := 197) (As := [.int v7_36, .int (gI σ_20 (a0 + 2) i_189.toNatClampNeg), .int (gI σ_20 (a0 + 2) i_196.toNatClampNeg)]) (st := [.int ((x5_20 + (-1 : Int32)) - (1 : Int32)), .ref (a0 + 2)]) (p_X1_joined v7_36 (gI σ_20 (a0 + 2) i_189.toNatClampNeg) (gI σ_20 (a0 + 2) i_196.toNatClampNeg) σ_20) (x_X1_joined v7_36 (gI σ_20 (a0 + 2) i_189.toNatClampNeg) (gI σ_20 (a0 + 2) i_196.toNatClampNeg) σ_20) mkX1_joined lk_X1_29 (by omega) rfl rfl (Nat.le_of_ble_eq_true rfl) (td kX1_tells 100 rfl) (fun r197 hr197 => ?_)
                  refine X_iast (pc := 200) a0_s2 (td kX1_tells 101 rfl) (fun σ200 => ?_)
                  refine X_sub [1, 2, 3, 4, 5, 0, 6] rfl ?_
                  exact h201 (x5_20 + (-1 : Int32)) σ200
            · refine X_if_ne (pc := 117) (tgt := 155) (td kX1_tells 56 rfl) (by decide) (fun c_117 => ?_) (fun c_117 => ?_)
              · exact h155
              · refine X_iload (pc := 120) (td kX1_tells 57 rfl) 5 rfl ?_
                refine X_iconst (v := (1 : Int32)) (pc := 122) (td kX1_tells 58 rfl) (by decide) ?_
                refine X_icmp_lt (pc := 123) (tgt := 155) (td kX1_tells 59 rfl) (by decide) (fun c_123 => ?_) (fun c_123 => ?_)
                · exact h155
                · refine X_aload_n (pc := 126) (td kX1_tells 60 rfl) rfl 0 rfl ?_
                  refine X_getF (b := (a0 + 2)) (pc := 127) a0_s0 rfl fk_X1_15 (td kX1_tells 61 rfl) ?_
                  refine X_iload (pc := 130) (td kX1_tells 62 rfl) 5 rfl ?_
                  refine X_iconst (v := (1 : Int32)) (pc := 132) (td kX1_tells 63 rfl) (by decide) ?_
                  refine X_isub (pc := 133) (td kX1_tells 64 rfl) ?_
                  refine X_aload_n (pc := 134) (td kX1_tells 65 rfl) rfl 0 rfl ?_
                  refine X_getF (b := (a0 + 2)) (pc := 135) a0_s0 rfl fk_X1_15 (td kX1_tells 66 rfl) ?_
                  refine X_iload (pc := 138) (td kX1_tells 67 rfl) 5 rfl ?_
                  refine X_iconst (v := (1 : Int32)) (pc := 140) (td kX1_tells 68 rfl) (by decide) ?_
                  refine X_isub (pc := 141) (td kX1_tells 69 rfl) ?_
                  refine X_bi (fun i_142 => ?_)
                  refine X_iald (pc := 142) a0_s2 (td kX1_tells 70 rfl) ?_
                  refine X_jn (P := fun k => ∀ (y2_151 : Int32), X (wsOf SHC) RX1 cX1_tells 8 (some .int) 2 0 151 [(0, .ref a0), (1, .int p1), (2, .int p2), (3, .int p3), (4, .int p4), (5, .int x5_20), (6, .int x6_20)] [.int y2_151, .int (x5_20 - (1 : Int32)), .ref (a0 + 2)] σ_20 (k y2_151)) (fun y2_151 => ?_) (fun k151 h151 => ?_)
                  · refine X_iast (pc := 151) a0_s2 (td kX1_tells 75 rfl) (fun σ151 => ?_)
                    refine X_goto (pc := 152) (tgt := 201) (td kX1_tells 76 rfl) (by decide) ?_
                    exact h201 x5_20 σ151
                  · refine X_if_ne (pc := 143) (tgt := 150) (td kX1_tells 71 rfl) (by decide) (fun c_143 => ?_) (fun c_143 => ?_)
                    · refine X_iconst (v := (0 : Int32)) (pc := 150) (td kX1_tells 74 rfl) (by decide) ?_
                      refine X_sub [0, 1, 2, 3, 4, 5, 6] rfl ?_
                      exact h151 (0 : Int32)
                    · refine X_iconst (v := (1 : Int32)) (pc := 146) (td kX1_tells 72 rfl) (by decide) ?_
                      refine X_goto (pc := 147) (tgt := 151) (td kX1_tells 73 rfl) (by decide) ?_
                      refine X_sub [0, 1, 2, 3, 4, 5, 6] rfl ?_
                      exact h151 (1 : Int32)
          · refine X_icmp_lt (pc := 42) (tgt := 115) (td kX1_tells 22 rfl) (by decide) (fun c_42 => ?_) (fun c_42 => ?_)
            · refine X_sub [1, 2, 3, 4, 5, 6, 7, 0] rfl ?_
              exact h115
            · refine X_iload (pc := 45) (td kX1_tells 23 rfl) 6 rfl ?_
              refine X_bipush (v := (32 : Int32)) (pc := 47) (td kX1_tells 24 rfl) (by decide) ?_
              refine X_icmp_ge (pc := 49) (tgt := 115) (td kX1_tells 25 rfl) (by decide) (fun c_49 => ?_) (fun c_49 => ?_)
              · refine X_sub [1, 2, 3, 4, 5, 6, 7, 0] rfl ?_
                exact h115
              · refine X_aload_n (pc := 52) (td kX1_tells 26 rfl) rfl 1 rfl ?_
                refine X_getF (b := (a0 + 2)) (pc := 53) a0_s0 rfl fk_X1_15 (td kX1_tells 27 rfl) ?_
                refine X_iload (pc := 56) (td kX1_tells 28 rfl) 6 rfl ?_
                refine X_iload (pc := 58) (td kX1_tells 29 rfl) 0 rfl ?_
                refine X_bipush (v := (8 : Int32)) (pc := 60) (td kX1_tells 30 rfl) (by decide) ?_
                refine X_jn (P := fun k => ∀ (y2_108 : Int32), X (wsOf SHC) RX1 cX1_tells 8 (some .int) 2 0 108 [(0, .ref a0), (1, .int p1), (2, .int p2), (3, .int p3), (4, .int p4), (5, .int x5_20), (6, .int x6_20)] [.int y2_108, .int x5_20, .ref (a0 + 2)] σ_20 (k y2_108)) (fun y2_108 => ?_) (fun k108 h108 => ?_)
                · refine X_iast (pc := 108) a0_s2 (td kX1_tells 52 rfl) (fun σ108 => ?_)
                  refine X_iinc (v := (x5_20 + (1 : Int32))) (L' := [(5, .int (x5_20 + (1 : Int32))), (0, .ref a0), (1, .int p1), (2, .int p2), (3, .int p3), (4, .int p4), (6, .int x6_20)]) (pc := 109) (td kX1_tells 53 rfl) 5 rfl rfl (by decide) rfl ?_
                  refine X_goto (pc := 112) (tgt := 201) (td kX1_tells 54 rfl) (by decide) ?_
                  refine X_sub [1, 2, 3, 4, 5, 0, 6] rfl ?_
                  exact h201 (x5_20 + (1 : Int32)) σ108
                · refine X_icmp_ne (pc := 62) (tgt := 69) (td kX1_tells 31 rfl) (by decide) (fun c_62 => ?_) (fun c_62 => ?_)
                  · refine X_iload (pc := 69) (td kX1_tells 34 rfl) 0 rfl ?_
                    refine X_bipush (v := (9 : Int32)) (pc := 71) (td kX1_tells 35 rfl) (by decide) ?_
                    refine X_icmp_ne (pc := 73) (tgt := 80) (td kX1_tells 36 rfl) (by decide) (fun c_73 => ?_) (fun c_73 => ?_)
                    · refine X_iload (pc := 80) (td kX1_tells 39 rfl) 0 rfl ?_
                      refine X_bipush (v := (10 : Int32)) (pc := 82) (td kX1_tells 40 rfl) (by decide) ?_
                      refine X_icmp_ne (pc := 84) (tgt := 91) (td kX1_tells 41 rfl) (by decide) (fun c_84 => ?_) (fun c_84 => ?_)
                      · refine X_iload (pc := 91) (td kX1_tells 44 rfl) 0 rfl ?_
                        refine X_bipush (v := (11 : Int32)) (pc := 93) (td kX1_tells 45 rfl) (by decide) ?_
                        refine X_icmp_ne (pc := 95) (tgt := 103) (td kX1_tells 46 rfl) (by decide) (fun c_95 => ?_) (fun c_95 => ?_)
                        · refine X_iload (pc := 103) (td kX1_tells 49 rfl) 0 rfl ?_
                          refine X_bipush (v := (12 : Int32)) (pc := 105) (td kX1_tells 50 rfl) (by decide) ?_
                          refine X_isub (pc := 107) (td kX1_tells 51 rfl) ?_
                          refine X_sub [1, 2, 3, 4, 5, 6, 7] rfl ?_
                          exact h108 (v7_36 - (12 : Int32))
                        · refine X_iload (pc := 98) (td kX1_tells 47 rfl) 5 rfl ?_
                          refine X_goto (pc := 100) (tgt := 108) (td kX1_tells 48 rfl) (by decide) ?_
                          refine X_sub [1, 2, 3, 4, 5, 6, 7] rfl ?_
                          exact h108 p4
                      · refine X_iload_n (pc := 87) (td kX1_tells 42 rfl) rfl 4 rfl ?_
                        refine X_goto (pc := 88) (tgt := 108) (td kX1_tells 43 rfl) (by decide) ?_
                        refine X_sub [1, 2, 3, 4, 5, 6, 7] rfl ?_
                        exact h108 p3
                    · refine X_iload_n (pc := 76) (td kX1_tells 37 rfl) rfl 3 rfl ?_
                      refine X_goto (pc := 77) (tgt := 108) (td kX1_tells 38 rfl) (by decide) ?_
                      refine X_sub [1, 2, 3, 4, 5, 6, 7] rfl ?_
                      exact h108 p2
                  · refine X_iload_n (pc := 65) (td kX1_tells 32 rfl) rfl 2 rfl ?_
                    refine X_goto (pc := 66) (tgt := 108) (td kX1_tells 33 rfl) (by decide) ?_
                    refine X_sub [1, 2, 3, 4, 5, 6, 7] rfl ?_
                    exact h108 p1
  · refine X_iload_n (pc := 7) (td kX1_tells 3 rfl) rfl 1 rfl ?_
    refine X_bipush (v := (30 : Int32)) (pc := 8) (td kX1_tells 4 rfl) (by decide) ?_
    refine X_mmin2 (pc := 10) (td kX1_tells 5 rfl) lm_X1_23 (by omega) (Nat.le_of_ble_eq_true rfl) ?_
    exact X_ret (pc := 13) (td kX1_tells 6 rfl) rfl
def F_X10_isSo_2 (a0 : Nat) (p1 : Int32) (p2 : Int32) (σ : Mm) (k60 : Option (Int32 × Mm)) (rec2 : Int32 → Option (Int32 × Mm)) (x3_2 : Int32) : Option (Int32 × Mm) := (if x3_2 < (gI σ a0 0) then ck (inb x3_2 6) (jn (fun (y0_29 : Int32) => ck (inb x3_2 6) (jn (rec2 (x3_2 + (1 : Int32))) (fun k54 => (if (gI σ (a0 + 2) x3_2.toNatClampNeg) = p1 then ck (inb x3_2 6) ((if y0_29 = (gI σ (a0 + 3) x3_2.toNatClampNeg) then k54 else some ((0 : Int32), σ))) else k54)))) (fun k29 => (if ((p2 >>> ((gI σ (a0 + 1) x3_2.toNatClampNeg) &&& 31)) &&& (1 : Int32)) = (1 : Int32) then k29 (1 : Int32) else k29 (0 : Int32)))) else k60)
def f_X10_isSo (a0 : Nat) (p1 : Int32) (p2 : Int32) (σ : Mm) : Option (Int32 × Mm) := ck (isWatched a0) (jn (some ((1 : Int32), σ)) (fun k60 => lq1 (F_X10_isSo_2 a0 p1 p2 σ k60) 1000000 (0 : Int32)))
set_option maxHeartbeats 4000000 in
set_option maxRecDepth 100000 in
theorem x_X10_isSo (a0 : Nat) (p1 : Int32) (p2 : Int32) (σ : Mm) : Con (wsOf SHC) yX10_isSo cX10_isSo 5 (some .boolean) 1 [.ref a0, .int p1, .int p2] σ (f_X10_isSo a0 p1 p2 σ) := by
  refine Con.of_X (by decide +kernel) (Nat.le_of_ble_eq_true rfl) ?_
  unfold f_X10_isSo
  show X (wsOf SHC) RX10 cX10_isSo 5 (some .boolean) 1 0 0 [(0, .ref a0), (1, .int p1), (2, .int p2)] [] σ _
  refine X_ck (fun a0_h => ?_)
  obtain ⟨a0_s0, a0_s1, a0_s2, a0_s3⟩ := knWatched a0_h
  refine X_iconst (v := (0 : Int32)) (pc := 0) (td kX10_isSo 0 rfl) (by decide) ?_
  refine X_istore_n (L' := [(3, .int (0 : Int32)), (0, .ref a0), (1, .int p1), (2, .int p2)]) (pc := 1) (td kX10_isSo 1 rfl) rfl (by decide) rfl ?_
  refine X_jn (P := fun k => X (wsOf SHC) RX10 cX10_isSo 5 (some .boolean) 1 0 60 [] [] σ k) ?_ (fun k60 h60 => ?_)
  · refine X_iconst (v := (1 : Int32)) (pc := 60) (td kX10_isSo 36 rfl) (by decide) ?_
    exact X_ret (pc := 61) (td kX10_isSo 37 rfl) rfl
  · refine X_sub [1, 2, 3, 0] rfl ?_
    refine lq1_ind (P := fun x3_2 E => X (wsOf SHC) RX10 cX10_isSo 5 (some .boolean) 1 0 2 [(0, .ref a0), (1, .int p1), (2, .int p2), (3, .int x3_2)] [] σ E) (fun _ => X_none) (fun rec2 hrec2 x3_2 => ?_) _ _
    unfold F_X10_isSo_2
    refine X_iload_n (pc := 2) (td kX10_isSo 2 rfl) rfl 3 rfl ?_
    refine X_aload_n (pc := 3) (td kX10_isSo 3 rfl) rfl 0 rfl ?_
    refine X_getI (pc := 4) a0_s0 rfl fk_X10_20 (td kX10_isSo 4 rfl) ?_
    refine X_icmp_ge (pc := 7) (tgt := 60) (td kX10_isSo 5 rfl) (by decide) (fun c_7 => ?_) (fun c_7 => ?_)
    · refine X_sub [] rfl ?_
      exact h60
    · refine X_iload_n (pc := 10) (td kX10_isSo 6 rfl) rfl 2 rfl ?_
      refine X_aload_n (pc := 11) (td kX10_isSo 7 rfl) rfl 0 rfl ?_
      refine X_getF (b := (a0 + 1)) (pc := 12) a0_s0 rfl fk_X10_9 (td kX10_isSo 8 rfl) ?_
      refine X_iload_n (pc := 15) (td kX10_isSo 9 rfl) rfl 3 rfl ?_
      refine X_iald (pc := 16) a0_s1 (td kX10_isSo 10 rfl) ?_
      refine X_ishr (pc := 17) (td kX10_isSo 11 rfl) ?_
      refine X_iconst (v := (1 : Int32)) (pc := 18) (td kX10_isSo 12 rfl) (by decide) ?_
      refine X_iand (pc := 19) (td kX10_isSo 13 rfl) ?_
      refine X_iconst (v := (1 : Int32)) (pc := 20) (td kX10_isSo 14 rfl) (by decide) ?_
      refine X_jn (P := fun k => ∀ (y0_29 : Int32), X (wsOf SHC) RX10 cX10_isSo 5 (some .boolean) 1 0 29 [(0, .ref a0), (1, .int p1), (2, .int p2), (3, .int x3_2)] [.int y0_29] σ (k y0_29)) (fun y0_29 => ?_) (fun k29 h29 => ?_)
      · refine X_istore (L' := [(4, .int y0_29), (0, .ref a0), (1, .int p1), (2, .int p2), (3, .int x3_2)]) (pc := 29) (td kX10_isSo 19 rfl) (by decide) rfl ?_
        refine X_aload_n (pc := 31) (td kX10_isSo 20 rfl) rfl 1 rfl ?_
        refine X_getF (b := (a0 + 2)) (pc := 32) a0_s0 rfl fk_X10_13 (td kX10_isSo 21 rfl) ?_
        refine X_iload_n (pc := 35) (td kX10_isSo 22 rfl) rfl 4 rfl ?_
        refine X_iald (pc := 36) a0_s2 (td kX10_isSo 23 rfl) ?_
        refine X_iload_n (pc := 37) (td kX10_isSo 24 rfl) rfl 2 rfl ?_
        refine X_jn (P := fun k => X (wsOf SHC) RX10 cX10_isSo 5 (some .boolean) 1 0 54 [(0, .ref a0), (1, .int p1), (2, .int p2), (3, .int x3_2)] [] σ k) ?_ (fun k54 h54 => ?_)
        · refine X_iinc (v := (x3_2 + (1 : Int32))) (L' := [(3, .int (x3_2 + (1 : Int32))), (0, .ref a0), (1, .int p1), (2, .int p2)]) (pc := 54) (td kX10_isSo 34 rfl) 3 rfl rfl (by decide) rfl ?_
          refine X_goto (pc := 57) (tgt := 2) (td kX10_isSo 35 rfl) (by decide) ?_
          refine X_sub [1, 2, 3, 0] rfl ?_
          exact hrec2 (x3_2 + (1 : Int32))
        · refine X_icmp_ne (pc := 38) (tgt := 54) (td kX10_isSo 25 rfl) (by decide) (fun c_38 => ?_) (fun c_38 => ?_)
          · refine X_sub [1, 2, 3, 4] rfl ?_
            exact h54
          · refine X_iload (pc := 41) (td kX10_isSo 26 rfl) 0 rfl ?_
            refine X_aload_n (pc := 43) (td kX10_isSo 27 rfl) rfl 1 rfl ?_
            refine X_getF (b := (a0 + 3)) (pc := 44) a0_s0 rfl fk_X10_16 (td kX10_isSo 28 rfl) ?_
            refine X_iload_n (pc := 47) (td kX10_isSo 29 rfl) rfl 4 rfl ?_
            refine X_zald (pc := 48) a0_s3 (td kX10_isSo 30 rfl) ?_
            refine X_icmp_eq (pc := 49) (tgt := 54) (td kX10_isSo 31 rfl) (by decide) (fun c_49 => ?_) (fun c_49 => ?_)
            · refine X_sub [1, 2, 3, 4] rfl ?_
              exact h54
            · refine X_iconst (v := (0 : Int32)) (pc := 52) (td kX10_isSo 32 rfl) (by decide) ?_
              exact X_ret (pc := 53) (td kX10_isSo 33 rfl) rfl
      · refine X_icmp_ne (pc := 21) (tgt := 28) (td kX10_isSo 15 rfl) (by decide) (fun c_21 => ?_) (fun c_21 => ?_)
        · refine X_iconst (v := (0 : Int32)) (pc := 28) (td kX10_isSo 18 rfl) (by decide) ?_
          exact h29 (0 : Int32)
        · refine X_iconst (v := (1 : Int32)) (pc := 24) (td kX10_isSo 16 rfl) (by decide) ?_
          refine X_goto (pc := 25) (tgt := 29) (td kX10_isSo 17 rfl) (by decide) ?_
          exact h29 (1 : Int32)
set_option maxHeartbeats 4000000 in
theorem p_X10_isSo (a0 : Nat) (p1 : Int32) (p2 : Int32) (σ : Mm) : Pu σ (f_X10_isSo a0 p1 p2 σ) := by
  unfold f_X10_isSo
  refine Pu_ck ?_
  refine Pu_jn (fun k => Pu σ (k)) ?_ (fun k60 h60 => ?_)
  · exact Pu_some
  · refine lq1_ind (P := fun _ E => Pu σ E) (fun _ => Pu_none) (fun rec2 hrec2 x3_2 => ?_) _ _
    unfold F_X10_isSo_2
    refine Pu_if ?_ ?_
    · refine Pu_ck ?_
      refine Pu_jn (fun k => ∀ (y0_29 : Int32), Pu σ (k y0_29)) (fun y0_29 => ?_) (fun k29 h29 => ?_)
      · refine Pu_ck ?_
        refine Pu_jn (fun k => Pu σ (k)) ?_ (fun k54 h54 => ?_)
        · exact hrec2 _
        · refine Pu_if ?_ ?_
          · refine Pu_ck ?_
            refine Pu_if ?_ ?_
            · exact h54
            · exact Pu_some
          · exact h54
      · refine Pu_if ?_ ?_
        · exact h29 _
        · exact h29 _
    · exact h60
def F_X10_lastMinute_4 (a0 : Nat) (σ : Mm) (k29 : Int32 → Option (Int32 × Mm)) (rec4 : Int32 → Int32 → Option (Int32 × Mm)) (x1_4 : Int32) (x2_4 : Int32) : Option (Int32 × Mm) := (if x2_4 < (gI σ a0 0) then ck (inb x2_4 6) (bn (imx x1_4 (gI σ (a0 + 2) x2_4.toNatClampNeg)) (fun v1_22 => rec4 v1_22 (x2_4 + (1 : Int32)))) else k29 x1_4)
def f_X10_lastMinute (a0 : Nat) (σ : Mm) : Option (Int32 × Mm) := ck (isWatched a0) (jn (fun (x1_29 : Int32) => some (x1_29, σ)) (fun k29 => lq2 (F_X10_lastMinute_4 a0 σ k29) 1000000 (0 : Int32) (0 : Int32)))
set_option maxHeartbeats 4000000 in
set_option maxRecDepth 100000 in
theorem x_X10_lastMinute (a0 : Nat) (σ : Mm) : Con (wsOf SHC) yX10_lastMinute cX10_lastMinute 3 (some .int) 1 [.ref a0] σ (f_X10_lastMinute a0 σ) := by
  refine Con.of_X (by decide +kernel) (Nat.le_of_ble_eq_true rfl) ?_
  unfold f_X10_lastMinute
  show X (wsOf SHC) RX10 cX10_lastMinute 3 (some .int) 1 0 0 [(0, .ref a0)] [] σ _
  refine X_ck (fun a0_h => ?_)
  obtain ⟨a0_s0, a0_s1, a0_s2, a0_s3⟩ := knWatched a0_h
  refine X_iconst (v := (0 : Int32)) (pc := 0) (td kX10_lastMinute 0 rfl) (by decide) ?_
  refine X_istore_n (L' := [(1, .int (0 : Int32)), (0, .ref a0)]) (pc := 1) (td kX10_lastMinute 1 rfl) rfl (by decide) rfl ?_
  refine X_iconst (v := (0 : Int32)) (pc := 2) (td kX10_lastMinute 2 rfl) (by decide) ?_
  refine X_istore_n (L' := [(2, .int (0 : Int32)), (1, .int (0 : Int32)), (0, .ref a0)]) (pc := 3) (td kX10_lastMinute 3 rfl) rfl (by decide) rfl ?_
  refine X_jn (P := fun k => ∀ (x1_29 : Int32), X (wsOf SHC) RX10 cX10_lastMinute 3 (some .int) 1 0 29 [(1, .int x1_29)] [] σ (k x1_29)) (fun x1_29 => ?_) (fun k29 h29 => ?_)
  · refine X_iload_n (pc := 29) (td kX10_lastMinute 17 rfl) rfl 0 rfl ?_
    exact X_ret (pc := 30) (td kX10_lastMinute 18 rfl) rfl
  · refine X_sub [2, 1, 0] rfl ?_
    refine lq2_ind (P := fun x1_4 x2_4 E => X (wsOf SHC) RX10 cX10_lastMinute 3 (some .int) 1 0 4 [(0, .ref a0), (1, .int x1_4), (2, .int x2_4)] [] σ E) (fun _ _ => X_none) (fun rec4 hrec4 x1_4 x2_4 => ?_) _ _ _
    unfold F_X10_lastMinute_4
    refine X_iload_n (pc := 4) (td kX10_lastMinute 4 rfl) rfl 2 rfl ?_
    refine X_aload_n (pc := 5) (td kX10_lastMinute 5 rfl) rfl 0 rfl ?_
    refine X_getI (pc := 6) a0_s0 rfl fk_X10_20 (td kX10_lastMinute 6 rfl) ?_
    refine X_icmp_ge (pc := 9) (tgt := 29) (td kX10_lastMinute 7 rfl) (by decide) (fun c_9 => ?_) (fun c_9 => ?_)
    · refine X_sub [1] rfl ?_
      exact h29 x1_4
    · refine X_iload_n (pc := 12) (td kX10_lastMinute 8 rfl) rfl 1 rfl ?_
      refine X_aload_n (pc := 13) (td kX10_lastMinute 9 rfl) rfl 0 rfl ?_
      refine X_getF (b := (a0 + 2)) (pc := 14) a0_s0 rfl fk_X10_13 (td kX10_lastMinute 10 rfl) ?_
      refine X_iload_n (pc := 17) (td kX10_lastMinute 11 rfl) rfl 2 rfl ?_
      refine X_iald (pc := 18) a0_s2 (td kX10_lastMinute 12 rfl) ?_
      refine X_mmax2 (pc := 19) (td kX10_lastMinute 13 rfl) lm_X10_24 (by omega) (Nat.le_of_ble_eq_true rfl) ?_
      refine X_bi (fun v1_22 => ?_)
      refine X_istore_n (L' := [(1, .int v1_22), (0, .ref a0), (2, .int x2_4)]) (pc := 22) (td kX10_lastMinute 14 rfl) rfl (by decide) rfl ?_
      refine X_iinc (v := (x2_4 + (1 : Int32))) (L' := [(2, .int (x2_4 + (1 : Int32))), (1, .int v1_22), (0, .ref a0)]) (pc := 23) (td kX10_lastMinute 15 rfl) 2 rfl rfl (by decide) rfl ?_
      refine X_goto (pc := 26) (tgt := 4) (td kX10_lastMinute 16 rfl) (by decide) ?_
      refine X_sub [2, 1, 0] rfl ?_
      exact hrec4 v1_22 (x2_4 + (1 : Int32))
set_option maxHeartbeats 4000000 in
theorem p_X10_lastMinute (a0 : Nat) (σ : Mm) : Pu σ (f_X10_lastMinute a0 σ) := by
  unfold f_X10_lastMinute
  refine Pu_ck ?_
  refine Pu_jn (fun k => ∀ (x1_29 : Int32), Pu σ (k x1_29)) (fun x1_29 => ?_) (fun k29 h29 => ?_)
  · exact Pu_some
  · refine lq2_ind (P := fun _ _ E => Pu σ E) (fun _ _ => Pu_none) (fun rec4 hrec4 x1_4 x2_4 => ?_) _ _ _
    unfold F_X10_lastMinute_4
    refine Pu_if ?_ ?_
    · refine Pu_ck ?_
      refine Pu_bn (fun _ => ?_)
      exact hrec4 _ _
    · exact h29 _
def f_X10_add (a0 : Nat) (p1 : Int32) (p2 : Int32) (p3 : Int32) (σ : Mm) : Option (Int32 × Mm) := ck (isWatched a0) ((if (gI σ a0 0) < (6 : Int32) then ck (inb (gI σ a0 0) 6) (bn (pI σ (a0 + 1) (gI σ a0 0).toNatClampNeg p1) (fun σ20 => ck (inb (gI σ20 a0 0) 6) (bn (pI σ20 (a0 + 2) (gI σ20 a0 0).toNatClampNeg p2) (fun σ30 => ck (inb (gI σ30 a0 0) 6) (bn (pI σ30 (a0 + 3) (gI σ30 a0 0).toNatClampNeg (vp_nar .boolean p3)) (fun σ40 => bn (pI σ40 a0 0 ((gI σ40 a0 0) + (1 : Int32))) (fun σ48 => some ((1 : Int32), σ48)))))))) else some ((0 : Int32), σ)))
set_option maxHeartbeats 4000000 in
set_option maxRecDepth 100000 in
theorem x_X10_add (a0 : Nat) (p1 : Int32) (p2 : Int32) (p3 : Int32) (σ : Mm) : Con (wsOf SHC) yX10_add cX10_add 4 (some .boolean) 1 [.ref a0, .int p1, .int p2, .int p3] σ (f_X10_add a0 p1 p2 p3 σ) := by
  refine Con.of_X (by decide +kernel) (Nat.le_of_ble_eq_true rfl) ?_
  unfold f_X10_add
  show X (wsOf SHC) RX10 cX10_add 4 (some .boolean) 1 0 0 [(0, .ref a0), (1, .int p1), (2, .int p2), (3, .int p3)] [] σ _
  refine X_ck (fun a0_h => ?_)
  obtain ⟨a0_s0, a0_s1, a0_s2, a0_s3⟩ := knWatched a0_h
  refine X_aload_n (pc := 0) (td kX10_add 0 rfl) rfl 0 rfl ?_
  refine X_getI (pc := 1) a0_s0 rfl fk_X10_20 (td kX10_add 1 rfl) ?_
  refine X_bipush (v := (6 : Int32)) (pc := 4) (td kX10_add 2 rfl) (by decide) ?_
  refine X_icmp_lt (pc := 6) (tgt := 11) (td kX10_add 3 rfl) (by decide) (fun c_6 => ?_) (fun c_6 => ?_)
  · refine X_aload_n (pc := 11) (td kX10_add 6 rfl) rfl 0 rfl ?_
    refine X_getF (b := (a0 + 1)) (pc := 12) a0_s0 rfl fk_X10_9 (td kX10_add 7 rfl) ?_
    refine X_aload_n (pc := 15) (td kX10_add 8 rfl) rfl 0 rfl ?_
    refine X_getI (pc := 16) a0_s0 rfl fk_X10_20 (td kX10_add 9 rfl) ?_
    refine X_iload_n (pc := 19) (td kX10_add 10 rfl) rfl 1 rfl ?_
    refine X_iast (pc := 20) a0_s1 (td kX10_add 11 rfl) (fun σ20 => ?_)
    refine X_aload_n (pc := 21) (td kX10_add 12 rfl) rfl 0 rfl ?_
    refine X_getF (b := (a0 + 2)) (pc := 22) a0_s0 rfl fk_X10_13 (td kX10_add 13 rfl) ?_
    refine X_aload_n (pc := 25) (td kX10_add 14 rfl) rfl 0 rfl ?_
    refine X_getI (pc := 26) a0_s0 rfl fk_X10_20 (td kX10_add 15 rfl) ?_
    refine X_iload_n (pc := 29) (td kX10_add 16 rfl) rfl 2 rfl ?_
    refine X_iast (pc := 30) a0_s2 (td kX10_add 17 rfl) (fun σ30 => ?_)
    refine X_aload_n (pc := 31) (td kX10_add 18 rfl) rfl 0 rfl ?_
    refine X_getF (b := (a0 + 3)) (pc := 32) a0_s0 rfl fk_X10_16 (td kX10_add 19 rfl) ?_
    refine X_aload_n (pc := 35) (td kX10_add 20 rfl) rfl 0 rfl ?_
    refine X_getI (pc := 36) a0_s0 rfl fk_X10_20 (td kX10_add 21 rfl) ?_
    refine X_iload_n (pc := 39) (td kX10_add 22 rfl) rfl 3 rfl ?_
    refine X_zast (pc := 40) a0_s3 (td kX10_add 23 rfl) (fun σ40 => ?_)
    refine X_aload_n (pc := 41) (td kX10_add 24 rfl) rfl 0 rfl ?_
    refine X_dup (pc := 42) (td kX10_add 25 rfl) rfl ?_
    refine X_getI (pc := 43) a0_s0 rfl fk_X10_20 (td kX10_add 26 rfl) ?_
    refine X_iconst (v := (1 : Int32)) (pc := 46) (td kX10_add 27 rfl) (by decide) ?_
    refine X_iadd (pc := 47) (td kX10_add 28 rfl) ?_
    refine X_putI (pc := 48) a0_s0 rfl fk_X10_20 rfl rfl (td kX10_add 29 rfl) (fun σ48 => ?_)
    refine X_iconst (v := (1 : Int32)) (pc := 51) (td kX10_add 30 rfl) (by decide) ?_
    exact X_ret (pc := 52) (td kX10_add 31 rfl) rfl
  · refine X_iconst (v := (0 : Int32)) (pc := 9) (td kX10_add 4 rfl) (by decide) ?_
    exact X_ret (pc := 10) (td kX10_add 5 rfl) rfl
def F_X10_copyFrom_10 (a0 : Nat) (b1 : Nat) (k58 : Mm → Option (Int32 × Mm)) (rec10 : Int32 → Mm → Option (Int32 × Mm)) (x2_10 : Int32) (σ_10 : Mm) : Option (Int32 × Mm) := (if x2_10 < (6 : Int32) then ck (inb x2_10 6) (ck (inb x2_10 6) (bn (pI σ_10 (a0 + 1) x2_10.toNatClampNeg (gI σ_10 (b1 + 1) x2_10.toNatClampNeg)) (fun σ27 => ck (inb x2_10 6) (ck (inb x2_10 6) (bn (pI σ27 (a0 + 2) x2_10.toNatClampNeg (gI σ27 (b1 + 2) x2_10.toNatClampNeg)) (fun σ39 => ck (inb x2_10 6) (ck (inb x2_10 6) (bn (pI σ39 (a0 + 3) x2_10.toNatClampNeg (vp_nar .boolean (gI σ39 (b1 + 3) x2_10.toNatClampNeg))) (fun σ51 => rec10 (x2_10 + (1 : Int32)) σ51))))))))) else k58 σ_10)
def f_X10_copyFrom (a0 : Nat) (b1 : Nat) (σ : Mm) : Option (Int32 × Mm) := ck (isWatched a0) (ck (isWatched b1) (bn (pI σ a0 0 (gI σ b1 0)) (fun σ5 => jn (fun (σ_58 : Mm) => some (0, σ_58)) (fun k58 => lq2 (F_X10_copyFrom_10 a0 b1 k58) 1000000 (0 : Int32) σ5))))
set_option maxHeartbeats 4000000 in
set_option maxRecDepth 100000 in
theorem x_X10_copyFrom (a0 : Nat) (b1 : Nat) (σ : Mm) : Con (wsOf SHC) yX10_copyFrom cX10_copyFrom 3 none 1 [.ref a0, .ref b1] σ (f_X10_copyFrom a0 b1 σ) := by
  refine Con.of_X (by decide +kernel) (Nat.le_of_ble_eq_true rfl) ?_
  unfold f_X10_copyFrom
  show X (wsOf SHC) RX10 cX10_copyFrom 3 none 1 0 0 [(0, .ref a0), (1, .ref b1)] [] σ _
  refine X_ck (fun a0_h => ?_)
  obtain ⟨a0_s0, a0_s1, a0_s2, a0_s3⟩ := knWatched a0_h
  refine X_ck (fun b1_h => ?_)
  obtain ⟨b1_s0, b1_s1, b1_s2, b1_s3⟩ := knWatched b1_h
  refine X_aload_n (pc := 0) (td kX10_copyFrom 0 rfl) rfl 0 rfl ?_
  refine X_aload_n (pc := 1) (td kX10_copyFrom 1 rfl) rfl 1 rfl ?_
  refine X_getI (pc := 2) b1_s0 rfl fk_X10_20 (td kX10_copyFrom 2 rfl) ?_
  refine X_putI (pc := 5) a0_s0 rfl fk_X10_20 rfl rfl (td kX10_copyFrom 3 rfl) (fun σ5 => ?_)
  refine X_iconst (v := (0 : Int32)) (pc := 8) (td kX10_copyFrom 4 rfl) (by decide) ?_
  refine X_istore_n (L' := [(2, .int (0 : Int32)), (0, .ref a0), (1, .ref b1)]) (pc := 9) (td kX10_copyFrom 5 rfl) rfl (by decide) rfl ?_
  refine X_jn (P := fun k => ∀ (σ_58 : Mm), X (wsOf SHC) RX10 cX10_copyFrom 3 none 1 0 58 [] [] σ_58 (k σ_58)) (fun σ_58 => ?_) (fun k58 h58 => ?_)
  · exact X_retv (pc := 58) (td kX10_copyFrom 35 rfl)
  · refine X_sub [1, 2, 0] rfl ?_
    refine lq2_ind (P := fun x2_10 σ_10 E => X (wsOf SHC) RX10 cX10_copyFrom 3 none 1 0 10 [(0, .ref a0), (1, .ref b1), (2, .int x2_10)] [] σ_10 E) (fun _ _ => X_none) (fun rec10 hrec10 x2_10 σ_10 => ?_) _ _ _
    unfold F_X10_copyFrom_10
    refine X_iload_n (pc := 10) (td kX10_copyFrom 6 rfl) rfl 2 rfl ?_
    refine X_bipush (v := (6 : Int32)) (pc := 11) (td kX10_copyFrom 7 rfl) (by decide) ?_
    refine X_icmp_ge (pc := 13) (tgt := 58) (td kX10_copyFrom 8 rfl) (by decide) (fun c_13 => ?_) (fun c_13 => ?_)
    · refine X_sub [] rfl ?_
      exact h58 σ_10
    · refine X_aload_n (pc := 16) (td kX10_copyFrom 9 rfl) rfl 0 rfl ?_
      refine X_getF (b := (a0 + 1)) (pc := 17) a0_s0 rfl fk_X10_9 (td kX10_copyFrom 10 rfl) ?_
      refine X_iload_n (pc := 20) (td kX10_copyFrom 11 rfl) rfl 2 rfl ?_
      refine X_aload_n (pc := 21) (td kX10_copyFrom 12 rfl) rfl 1 rfl ?_
      refine X_getF (b := (b1 + 1)) (pc := 22) b1_s0 rfl fk_X10_9 (td kX10_copyFrom 13 rfl) ?_
      refine X_iload_n (pc := 25) (td kX10_copyFrom 14 rfl) rfl 2 rfl ?_
      refine X_iald (pc := 26) b1_s1 (td kX10_copyFrom 15 rfl) ?_
      refine X_iast (pc := 27) a0_s1 (td kX10_copyFrom 16 rfl) (fun σ27 => ?_)
      refine X_aload_n (pc := 28) (td kX10_copyFrom 17 rfl) rfl 0 rfl ?_
      refine X_getF (b := (a0 + 2)) (pc := 29) a0_s0 rfl fk_X10_13 (td kX10_copyFrom 18 rfl) ?_
      refine X_iload_n (pc := 32) (td kX10_copyFrom 19 rfl) rfl 2 rfl ?_
      refine X_aload_n (pc := 33) (td kX10_copyFrom 20 rfl) rfl 1 rfl ?_
      refine X_getF (b := (b1 + 2)) (pc := 34) b1_s0 rfl fk_X10_13 (td kX10_copyFrom 21 rfl) ?_
      refine X_iload_n (pc := 37) (td kX10_copyFrom 22 rfl) rfl 2 rfl ?_
      refine X_iald (pc := 38) b1_s2 (td kX10_copyFrom 23 rfl) ?_
      refine X_iast (pc := 39) a0_s2 (td kX10_copyFrom 24 rfl) (fun σ39 => ?_)
      refine X_aload_n (pc := 40) (td kX10_copyFrom 25 rfl) rfl 0 rfl ?_
      refine X_getF (b := (a0 + 3)) (pc := 41) a0_s0 rfl fk_X10_16 (td kX10_copyFrom 26 rfl) ?_
      refine X_iload_n (pc := 44) (td kX10_copyFrom 27 rfl) rfl 2 rfl ?_
      refine X_aload_n (pc := 45) (td kX10_copyFrom 28 rfl) rfl 1 rfl ?_
      refine X_getF (b := (b1 + 3)) (pc := 46) b1_s0 rfl fk_X10_16 (td kX10_copyFrom 29 rfl) ?_
      refine X_iload_n (pc := 49) (td kX10_copyFrom 30 rfl) rfl 2 rfl ?_
      refine X_zald (pc := 50) b1_s3 (td kX10_copyFrom 31 rfl) ?_
      refine X_zast (pc := 51) a0_s3 (td kX10_copyFrom 32 rfl) (fun σ51 => ?_)
      refine X_iinc (v := (x2_10 + (1 : Int32))) (L' := [(2, .int (x2_10 + (1 : Int32))), (0, .ref a0), (1, .ref b1)]) (pc := 52) (td kX10_copyFrom 33 rfl) 2 rfl rfl (by decide) rfl ?_
      refine X_goto (pc := 55) (tgt := 10) (td kX10_copyFrom 34 rfl) (by decide) ?_
      refine X_sub [1, 2, 0] rfl ?_
      exact hrec10 (x2_10 + (1 : Int32)) σ51
def f_X2_add (a0 : Nat) (p1 : Int32) (p2 : Int32) (p3 : Int32) (σ : Mm) : Option (Int32 × Mm) := ck (isLines a0) ((if (gI σ a0 0) < (40 : Int32) then ck (inb (gI σ a0 0) 40) (bn (pI σ (a0 + 1) (gI σ a0 0).toNatClampNeg (vp_nar .byte p1.toInt8.toInt32)) (fun σ19 => ck (inb (gI σ19 a0 0) 40) (bn (pI σ19 (a0 + 2) (gI σ19 a0 0).toNatClampNeg (vp_nar .byte p2.toInt8.toInt32)) (fun σ30 => ck (inb (gI σ30 a0 0) 40) (bn (pI σ30 (a0 + 3) (gI σ30 a0 0).toNatClampNeg (vp_nar .byte p3.toInt8.toInt32)) (fun σ41 => bn (pI σ41 a0 0 ((gI σ41 a0 0) + (1 : Int32))) (fun σ49 => some (0, σ49)))))))) else some (0, σ)))
set_option maxHeartbeats 4000000 in
set_option maxRecDepth 100000 in
theorem x_X2_add (a0 : Nat) (p1 : Int32) (p2 : Int32) (p3 : Int32) (σ : Mm) : Con (wsOf SHC) yX2_add cX2_add 4 none 1 [.ref a0, .int p1, .int p2, .int p3] σ (f_X2_add a0 p1 p2 p3 σ) := by
  refine Con.of_X (by decide +kernel) (Nat.le_of_ble_eq_true rfl) ?_
  unfold f_X2_add
  show X (wsOf SHC) RX2 cX2_add 4 none 1 0 0 [(0, .ref a0), (1, .int p1), (2, .int p2), (3, .int p3)] [] σ _
  refine X_ck (fun a0_h => ?_)
  obtain ⟨a0_s0, a0_s1, a0_s2, a0_s3⟩ := knLines a0_h
  refine X_aload_n (pc := 0) (td kX2_add 0 rfl) rfl 0 rfl ?_
  refine X_getI (pc := 1) a0_s0 rfl fk_X2_19 (td kX2_add 1 rfl) ?_
  refine X_bipush (v := (40 : Int32)) (pc := 4) (td kX2_add 2 rfl) (by decide) ?_
  refine X_icmp_ge (pc := 6) (tgt := 52) (td kX2_add 3 rfl) (by decide) (fun c_6 => ?_) (fun c_6 => ?_)
  · exact X_retv (pc := 52) (td kX2_add 31 rfl)
  · refine X_aload_n (pc := 9) (td kX2_add 4 rfl) rfl 0 rfl ?_
    refine X_getF (b := (a0 + 1)) (pc := 10) a0_s0 rfl fk_X2_9 (td kX2_add 5 rfl) ?_
    refine X_aload_n (pc := 13) (td kX2_add 6 rfl) rfl 0 rfl ?_
    refine X_getI (pc := 14) a0_s0 rfl fk_X2_19 (td kX2_add 7 rfl) ?_
    refine X_iload_n (pc := 17) (td kX2_add 8 rfl) rfl 1 rfl ?_
    refine X_i2b (pc := 18) (td kX2_add 9 rfl) ?_
    refine X_bast (pc := 19) a0_s1 (td kX2_add 10 rfl) (fun σ19 => ?_)
    refine X_aload_n (pc := 20) (td kX2_add 11 rfl) rfl 0 rfl ?_
    refine X_getF (b := (a0 + 2)) (pc := 21) a0_s0 rfl fk_X2_13 (td kX2_add 12 rfl) ?_
    refine X_aload_n (pc := 24) (td kX2_add 13 rfl) rfl 0 rfl ?_
    refine X_getI (pc := 25) a0_s0 rfl fk_X2_19 (td kX2_add 14 rfl) ?_
    refine X_iload_n (pc := 28) (td kX2_add 15 rfl) rfl 2 rfl ?_
    refine X_i2b (pc := 29) (td kX2_add 16 rfl) ?_
    refine X_bast (pc := 30) a0_s2 (td kX2_add 17 rfl) (fun σ30 => ?_)
    refine X_aload_n (pc := 31) (td kX2_add 18 rfl) rfl 0 rfl ?_
    refine X_getF (b := (a0 + 3)) (pc := 32) a0_s0 rfl fk_X2_16 (td kX2_add 19 rfl) ?_
    refine X_aload_n (pc := 35) (td kX2_add 20 rfl) rfl 0 rfl ?_
    refine X_getI (pc := 36) a0_s0 rfl fk_X2_19 (td kX2_add 21 rfl) ?_
    refine X_iload_n (pc := 39) (td kX2_add 22 rfl) rfl 3 rfl ?_
    refine X_i2b (pc := 40) (td kX2_add 23 rfl) ?_
    refine X_bast (pc := 41) a0_s3 (td kX2_add 24 rfl) (fun σ41 => ?_)
    refine X_aload_n (pc := 42) (td kX2_add 25 rfl) rfl 0 rfl ?_
    refine X_dup (pc := 43) (td kX2_add 26 rfl) rfl ?_
    refine X_getI (pc := 44) a0_s0 rfl fk_X2_19 (td kX2_add 27 rfl) ?_
    refine X_iconst (v := (1 : Int32)) (pc := 47) (td kX2_add 28 rfl) (by decide) ?_
    refine X_iadd (pc := 48) (td kX2_add 29 rfl) ?_
    refine X_putI (pc := 49) a0_s0 rfl fk_X2_19 rfl rfl (td kX2_add 30 rfl) (fun σ49 => ?_)
    exact X_retv (pc := 52) (td kX2_add 31 rfl)
def F_X7_addBytes_3 (p1 : Int64) (k88 : Mm → Option (Int32 × Mm)) (rec3 : Int32 → Mm → Option (Int32 × Mm)) (x3_3 : Int32) (σ_3 : Mm) : Option (Int32 × Mm) := (if x3_3 < 0 then k88 σ_3 else bn ((lushr p1 x3_3) &&& (255 : Int64)).toInt32 (fun v4_15 => jn (fun (y0_43 : Int32) => jn (fun (σ_82 : Mm) => rec3 (x3_3 + (-8 : Int32)) σ_82) (fun k82 => (if y0_43 = 0 then k82 σ_3 else (if (gI σ_3 1 1) < (1000 : Int32) then ck (inb (gI σ_3 1 1) 1000) (bn (pI σ_3 2 (gI σ_3 1 1).toNatClampNeg (vp_nar .byte v4_15.toInt8.toInt32)) (fun σ71 => bn (pI σ71 1 1 ((gI σ71 1 1) + (1 : Int32))) (fun σ79 => k82 σ79))) else k82 σ_3)))) (fun k43 => jn (k43 (1 : Int32)) (fun k38 => (if v4_15 = (10 : Int32) then k38 else jn (k43 (0 : Int32)) (fun k42 => (if v4_15 < (32 : Int32) then k42 else (if (126 : Int32) < v4_15 then k42 else k38))))))))
def f_X7_addBytes (p1 : Int64) (σ : Mm) : Option (Int32 × Mm) := jn (fun (σ_88 : Mm) => some (0, σ_88)) (fun k88 => lq2 (F_X7_addBytes_3 p1 k88) 1000000 (56 : Int32) σ)
set_option maxHeartbeats 4000000 in
set_option maxRecDepth 100000 in
theorem x_X7_addBytes (p1 : Int64) (σ : Mm) : Con (wsOf SHC) yX7_addBytes cX7_addBytes 6 none 1 [.ref 1, .long p1] σ (f_X7_addBytes p1 σ) := by
  refine Con.of_X (by decide +kernel) (Nat.le_of_ble_eq_true rfl) ?_
  unfold f_X7_addBytes
  show X (wsOf SHC) RX7 cX7_addBytes 6 none 1 0 0 [(0, .ref 1), (1, .long p1)] [] σ _
  refine X_bipush (v := (56 : Int32)) (pc := 0) (td kX7_addBytes 0 rfl) (by decide) ?_
  refine X_istore_n (L' := [(3, .int (56 : Int32)), (0, .ref 1), (1, .long p1)]) (pc := 2) (td kX7_addBytes 1 rfl) rfl (by decide) rfl ?_
  refine X_jn (P := fun k => ∀ (σ_88 : Mm), X (wsOf SHC) RX7 cX7_addBytes 6 none 1 0 88 [] [] σ_88 (k σ_88)) (fun σ_88 => ?_) (fun k88 h88 => ?_)
  · exact X_retv (pc := 88) (td kX7_addBytes 45 rfl)
  · refine X_sub [1, 2, 0] rfl ?_
    refine lq2_ind (P := fun x3_3 σ_3 E => X (wsOf SHC) RX7 cX7_addBytes 6 none 1 0 3 [(0, .ref 1), (1, .long p1), (3, .int x3_3)] [] σ_3 E) (fun _ _ => X_none) (fun rec3 hrec3 x3_3 σ_3 => ?_) _ _ _
    unfold F_X7_addBytes_3
    refine X_iload_n (pc := 3) (td kX7_addBytes 2 rfl) rfl 2 rfl ?_
    refine X_if_lt (pc := 4) (tgt := 88) (td kX7_addBytes 3 rfl) (by decide) (fun c_4 => ?_) (fun c_4 => ?_)
    · refine X_sub [] rfl ?_
      exact h88 σ_3
    · refine X_lload_n (pc := 7) (td kX7_addBytes 4 rfl) rfl 1 rfl ?_
      refine X_iload_n (pc := 8) (td kX7_addBytes 5 rfl) rfl 2 rfl ?_
      refine X_lushr (pc := 9) (td kX7_addBytes 6 rfl) ?_
      refine X_ldc2 (v := (255 : Int64)) (pc := 10) (td kX7_addBytes 7 rfl) cn_X7_13 ?_
      refine X_land (pc := 13) (td kX7_addBytes 8 rfl) ?_
      refine X_l2i (pc := 14) (td kX7_addBytes 9 rfl) ?_
      refine X_bi (fun v4_15 => ?_)
      refine X_istore (L' := [(4, .int v4_15), (0, .ref 1), (1, .long p1), (3, .int x3_3)]) (pc := 15) (td kX7_addBytes 10 rfl) (by decide) rfl ?_
      refine X_iload (pc := 17) (td kX7_addBytes 11 rfl) 0 rfl ?_
      refine X_bipush (v := (10 : Int32)) (pc := 19) (td kX7_addBytes 12 rfl) (by decide) ?_
      refine X_jn (P := fun k => ∀ (y0_43 : Int32), X (wsOf SHC) RX7 cX7_addBytes 6 none 1 0 43 [(0, .ref 1), (1, .long p1), (3, .int x3_3), (4, .int v4_15)] [.int y0_43] σ_3 (k y0_43)) (fun y0_43 => ?_) (fun k43 h43 => ?_)
      · refine X_istore (L' := [(5, .int y0_43), (0, .ref 1), (1, .long p1), (3, .int x3_3), (4, .int v4_15)]) (pc := 43) (td kX7_addBytes 23 rfl) (by decide) rfl ?_
        refine X_iload (pc := 45) (td kX7_addBytes 24 rfl) 0 rfl ?_
        refine X_jn (P := fun k => ∀ (σ_82 : Mm), X (wsOf SHC) RX7 cX7_addBytes 6 none 1 0 82 [(0, .ref 1), (1, .long p1), (3, .int x3_3)] [] σ_82 (k σ_82)) (fun σ_82 => ?_) (fun k82 h82 => ?_)
        · refine X_iinc (v := (x3_3 + (-8 : Int32))) (L' := [(3, .int (x3_3 + (-8 : Int32))), (0, .ref 1), (1, .long p1)]) (pc := 82) (td kX7_addBytes 43 rfl) 2 rfl rfl (by decide) rfl ?_
          refine X_goto (pc := 85) (tgt := 3) (td kX7_addBytes 44 rfl) (by decide) ?_
          refine X_sub [1, 2, 0] rfl ?_
          exact hrec3 (x3_3 + (-8 : Int32)) σ_82
        · refine X_if_eq (pc := 47) (tgt := 82) (td kX7_addBytes 25 rfl) (by decide) (fun c_47 => ?_) (fun c_47 => ?_)
          · refine X_sub [1, 2, 3] rfl ?_
            exact h82 σ_3
          · refine X_aload_n (pc := 50) (td kX7_addBytes 26 rfl) rfl 1 rfl ?_
            refine X_getI (pc := 51) sC_1 rfl fk_X7_15 (td kX7_addBytes 27 rfl) ?_
            refine X_sipush (v := (1000 : Int32)) (pc := 54) (td kX7_addBytes 28 rfl) (by decide) ?_
            refine X_icmp_ge (pc := 57) (tgt := 82) (td kX7_addBytes 29 rfl) (by decide) (fun c_57 => ?_) (fun c_57 => ?_)
            · refine X_sub [1, 2, 3] rfl ?_
              exact h82 σ_3
            · refine X_aload_n (pc := 60) (td kX7_addBytes 30 rfl) rfl 1 rfl ?_
              refine X_getF (b := 2) (pc := 61) sC_1 rfl fk_X7_9 (td kX7_addBytes 31 rfl) ?_
              refine X_aload_n (pc := 64) (td kX7_addBytes 32 rfl) rfl 1 rfl ?_
              refine X_getI (pc := 65) sC_1 rfl fk_X7_15 (td kX7_addBytes 33 rfl) ?_
              refine X_iload (pc := 68) (td kX7_addBytes 34 rfl) 4 rfl ?_
              refine X_i2b (pc := 70) (td kX7_addBytes 35 rfl) ?_
              refine X_bast (pc := 71) sC_2 (td kX7_addBytes 36 rfl) (fun σ71 => ?_)
              refine X_aload_n (pc := 72) (td kX7_addBytes 37 rfl) rfl 1 rfl ?_
              refine X_dup (pc := 73) (td kX7_addBytes 38 rfl) rfl ?_
              refine X_getI (pc := 74) sC_1 rfl fk_X7_15 (td kX7_addBytes 39 rfl) ?_
              refine X_iconst (v := (1 : Int32)) (pc := 77) (td kX7_addBytes 40 rfl) (by decide) ?_
              refine X_iadd (pc := 78) (td kX7_addBytes 41 rfl) ?_
              refine X_putI (pc := 79) sC_1 rfl fk_X7_15 rfl rfl (td kX7_addBytes 42 rfl) (fun σ79 => ?_)
              refine X_sub [1, 2, 3] rfl ?_
              exact h82 σ79
      · refine X_jn (P := fun k => X (wsOf SHC) RX7 cX7_addBytes 6 none 1 0 38 [(0, .ref 1), (1, .long p1), (3, .int x3_3), (4, .int v4_15)] [] σ_3 k) ?_ (fun k38 h38 => ?_)
        · refine X_iconst (v := (1 : Int32)) (pc := 38) (td kX7_addBytes 20 rfl) (by decide) ?_
          refine X_goto (pc := 39) (tgt := 43) (td kX7_addBytes 21 rfl) (by decide) ?_
          exact h43 (1 : Int32)
        · refine X_icmp_eq (pc := 21) (tgt := 38) (td kX7_addBytes 13 rfl) (by decide) (fun c_21 => ?_) (fun c_21 => ?_)
          · refine X_sub [1, 2, 3, 0] rfl ?_
            exact h38
          · refine X_iload (pc := 24) (td kX7_addBytes 14 rfl) 0 rfl ?_
            refine X_bipush (v := (32 : Int32)) (pc := 26) (td kX7_addBytes 15 rfl) (by decide) ?_
            refine X_jn (P := fun k => X (wsOf SHC) RX7 cX7_addBytes 6 none 1 0 42 [(0, .ref 1), (1, .long p1), (3, .int x3_3), (4, .int v4_15)] [] σ_3 k) ?_ (fun k42 h42 => ?_)
            · refine X_iconst (v := (0 : Int32)) (pc := 42) (td kX7_addBytes 22 rfl) (by decide) ?_
              exact h43 (0 : Int32)
            · refine X_icmp_lt (pc := 28) (tgt := 42) (td kX7_addBytes 16 rfl) (by decide) (fun c_28 => ?_) (fun c_28 => ?_)
              · refine X_sub [1, 2, 3, 0] rfl ?_
                exact h42
              · refine X_iload (pc := 31) (td kX7_addBytes 17 rfl) 0 rfl ?_
                refine X_bipush (v := (126 : Int32)) (pc := 33) (td kX7_addBytes 18 rfl) (by decide) ?_
                refine X_icmp_gt (pc := 35) (tgt := 42) (td kX7_addBytes 19 rfl) (by decide) (fun c_35 => ?_) (fun c_35 => ?_)
                · refine X_sub [1, 2, 3, 0] rfl ?_
                  exact h42
                · refine X_sub [1, 2, 3, 0] rfl ?_
                  exact h38
def f_X2_copyFrom (a0 : Nat) (b1 : Nat) (σ : Mm) : Option (Int32 × Mm) := ck (isLines a0) (ck (isLines b1) (bn (pI σ a0 0 (gI σ b1 0)) (fun σ5 => ck (fitB σ5 (b1 + 1) 40) (bn (pC σ5 (b1 + 1) 0 (a0 + 1) 0 40) (fun σ20 => ck (fitB σ20 (b1 + 2) 40) (bn (pC σ20 (b1 + 2) 0 (a0 + 2) 0 40) (fun σ35 => ck (fitB σ35 (b1 + 3) 40) (bn (pC σ35 (b1 + 3) 0 (a0 + 3) 0 40) (fun σ50 => some (0, σ50))))))))))
set_option maxHeartbeats 4000000 in
set_option maxRecDepth 100000 in
theorem x_X2_copyFrom (a0 : Nat) (b1 : Nat) (σ : Mm) : Con (wsOf SHC) yX2_copyFrom cX2_copyFrom 2 none 1 [.ref a0, .ref b1] σ (f_X2_copyFrom a0 b1 σ) := by
  refine Con.of_X (by decide +kernel) (Nat.le_of_ble_eq_true rfl) ?_
  unfold f_X2_copyFrom
  show X (wsOf SHC) RX2 cX2_copyFrom 2 none 1 0 0 [(0, .ref a0), (1, .ref b1)] [] σ _
  refine X_ck (fun a0_h => ?_)
  obtain ⟨a0_s0, a0_s1, a0_s2, a0_s3⟩ := knLines a0_h
  refine X_ck (fun b1_h => ?_)
  obtain ⟨b1_s0, b1_s1, b1_s2, b1_s3⟩ := knLines b1_h
  refine X_aload_n (pc := 0) (td kX2_copyFrom 0 rfl) rfl 0 rfl ?_
  refine X_aload_n (pc := 1) (td kX2_copyFrom 1 rfl) rfl 1 rfl ?_
  refine X_getI (pc := 2) b1_s0 rfl fk_X2_19 (td kX2_copyFrom 2 rfl) ?_
  refine X_putI (pc := 5) a0_s0 rfl fk_X2_19 rfl rfl (td kX2_copyFrom 3 rfl) (fun σ5 => ?_)
  refine X_aload_n (pc := 8) (td kX2_copyFrom 4 rfl) rfl 1 rfl ?_
  refine X_getF (b := (b1 + 1)) (pc := 9) b1_s0 rfl fk_X2_9 (td kX2_copyFrom 5 rfl) ?_
  refine X_iconst (v := (0 : Int32)) (pc := 12) (td kX2_copyFrom 6 rfl) (by decide) ?_
  refine X_aload_n (pc := 13) (td kX2_copyFrom 7 rfl) rfl 0 rfl ?_
  refine X_getF (b := (a0 + 1)) (pc := 14) a0_s0 rfl fk_X2_9 (td kX2_copyFrom 8 rfl) ?_
  refine X_iconst (v := (0 : Int32)) (pc := 17) (td kX2_copyFrom 9 rfl) (by decide) ?_
  refine X_bipush (v := (40 : Int32)) (pc := 18) (td kX2_copyFrom 10 rfl) (by decide) ?_
  refine X_ck (fun f_20 => ?_)
  refine X_acpy (pc := 20) 2 (fun _ => rfl) rfl rfl b1_s1 a0_s1 (by decide) (by decide) (by decide) (by decide) (by decide) (fitB_at f_20) lm_X2_23 (by omega) (Nat.le_of_ble_eq_true rfl) (td kX2_copyFrom 11 rfl) (fun σ20 => ?_)
  refine X_aload_n (pc := 23) (td kX2_copyFrom 12 rfl) rfl 1 rfl ?_
  refine X_getF (b := (b1 + 2)) (pc := 24) b1_s0 rfl fk_X2_13 (td kX2_copyFrom 13 rfl) ?_
  refine X_iconst (v := (0 : Int32)) (pc := 27) (td kX2_copyFrom 14 rfl) (by decide) ?_
  refine X_aload_n (pc := 28) (td kX2_copyFrom 15 rfl) rfl 0 rfl ?_
  refine X_getF (b := (a0 + 2)) (pc := 29) a0_s0 rfl fk_X2_13 (td kX2_copyFrom 16 rfl) ?_
  refine X_iconst (v := (0 : Int32)) (pc := 32) (td kX2_copyFrom 17 rfl) (by decide) ?_
  refine X_bipush (v := (40 : Int32)) (pc := 33) (td kX2_copyFrom 18 rfl) (by decide) ?_
  refine X_ck (fun f_35 => ?_)
  refine X_acpy (pc := 35) 2 (fun _ => rfl) rfl rfl b1_s2 a0_s2 (by decide) (by decide) (by decide) (by decide) (by decide) (fitB_at f_35) lm_X2_23 (by omega) (Nat.le_of_ble_eq_true rfl) (td kX2_copyFrom 19 rfl) (fun σ35 => ?_)
  refine X_aload_n (pc := 38) (td kX2_copyFrom 20 rfl) rfl 1 rfl ?_
  refine X_getF (b := (b1 + 3)) (pc := 39) b1_s0 rfl fk_X2_16 (td kX2_copyFrom 21 rfl) ?_
  refine X_iconst (v := (0 : Int32)) (pc := 42) (td kX2_copyFrom 22 rfl) (by decide) ?_
  refine X_aload_n (pc := 43) (td kX2_copyFrom 23 rfl) rfl 0 rfl ?_
  refine X_getF (b := (a0 + 3)) (pc := 44) a0_s0 rfl fk_X2_16 (td kX2_copyFrom 24 rfl) ?_
  refine X_iconst (v := (0 : Int32)) (pc := 47) (td kX2_copyFrom 25 rfl) (by decide) ?_
  refine X_bipush (v := (40 : Int32)) (pc := 48) (td kX2_copyFrom 26 rfl) (by decide) ?_
  refine X_ck (fun f_50 => ?_)
  refine X_acpy (pc := 50) 2 (fun _ => rfl) rfl rfl b1_s3 a0_s3 (by decide) (by decide) (by decide) (by decide) (by decide) (fitB_at f_50) lm_X2_23 (by omega) (Nat.le_of_ble_eq_true rfl) (td kX2_copyFrom 27 rfl) (fun σ50 => ?_)
  exact X_retv (pc := 53) (td kX2_copyFrom 28 rfl)
def f_X1_add (a0 : Nat) (p1 : Int32) (σ : Mm) : Option (Int32 × Mm) := ck (isLaw a0) ((if (gI σ a0 2) < (1000 : Int32) then ck (inb (gI σ a0 2) 1000) (bn (pI σ (a0 + 1) (gI σ a0 2).toNatClampNeg (vp_nar .short p1.toInt16.toInt32)) (fun σ22 => bn (pI σ22 a0 2 ((gI σ22 a0 2) + (1 : Int32))) (fun σ30 => some (0, σ30)))) else some (0, σ)))
set_option maxHeartbeats 4000000 in
set_option maxRecDepth 100000 in
theorem x_X1_add (a0 : Nat) (p1 : Int32) (σ : Mm) : Con (wsOf SHC) yX1_add cX1_add 2 none 1 [.ref a0, .int p1] σ (f_X1_add a0 p1 σ) := by
  refine Con.of_X (by decide +kernel) (Nat.le_of_ble_eq_true rfl) ?_
  unfold f_X1_add
  show X (wsOf SHC) RX1 cX1_add 2 none 1 0 0 [(0, .ref a0), (1, .int p1)] [] σ _
  refine X_ck (fun a0_h => ?_)
  obtain ⟨a0_s0, a0_s1, a0_s2⟩ := knLaw a0_h
  refine X_aload_n (pc := 0) (td kX1_add 0 rfl) rfl 0 rfl ?_
  refine X_getI (pc := 1) a0_s0 rfl fk_X1_19 (td kX1_add 1 rfl) ?_
  refine X_aload_n (pc := 4) (td kX1_add 2 rfl) rfl 0 rfl ?_
  refine X_getF (b := (a0 + 1)) (pc := 5) a0_s0 rfl fk_X1_9 (td kX1_add 3 rfl) ?_
  refine X_alen (v := (1000 : Int32)) (pc := 8) 3 (fun _ => rfl) a0_s1 (fun _ => rfl) (td kX1_add 4 rfl) ?_
  refine X_icmp_ge (pc := 9) (tgt := 33) (td kX1_add 5 rfl) (by decide) (fun c_9 => ?_) (fun c_9 => ?_)
  · exact X_retv (pc := 33) (td kX1_add 19 rfl)
  · refine X_aload_n (pc := 12) (td kX1_add 6 rfl) rfl 0 rfl ?_
    refine X_getF (b := (a0 + 1)) (pc := 13) a0_s0 rfl fk_X1_9 (td kX1_add 7 rfl) ?_
    refine X_aload_n (pc := 16) (td kX1_add 8 rfl) rfl 0 rfl ?_
    refine X_getI (pc := 17) a0_s0 rfl fk_X1_19 (td kX1_add 9 rfl) ?_
    refine X_iload_n (pc := 20) (td kX1_add 10 rfl) rfl 1 rfl ?_
    refine X_i2s (pc := 21) (td kX1_add 11 rfl) ?_
    refine X_sast (pc := 22) a0_s1 (td kX1_add 12 rfl) (fun σ22 => ?_)
    refine X_aload_n (pc := 23) (td kX1_add 13 rfl) rfl 0 rfl ?_
    refine X_dup (pc := 24) (td kX1_add 14 rfl) rfl ?_
    refine X_getI (pc := 25) a0_s0 rfl fk_X1_19 (td kX1_add 15 rfl) ?_
    refine X_iconst (v := (1 : Int32)) (pc := 28) (td kX1_add 16 rfl) (by decide) ?_
    refine X_iadd (pc := 29) (td kX1_add 17 rfl) ?_
    refine X_putI (pc := 30) a0_s0 rfl fk_X1_19 rfl rfl (td kX1_add 18 rfl) (fun σ30 => ?_)
    exact X_retv (pc := 33) (td kX1_add 19 rfl)
