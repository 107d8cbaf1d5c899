def F_X12_goesHome_117 (k158 : Mm → Option (Int32 × Mm)) (rec117 : Int32 → Mm → Option (Int32 × Mm)) (x1_117 : Int32) (σ_117 : Mm) : Option (Int32 × Mm) := ck (inb (1 : Int32) 8) ((if x1_117 < (gI σ_117 2 (1 : Int32).toNatClampNeg) then ck (inb x1_117 8) (jn (fun (y2_148 : Int32) => bn (pI σ_117 0 63 ((gI σ_117 0 63) ||| y2_148)) (fun σ149 => rec117 (x1_117 + (1 : Int32)) σ149)) (fun k148 => (if 0 < (gI σ_117 42 x1_117.toNatClampNeg) then k148 ((1 : Int32) <<< (x1_117 &&& 31)) else k148 (0 : Int32)))) else k158 σ_117))
def J_X12_goesHome_115 (rec53 : Mm → Option (Int32 × Mm)) (σ_115 : Mm) : Option (Int32 × Mm) := jn (fun (σ_158 : Mm) => bn (pI σ_158 0 60 ((gI σ_158 0 60) + (1 : Int32))) (fun σ165 => cl (f_X12_notes (gI σ165 0 60) σ165) (fun _ σ173 => bn (gI σ173 0 60) (fun i_189 => ck (inb i_189 100) (cl (f_X12_bits (gI σ173 46 i_189.toNatClampNeg) σ173) (fun r190 _ => bn (pI σ173 0 62 ((gI σ173 0 62) + r190)) (fun σ194 => rec53 σ194))))))) (fun k158 => lq2 (F_X12_goesHome_117 k158) 1000000 (0 : Int32) σ_115)
def F_X12_goesHome_84 (k115 : Mm → Option (Int32 × Mm)) (rec84 : Int32 → Mm → Option (Int32 × Mm)) (x1_84 : Int32) (σ_84 : Mm) : Option (Int32 × Mm) := ck (inb (2 : Int32) 8) ((if x1_84 < (gI σ_84 2 (2 : Int32).toNatClampNeg) then ck (inb x1_84 6) (ck (inb x1_84 6) (ck (inb x1_84 6) (bn (pI σ_84 44 x1_84.toNatClampNeg ((gI σ_84 44 x1_84.toNatClampNeg) + (gI σ_84 43 x1_84.toNatClampNeg))) (fun σ108 => rec84 (x1_84 + (1 : Int32)) σ108)))) else k115 σ_84))
def F_X12_goesHome_53 (k200 : Mm → Option (Int32 × Mm)) (rec53 : Mm → Option (Int32 × Mm)) (σ_53 : Mm) : Option (Int32 × Mm) := (if (gI σ_53 0 60) < (99 : Int32) then cl (f_X12_areAllHome σ_53) (fun r63 _ => (if r63 = 0 then cl (f_X12_passes σ_53) (fun r75 σ75 => bn (pI σ75 0 61 ((gI σ_53 0 61) + r75)) (fun σ79 => jn (J_X12_goesHome_115 rec53) (fun k115 => lq2 (F_X12_goesHome_84 k115) 1000000 (0 : Int32) σ79))) else k200 σ_53)) else k200 σ_53)
def F_X12_goesHome_22 (k48 : Mm → Option (Int32 × Mm)) (rec22 : Int32 → Mm → Option (Int32 × Mm)) (x1_22 : Int32) (σ_22 : Mm) : Option (Int32 × Mm) := (if x1_22 < (6 : Int32) then ck (inb x1_22 6) (bn (pI σ_22 44 x1_22.toNatClampNeg (0 : Int32)) (fun σ34 => ck (inb x1_22 6) (bn (pI σ34 45 x1_22.toNatClampNeg (-1 : Int32)) (fun σ41 => rec22 (x1_22 + (1 : Int32)) σ41)))) else k48 σ_22)
def f_X12_goesHome (σ : Mm) : Option (Int32 × Mm) := bn (pI σ 0 60 (0 : Int32)) (fun σ2 => bn (pI σ2 0 61 (0 : Int32)) (fun σ7 => bn (pI σ7 0 62 (0 : Int32)) (fun σ12 => bn (pI σ12 0 63 (0 : Int32)) (fun σ17 => jn (fun (σ_48 : Mm) => cl (f_X12_notes (0 : Int32) σ_48) (fun _ σ50 => jn (fun (σ_200 : Mm) => some (0, σ_200)) (fun k200 => lq1 (F_X12_goesHome_53 k200) 1000000 σ50))) (fun k48 => lq2 (F_X12_goesHome_22 k48) 1000000 (0 : Int32) σ17)))))
set_option maxHeartbeats 4000000 in
set_option maxRecDepth 100000 in
theorem x_X12_goesHome (σ : Mm) : Con (wsOf SHM) yX12_goesHome cX12_goesHome 2 none 6 [.ref 0] σ (f_X12_goesHome σ) := by
  refine Con.of_X (by decide +kernel) (Nat.le_of_ble_eq_true rfl) ?_
  unfold f_X12_goesHome
  show X (wsOf SHM) RX12 cX12_goesHome 2 none 6 0 0 [(0, .ref 0)] [] σ _
  refine X_aload_n (pc := 0) (td kX12_goesHome 0 rfl) rfl 0 rfl ?_
  refine X_iconst (v := (0 : Int32)) (pc := 1) (td kX12_goesHome 1 rfl) (by decide) ?_
  refine X_putI (pc := 2) sM_0 rfl fk_X12_454 rfl rfl (td kX12_goesHome 2 rfl) (fun σ2 => ?_)
  refine X_aload_n (pc := 5) (td kX12_goesHome 3 rfl) rfl 0 rfl ?_
  refine X_iconst (v := (0 : Int32)) (pc := 6) (td kX12_goesHome 4 rfl) (by decide) ?_
  refine X_putI (pc := 7) sM_0 rfl fk_X12_457 rfl rfl (td kX12_goesHome 5 rfl) (fun σ7 => ?_)
  refine X_aload_n (pc := 10) (td kX12_goesHome 6 rfl) rfl 0 rfl ?_
  refine X_iconst (v := (0 : Int32)) (pc := 11) (td kX12_goesHome 7 rfl) (by decide) ?_
  refine X_putI (pc := 12) sM_0 rfl fk_X12_460 rfl rfl (td kX12_goesHome 8 rfl) (fun σ12 => ?_)
  refine X_aload_n (pc := 15) (td kX12_goesHome 9 rfl) rfl 0 rfl ?_
  refine X_iconst (v := (0 : Int32)) (pc := 16) (td kX12_goesHome 10 rfl) (by decide) ?_
  refine X_putI (pc := 17) sM_0 rfl fk_X12_463 rfl rfl (td kX12_goesHome 11 rfl) (fun σ17 => ?_)
  refine X_iconst (v := (0 : Int32)) (pc := 20) (td kX12_goesHome 12 rfl) (by decide) ?_
  refine X_istore_n (L' := [(1, .int (0 : Int32)), (0, .ref 0)]) (pc := 21) (td kX12_goesHome 13 rfl) rfl (by decide) rfl ?_
  refine X_jn (P := fun k => ∀ (σ_48 : Mm), X (wsOf SHM) RX12 cX12_goesHome 2 none 6 0 48 [(0, .ref 0)] [] σ_48 (k σ_48)) (fun σ_48 => ?_) (fun k48 h48 => ?_)
  · refine X_aload_n (pc := 48) (td kX12_goesHome 29 rfl) rfl 0 rfl ?_
    refine X_iconst (v := (0 : Int32)) (pc := 49) (td kX12_goesHome 30 rfl) (by decide) ?_
    refine X_callv (pc := 50) (As := [.int (0 : Int32)]) (st := []) sM_0 (x_X12_notes (0 : Int32) σ_48) mkX12_notes lk_X12_466 (by omega) rfl rfl (Nat.le_of_ble_eq_true rfl) (td kX12_goesHome 31 rfl) (fun _ σ50 _ => ?_)
    refine X_jn (P := fun k => ∀ (σ_200 : Mm), X (wsOf SHM) RX12 cX12_goesHome 2 none 6 0 200 [] [] σ_200 (k σ_200)) (fun σ_200 => ?_) (fun k200 h200 => ?_)
    · exact X_retv (pc := 200) (td kX12_goesHome 114 rfl)
    · refine lq1_ind (P := fun σ_53 E => X (wsOf SHM) RX12 cX12_goesHome 2 none 6 0 53 [(0, .ref 0)] [] σ_53 E) (fun _ => X_none) (fun rec53 hrec53 σ_53 => ?_) _ _
      unfold F_X12_goesHome_53
      refine X_aload_n (pc := 53) (td kX12_goesHome 32 rfl) rfl 0 rfl ?_
      refine X_getI (pc := 54) sM_0 rfl fk_X12_454 (td kX12_goesHome 33 rfl) ?_
      refine X_bipush (v := (99 : Int32)) (pc := 57) (td kX12_goesHome 34 rfl) (by decide) ?_
      refine X_icmp_ge (pc := 59) (tgt := 200) (td kX12_goesHome 35 rfl) (by decide) (fun c_59 => ?_) (fun c_59 => ?_)
      · refine X_sub [] rfl ?_
        exact h200 σ_53
      · refine X_aload_n (pc := 62) (td kX12_goesHome 36 rfl) rfl 0 rfl ?_
        refine X_callip (pc := 63) (As := []) (st := []) (p_X12_areAllHome σ_53) sM_0 (x_X12_areAllHome σ_53) mkX12_areAllHome lk_X12_469 (by omega) rfl rfl (Nat.le_of_ble_eq_true rfl) (td kX12_goesHome 37 rfl) (fun r63 hr63 => ?_)
        refine X_if_ne (pc := 66) (tgt := 200) (td kX12_goesHome 38 rfl) (by decide) (fun c_66 => ?_) (fun c_66 => ?_)
        · refine X_sub [] rfl ?_
          exact h200 σ_53
        · refine X_aload_n (pc := 69) (td kX12_goesHome 39 rfl) rfl 0 rfl ?_
          refine X_dup (pc := 70) (td kX12_goesHome 40 rfl) rfl ?_
          refine X_getI (pc := 71) sM_0 rfl fk_X12_457 (td kX12_goesHome 41 rfl) ?_
          refine X_aload_n (pc := 74) (td kX12_goesHome 42 rfl) rfl 0 rfl ?_
          refine X_calli (pc := 75) (As := []) (st := [.int (gI σ_53 0 61), .ref 0]) sM_0 (x_X12_passes σ_53) mkX12_passes lk_X12_436 (by omega) rfl rfl (Nat.le_of_ble_eq_true rfl) (td kX12_goesHome 43 rfl) (fun r75 σ75 _ hr75 => ?_)
          refine X_iadd (pc := 78) (td kX12_goesHome 44 rfl) ?_
          refine X_putI (pc := 79) sM_0 rfl fk_X12_457 rfl rfl (td kX12_goesHome 45 rfl) (fun σ79 => ?_)
          refine X_iconst (v := (0 : Int32)) (pc := 82) (td kX12_goesHome 46 rfl) (by decide) ?_
          refine X_istore_n (L' := [(1, .int (0 : Int32)), (0, .ref 0)]) (pc := 83) (td kX12_goesHome 47 rfl) rfl (by decide) rfl ?_
          refine X_jn (P := fun k => ∀ (σ_115 : Mm), X (wsOf SHM) RX12 cX12_goesHome 2 none 6 0 115 [(0, .ref 0)] [] σ_115 (k σ_115)) (fun σ_115 => ?_) (fun k115 h115 => ?_)
          · unfold J_X12_goesHome_115
            refine X_iconst (v := (0 : Int32)) (pc := 115) (td kX12_goesHome 67 rfl) (by decide) ?_
            refine X_istore_n (L' := [(1, .int (0 : Int32)), (0, .ref 0)]) (pc := 116) (td kX12_goesHome 68 rfl) rfl (by decide) rfl ?_
            refine X_jn (P := fun k => ∀ (σ_158 : Mm), X (wsOf SHM) RX12 cX12_goesHome 2 none 6 0 158 [(0, .ref 0)] [] σ_158 (k σ_158)) (fun σ_158 => ?_) (fun k158 h158 => ?_)
            · refine X_aload_n (pc := 158) (td kX12_goesHome 92 rfl) rfl 0 rfl ?_
              refine X_dup (pc := 159) (td kX12_goesHome 93 rfl) rfl ?_
              refine X_getI (pc := 160) sM_0 rfl fk_X12_454 (td kX12_goesHome 94 rfl) ?_
              refine X_iconst (v := (1 : Int32)) (pc := 163) (td kX12_goesHome 95 rfl) (by decide) ?_
              refine X_iadd (pc := 164) (td kX12_goesHome 96 rfl) ?_
              refine X_putI (pc := 165) sM_0 rfl fk_X12_454 rfl rfl (td kX12_goesHome 97 rfl) (fun σ165 => ?_)
              refine X_aload_n (pc := 168) (td kX12_goesHome 98 rfl) rfl 0 rfl ?_
              refine X_aload_n (pc := 169) (td kX12_goesHome 99 rfl) rfl 0 rfl ?_
              refine X_getI (pc := 170) sM_0 rfl fk_X12_454 (td kX12_goesHome 100 rfl) ?_
              refine X_callv (pc := 173) (As := [.int (gI σ165 0 60)]) (st := []) sM_0 (x_X12_notes (gI σ165 0 60) σ165) mkX12_notes lk_X12_466 (by omega) rfl rfl (Nat.le_of_ble_eq_true rfl) (td kX12_goesHome 101 rfl) (fun _ σ173 _ => ?_)
              refine X_aload_n (pc := 176) (td kX12_goesHome 102 rfl) rfl 0 rfl ?_
              refine X_dup (pc := 177) (td kX12_goesHome 103 rfl) rfl ?_
              refine X_getI (pc := 178) sM_0 rfl fk_X12_460 (td kX12_goesHome 104 rfl) ?_
              refine X_aload_n (pc := 181) (td kX12_goesHome 105 rfl) rfl 0 rfl ?_
              refine X_getF (b := 46) (pc := 182) sM_0 rfl fk_X12_151 (td kX12_goesHome 106 rfl) ?_
              refine X_aload_n (pc := 185) (td kX12_goesHome 107 rfl) rfl 0 rfl ?_
              refine X_getI (pc := 186) sM_0 rfl fk_X12_454 (td kX12_goesHome 108 rfl) ?_
              refine X_bi (fun i_189 => ?_)
              refine X_iald (pc := 189) sM_46 (td kX12_goesHome 109 rfl) ?_
              refine X_callsip (pc := 190) (As := [.int (gI σ173 46 i_189.toNatClampNeg)]) (st := [.int (gI σ173 0 62), .ref 0]) (p_X12_bits (gI σ173 46 i_189.toNatClampNeg) σ173) (x_X12_bits (gI σ173 46 i_189.toNatClampNeg) σ173) mkX12_bits lk_X12_472 (by omega) rfl rfl (Nat.le_of_ble_eq_true rfl) (td kX12_goesHome 110 rfl) (fun r190 hr190 => ?_)
              refine X_iadd (pc := 193) (td kX12_goesHome 111 rfl) ?_
              refine X_putI (pc := 194) sM_0 rfl fk_X12_460 rfl rfl (td kX12_goesHome 112 rfl) (fun σ194 => ?_)
              refine X_goto (pc := 197) (tgt := 53) (td kX12_goesHome 113 rfl) (by decide) ?_
              exact hrec53 σ194
            · refine X_sub [1, 0] rfl ?_
              refine lq2_ind (P := fun x1_117 σ_117 E => X (wsOf SHM) RX12 cX12_goesHome 2 none 6 0 117 [(0, .ref 0), (1, .int x1_117)] [] σ_117 E) (fun _ _ => X_none) (fun rec117 hrec117 x1_117 σ_117 => ?_) _ _ _
              unfold F_X12_goesHome_117
              refine X_iload_n (pc := 117) (td kX12_goesHome 69 rfl) rfl 1 rfl ?_
              refine X_aload_n (pc := 118) (td kX12_goesHome 70 rfl) rfl 0 rfl ?_
              refine X_getF (b := 2) (pc := 119) sM_0 rfl fk_X12_13 (td kX12_goesHome 71 rfl) ?_
              refine X_iconst (v := (1 : Int32)) (pc := 122) (td kX12_goesHome 72 rfl) (by decide) ?_
              refine X_iald (pc := 123) sM_2 (td kX12_goesHome 73 rfl) ?_
              refine X_icmp_ge (pc := 124) (tgt := 158) (td kX12_goesHome 74 rfl) (by decide) (fun c_124 => ?_) (fun c_124 => ?_)
              · refine X_sub [0] rfl ?_
                exact h158 σ_117
              · refine X_aload_n (pc := 127) (td kX12_goesHome 75 rfl) rfl 0 rfl ?_
                refine X_dup (pc := 128) (td kX12_goesHome 76 rfl) rfl ?_
                refine X_getI (pc := 129) sM_0 rfl fk_X12_463 (td kX12_goesHome 77 rfl) ?_
                refine X_aload_n (pc := 132) (td kX12_goesHome 78 rfl) rfl 0 rfl ?_
                refine X_getF (b := 42) (pc := 133) sM_0 rfl fk_X12_139 (td kX12_goesHome 79 rfl) ?_
                refine X_iload_n (pc := 136) (td kX12_goesHome 80 rfl) rfl 1 rfl ?_
                refine X_iald (pc := 137) sM_42 (td kX12_goesHome 81 rfl) ?_
                refine X_jn (P := fun k => ∀ (y2_148 : Int32), X (wsOf SHM) RX12 cX12_goesHome 2 none 6 0 148 [(0, .ref 0), (1, .int x1_117)] [.int y2_148, .int (gI σ_117 0 63), .ref 0] σ_117 (k y2_148)) (fun y2_148 => ?_) (fun k148 h148 => ?_)
                · refine X_ior (pc := 148) (td kX12_goesHome 88 rfl) ?_
                  refine X_putI (pc := 149) sM_0 rfl fk_X12_463 rfl rfl (td kX12_goesHome 89 rfl) (fun σ149 => ?_)
                  refine X_iinc (v := (x1_117 + (1 : Int32))) (L' := [(1, .int (x1_117 + (1 : Int32))), (0, .ref 0)]) (pc := 152) (td kX12_goesHome 90 rfl) 1 rfl rfl (by decide) rfl ?_
                  refine X_goto (pc := 155) (tgt := 117) (td kX12_goesHome 91 rfl) (by decide) ?_
                  refine X_sub [1, 0] rfl ?_
                  exact hrec117 (x1_117 + (1 : Int32)) σ149
                · refine X_if_le (pc := 138) (tgt := 147) (td kX12_goesHome 82 rfl) (by decide) (fun c_138 => ?_) (fun c_138 => ?_)
                  · refine X_iconst (v := (0 : Int32)) (pc := 147) (td kX12_goesHome 87 rfl) (by decide) ?_
                    exact h148 (0 : Int32)
                  · refine X_iconst (v := (1 : Int32)) (pc := 141) (td kX12_goesHome 83 rfl) (by decide) ?_
                    refine X_iload_n (pc := 142) (td kX12_goesHome 84 rfl) rfl 1 rfl ?_
                    refine X_ishl (pc := 143) (td kX12_goesHome 85 rfl) ?_
                    refine X_goto (pc := 144) (tgt := 148) (td kX12_goesHome 86 rfl) (by decide) ?_
                    exact h148 ((1 : Int32) <<< (x1_117 &&& 31))
          · refine X_sub [1, 0] rfl ?_
            refine lq2_ind (P := fun x1_84 σ_84 E => X (wsOf SHM) RX12 cX12_goesHome 2 none 6 0 84 [(0, .ref 0), (1, .int x1_84)] [] σ_84 E) (fun _ _ => X_none) (fun rec84 hrec84 x1_84 σ_84 => ?_) _ _ _
            unfold F_X12_goesHome_84
            refine X_iload_n (pc := 84) (td kX12_goesHome 48 rfl) rfl 1 rfl ?_
            refine X_aload_n (pc := 85) (td kX12_goesHome 49 rfl) rfl 0 rfl ?_
            refine X_getF (b := 2) (pc := 86) sM_0 rfl fk_X12_13 (td kX12_goesHome 50 rfl) ?_
            refine X_iconst (v := (2 : Int32)) (pc := 89) (td kX12_goesHome 51 rfl) (by decide) ?_
            refine X_iald (pc := 90) sM_2 (td kX12_goesHome 52 rfl) ?_
            refine X_icmp_ge (pc := 91) (tgt := 115) (td kX12_goesHome 53 rfl) (by decide) (fun c_91 => ?_) (fun c_91 => ?_)
            · refine X_sub [0] rfl ?_
              exact h115 σ_84
            · refine X_aload_n (pc := 94) (td kX12_goesHome 54 rfl) rfl 0 rfl ?_
              refine X_getF (b := 44) (pc := 95) sM_0 rfl fk_X12_145 (td kX12_goesHome 55 rfl) ?_
              refine X_iload_n (pc := 98) (td kX12_goesHome 56 rfl) rfl 1 rfl ?_
              refine X_dup2 (pc := 99) (td kX12_goesHome 57 rfl) rfl rfl ?_
              refine X_iald (pc := 100) sM_44 (td kX12_goesHome 58 rfl) ?_
              refine X_aload_n (pc := 101) (td kX12_goesHome 59 rfl) rfl 0 rfl ?_
              refine X_getF (b := 43) (pc := 102) sM_0 rfl fk_X12_142 (td kX12_goesHome 60 rfl) ?_
              refine X_iload_n (pc := 105) (td kX12_goesHome 61 rfl) rfl 1 rfl ?_
              refine X_iald (pc := 106) sM_43 (td kX12_goesHome 62 rfl) ?_
              refine X_iadd (pc := 107) (td kX12_goesHome 63 rfl) ?_
              refine X_iast (pc := 108) sM_44 (td kX12_goesHome 64 rfl) (fun σ108 => ?_)
              refine X_iinc (v := (x1_84 + (1 : Int32))) (L' := [(1, .int (x1_84 + (1 : Int32))), (0, .ref 0)]) (pc := 109) (td kX12_goesHome 65 rfl) 1 rfl rfl (by decide) rfl ?_
              refine X_goto (pc := 112) (tgt := 84) (td kX12_goesHome 66 rfl) (by decide) ?_
              refine X_sub [1, 0] rfl ?_
              exact hrec84 (x1_84 + (1 : Int32)) σ108
  · refine X_sub [1, 0] rfl ?_
    refine lq2_ind (P := fun x1_22 σ_22 E => X (wsOf SHM) RX12 cX12_goesHome 2 none 6 0 22 [(0, .ref 0), (1, .int x1_22)] [] σ_22 E) (fun _ _ => X_none) (fun rec22 hrec22 x1_22 σ_22 => ?_) _ _ _
    unfold F_X12_goesHome_22
    refine X_iload_n (pc := 22) (td kX12_goesHome 14 rfl) rfl 1 rfl ?_
    refine X_bipush (v := (6 : Int32)) (pc := 23) (td kX12_goesHome 15 rfl) (by decide) ?_
    refine X_icmp_ge (pc := 25) (tgt := 48) (td kX12_goesHome 16 rfl) (by decide) (fun c_25 => ?_) (fun c_25 => ?_)
    · refine X_sub [0] rfl ?_
      exact h48 σ_22
    · refine X_aload_n (pc := 28) (td kX12_goesHome 17 rfl) rfl 0 rfl ?_
      refine X_getF (b := 44) (pc := 29) sM_0 rfl fk_X12_145 (td kX12_goesHome 18 rfl) ?_
      refine X_iload_n (pc := 32) (td kX12_goesHome 19 rfl) rfl 1 rfl ?_
      refine X_iconst (v := (0 : Int32)) (pc := 33) (td kX12_goesHome 20 rfl) (by decide) ?_
      refine X_iast (pc := 34) sM_44 (td kX12_goesHome 21 rfl) (fun σ34 => ?_)
      refine X_aload_n (pc := 35) (td kX12_goesHome 22 rfl) rfl 0 rfl ?_
      refine X_getF (b := 45) (pc := 36) sM_0 rfl fk_X12_148 (td kX12_goesHome 23 rfl) ?_
      refine X_iload_n (pc := 39) (td kX12_goesHome 24 rfl) rfl 1 rfl ?_
      refine X_iconst (v := (-1 : Int32)) (pc := 40) (td kX12_goesHome 25 rfl) (by decide) ?_
      refine X_iast (pc := 41) sM_45 (td kX12_goesHome 26 rfl) (fun σ41 => ?_)
      refine X_iinc (v := (x1_22 + (1 : Int32))) (L' := [(1, .int (x1_22 + (1 : Int32))), (0, .ref 0)]) (pc := 42) (td kX12_goesHome 27 rfl) 1 rfl rfl (by decide) rfl ?_
      refine X_goto (pc := 45) (tgt := 22) (td kX12_goesHome 28 rfl) (by decide) ?_
      refine X_sub [1, 0] rfl ?_
      exact hrec22 (x1_22 + (1 : Int32)) σ41
def f_X12_tries (σ : Mm) : Option (Int32 × Mm) := cl (f_X12_copies 36 (0 : Int32) 38 (0 : Int32) σ) (fun _ σ10 => cl (f_X12_goesHome σ10) (fun _ σ14 => cl (f_X12_copies 38 (0 : Int32) 36 (0 : Int32) σ14) (fun _ σ27 => some (0, σ27))))
set_option maxHeartbeats 4000000 in
set_option maxRecDepth 100000 in
theorem x_X12_tries (σ : Mm) : Con (wsOf SHM) yX12_tries cX12_tries 1 none 7 [.ref 0] σ (f_X12_tries σ) := by
  refine Con.of_X (by decide +kernel) (Nat.le_of_ble_eq_true rfl) ?_
  unfold f_X12_tries
  show X (wsOf SHM) RX12 cX12_tries 1 none 7 0 0 [(0, .ref 0)] [] σ _
  refine X_aload_n (pc := 0) (td kX12_tries 0 rfl) rfl 0 rfl ?_
  refine X_getF (b := 36) (pc := 1) sM_0 rfl fk_X12_117 (td kX12_tries 1 rfl) ?_
  refine X_iconst (v := (0 : Int32)) (pc := 4) (td kX12_tries 2 rfl) (by decide) ?_
  refine X_aload_n (pc := 5) (td kX12_tries 3 rfl) rfl 0 rfl ?_
  refine X_getF (b := 38) (pc := 6) sM_0 rfl fk_X12_123 (td kX12_tries 4 rfl) ?_
  refine X_iconst (v := (0 : Int32)) (pc := 9) (td kX12_tries 5 rfl) (by decide) ?_
  refine X_callsv (pc := 10) (As := [.ref 36, .int (0 : Int32), .ref 38, .int (0 : Int32)]) (st := []) (x_X12_copies 36 (0 : Int32) 38 (0 : Int32) σ) mkX12_copies lk_X12_429 (by omega) rfl rfl (Nat.le_of_ble_eq_true rfl) (td kX12_tries 6 rfl) (fun _ σ10 _ => ?_)
  refine X_aload_n (pc := 13) (td kX12_tries 7 rfl) rfl 0 rfl ?_
  refine X_callv (pc := 14) (As := []) (st := []) sM_0 (x_X12_goesHome σ10) mkX12_goesHome lk_X12_475 (by omega) rfl rfl (Nat.le_of_ble_eq_true rfl) (td kX12_tries 8 rfl) (fun _ σ14 _ => ?_)
  refine X_aload_n (pc := 17) (td kX12_tries 9 rfl) rfl 0 rfl ?_
  refine X_getF (b := 38) (pc := 18) sM_0 rfl fk_X12_123 (td kX12_tries 10 rfl) ?_
  refine X_iconst (v := (0 : Int32)) (pc := 21) (td kX12_tries 11 rfl) (by decide) ?_
  refine X_aload_n (pc := 22) (td kX12_tries 12 rfl) rfl 0 rfl ?_
  refine X_getF (b := 36) (pc := 23) sM_0 rfl fk_X12_117 (td kX12_tries 13 rfl) ?_
  refine X_iconst (v := (0 : Int32)) (pc := 26) (td kX12_tries 14 rfl) (by decide) ?_
  refine X_callsv (pc := 27) (As := [.ref 38, .int (0 : Int32), .ref 36, .int (0 : Int32)]) (st := []) (x_X12_copies 38 (0 : Int32) 36 (0 : Int32) σ14) mkX12_copies lk_X12_429 (by omega) rfl rfl (Nat.le_of_ble_eq_true rfl) (td kX12_tries 15 rfl) (fun _ σ27 _ => ?_)
  exact X_retv (pc := 30) (td kX12_tries 16 rfl)
def f_X12_blind (σ : Mm) : Option (Int32 × Mm) := bn (pI σ 0 0 (0 : Int32)) (fun σ2 => cl (f_X12_tries σ2) (fun _ σ6 => ck (inb (1 : Int32) 8) (some (((((1 : Int32) <<< ((gI σ6 2 (1 : Int32).toNatClampNeg) &&& 31)) - (1 : Int32)) &&& ((gI σ6 0 63) ^^^ (-1 : Int32))), σ6))))
set_option maxHeartbeats 4000000 in
set_option maxRecDepth 100000 in
theorem x_X12_blind (σ : Mm) : Con (wsOf SHM) yX12_blind cX12_blind 1 (some .int) 8 [.ref 0] σ (f_X12_blind σ) := by
  refine Con.of_X (by decide +kernel) (Nat.le_of_ble_eq_true rfl) ?_
  unfold f_X12_blind
  show X (wsOf SHM) RX12 cX12_blind 1 (some .int) 8 0 0 [(0, .ref 0)] [] σ _
  refine X_aload_n (pc := 0) (td kX12_blind 0 rfl) rfl 0 rfl ?_
  refine X_iconst (v := (0 : Int32)) (pc := 1) (td kX12_blind 1 rfl) (by decide) ?_
  refine X_putI (pc := 2) sM_0 rfl fk_X12_169 rfl rfl (td kX12_blind 2 rfl) (fun σ2 => ?_)
  refine X_aload_n (pc := 5) (td kX12_blind 3 rfl) rfl 0 rfl ?_
  refine X_callv (pc := 6) (As := []) (st := []) sM_0 (x_X12_tries σ2) mkX12_tries lk_X12_478 (by omega) rfl rfl (Nat.le_of_ble_eq_true rfl) (td kX12_blind 4 rfl) (fun _ σ6 _ => ?_)
  refine X_iconst (v := (1 : Int32)) (pc := 9) (td kX12_blind 5 rfl) (by decide) ?_
  refine X_aload_n (pc := 10) (td kX12_blind 6 rfl) rfl 0 rfl ?_
  refine X_getF (b := 2) (pc := 11) sM_0 rfl fk_X12_13 (td kX12_blind 7 rfl) ?_
  refine X_iconst (v := (1 : Int32)) (pc := 14) (td kX12_blind 8 rfl) (by decide) ?_
  refine X_iald (pc := 15) sM_2 (td kX12_blind 9 rfl) ?_
  refine X_ishl (pc := 16) (td kX12_blind 10 rfl) ?_
  refine X_iconst (v := (1 : Int32)) (pc := 17) (td kX12_blind 11 rfl) (by decide) ?_
  refine X_isub (pc := 18) (td kX12_blind 12 rfl) ?_
  refine X_aload_n (pc := 19) (td kX12_blind 13 rfl) rfl 0 rfl ?_
  refine X_getI (pc := 20) sM_0 rfl fk_X12_463 (td kX12_blind 14 rfl) ?_
  refine X_iconst (v := (-1 : Int32)) (pc := 23) (td kX12_blind 15 rfl) (by decide) ?_
  refine X_ixor (pc := 24) (td kX12_blind 16 rfl) ?_
  refine X_iand (pc := 25) (td kX12_blind 17 rfl) ?_
  exact X_ret (pc := 26) (td kX12_blind 18 rfl) rfl
def f_X12_sends (p1 : Int32) (σ : Mm) : Option (Int32 × Mm) := bn ((3 : Int32) + p1) (fun i_16 => ck (inb i_16 41) (cl (f_X12_burnsBy p1 (gI σ 36 i_16.toNatClampNeg) (1 : Int32) σ) (fun r18 σ18 => ck (inb ((3 : Int32) + p1) 41) (bn (pI σ18 36 ((3 : Int32) + p1).toNatClampNeg r18) (fun σ21 => ck (inb (1 : Int32) 41) (ck (inb (3 : Int32) 8) (ck (inb (1 : Int32) 41) (bn (pI σ21 36 (1 : Int32).toNatClampNeg ((gI σ21 36 (1 : Int32).toNatClampNeg) + (gI σ21 2 (3 : Int32).toNatClampNeg))) (fun σ36 => some (0, σ36))))))))))
set_option maxHeartbeats 4000000 in
set_option maxRecDepth 100000 in
theorem x_X12_sends (p1 : Int32) (σ : Mm) : Con (wsOf SHM) yX12_sends cX12_sends 2 none 5 [.ref 0, .int p1] σ (f_X12_sends p1 σ) := by
  refine Con.of_X (by decide +kernel) (Nat.le_of_ble_eq_true rfl) ?_
  unfold f_X12_sends
  show X (wsOf SHM) RX12 cX12_sends 2 none 5 0 0 [(0, .ref 0), (1, .int p1)] [] σ _
  refine X_aload_n (pc := 0) (td kX12_sends 0 rfl) rfl 0 rfl ?_
  refine X_getF (b := 36) (pc := 1) sM_0 rfl fk_X12_117 (td kX12_sends 1 rfl) ?_
  refine X_iconst (v := (3 : Int32)) (pc := 4) (td kX12_sends 2 rfl) (by decide) ?_
  refine X_iload_n (pc := 5) (td kX12_sends 3 rfl) rfl 1 rfl ?_
  refine X_iadd (pc := 6) (td kX12_sends 4 rfl) ?_
  refine X_aload_n (pc := 7) (td kX12_sends 5 rfl) rfl 0 rfl ?_
  refine X_iload_n (pc := 8) (td kX12_sends 6 rfl) rfl 1 rfl ?_
  refine X_aload_n (pc := 9) (td kX12_sends 7 rfl) rfl 0 rfl ?_
  refine X_getF (b := 36) (pc := 10) sM_0 rfl fk_X12_117 (td kX12_sends 8 rfl) ?_
  refine X_iconst (v := (3 : Int32)) (pc := 13) (td kX12_sends 9 rfl) (by decide) ?_
  refine X_iload_n (pc := 14) (td kX12_sends 10 rfl) rfl 1 rfl ?_
  refine X_iadd (pc := 15) (td kX12_sends 11 rfl) ?_
  refine X_bi (fun i_16 => ?_)
  refine X_iald (pc := 16) sM_36 (td kX12_sends 12 rfl) ?_
  refine X_iconst (v := (1 : Int32)) (pc := 17) (td kX12_sends 13 rfl) (by decide) ?_
  refine X_calli (pc := 18) (As := [.int p1, .int (gI σ 36 i_16.toNatClampNeg), .int (1 : Int32)]) (st := [.int ((3 : Int32) + p1), .ref 36]) sM_0 (x_X12_burnsBy p1 (gI σ 36 i_16.toNatClampNeg) (1 : Int32) σ) mkX12_burnsBy lk_X12_417 (by omega) rfl rfl (Nat.le_of_ble_eq_true rfl) (td kX12_sends 14 rfl) (fun r18 σ18 _ hr18 => ?_)
  refine X_iast (pc := 21) sM_36 (td kX12_sends 15 rfl) (fun σ21 => ?_)
  refine X_aload_n (pc := 22) (td kX12_sends 16 rfl) rfl 0 rfl ?_
  refine X_getF (b := 36) (pc := 23) sM_0 rfl fk_X12_117 (td kX12_sends 17 rfl) ?_
  refine X_iconst (v := (1 : Int32)) (pc := 26) (td kX12_sends 18 rfl) (by decide) ?_
  refine X_dup2 (pc := 27) (td kX12_sends 19 rfl) rfl rfl ?_
  refine X_iald (pc := 28) sM_36 (td kX12_sends 20 rfl) ?_
  refine X_aload_n (pc := 29) (td kX12_sends 21 rfl) rfl 0 rfl ?_
  refine X_getF (b := 2) (pc := 30) sM_0 rfl fk_X12_13 (td kX12_sends 22 rfl) ?_
  refine X_iconst (v := (3 : Int32)) (pc := 33) (td kX12_sends 23 rfl) (by decide) ?_
  refine X_iald (pc := 34) sM_2 (td kX12_sends 24 rfl) ?_
  refine X_iadd (pc := 35) (td kX12_sends 25 rfl) ?_
  refine X_iast (pc := 36) sM_36 (td kX12_sends 26 rfl) (fun σ36 => ?_)
  exact X_retv (pc := 37) (td kX12_sends 27 rfl)
def F_X12_isLightBy_15 (p1 : Int32) (k45 : Mm → Option (Int32 × Mm)) (rec15 : Int32 → Mm → Option (Int32 × Mm)) (x2_15 : Int32) (σ_15 : Mm) : Option (Int32 × Mm) := ck (inb (1 : Int32) 8) ((if x2_15 < (gI σ_15 2 (1 : Int32).toNatClampNeg) then jn (fun (σ_39 : Mm) => rec15 (x2_15 + (1 : Int32)) σ_39) (fun k39 => (if ((p1 >>> (x2_15 &&& 31)) &&& (1 : Int32)) = (1 : Int32) then cl (f_X12_sends x2_15 σ_15) (fun _ σ36 => k39 σ36) else k39 σ_15)) else k45 σ_15))
def f_X12_isLightBy (p1 : Int32) (σ : Mm) : Option (Int32 × Mm) := cl (f_X12_copies 36 (0 : Int32) 37 (0 : Int32) σ) (fun _ σ10 => jn (fun (σ_45 : Mm) => cl (f_X12_tries σ_45) (fun _ σ46 => cl (f_X12_copies 37 (0 : Int32) 36 (0 : Int32) σ46) (fun _ σ59 => (if (gI σ59 0 61) = 0 then some ((1 : Int32), σ59) else some ((0 : Int32), σ59))))) (fun k45 => lq2 (F_X12_isLightBy_15 p1 k45) 1000000 (0 : Int32) σ10))
set_option maxHeartbeats 4000000 in
set_option maxRecDepth 100000 in
theorem x_X12_isLightBy (p1 : Int32) (σ : Mm) : Con (wsOf SHM) yX12_isLightBy cX12_isLightBy 3 (some .boolean) 8 [.ref 0, .int p1] σ (f_X12_isLightBy p1 σ) := by
  refine Con.of_X (by decide +kernel) (Nat.le_of_ble_eq_true rfl) ?_
  unfold f_X12_isLightBy
  show X (wsOf SHM) RX12 cX12_isLightBy 3 (some .boolean) 8 0 0 [(0, .ref 0), (1, .int p1)] [] σ _
  refine X_aload_n (pc := 0) (td kX12_isLightBy 0 rfl) rfl 0 rfl ?_
  refine X_getF (b := 36) (pc := 1) sM_0 rfl fk_X12_117 (td kX12_isLightBy 1 rfl) ?_
  refine X_iconst (v := (0 : Int32)) (pc := 4) (td kX12_isLightBy 2 rfl) (by decide) ?_
  refine X_aload_n (pc := 5) (td kX12_isLightBy 3 rfl) rfl 0 rfl ?_
  refine X_getF (b := 37) (pc := 6) sM_0 rfl fk_X12_120 (td kX12_isLightBy 4 rfl) ?_
  refine X_iconst (v := (0 : Int32)) (pc := 9) (td kX12_isLightBy 5 rfl) (by decide) ?_
  refine X_callsv (pc := 10) (As := [.ref 36, .int (0 : Int32), .ref 37, .int (0 : Int32)]) (st := []) (x_X12_copies 36 (0 : Int32) 37 (0 : Int32) σ) mkX12_copies lk_X12_429 (by omega) rfl rfl (Nat.le_of_ble_eq_true rfl) (td kX12_isLightBy 6 rfl) (fun _ σ10 _ => ?_)
  refine X_iconst (v := (0 : Int32)) (pc := 13) (td kX12_isLightBy 7 rfl) (by decide) ?_
  refine X_istore_n (L' := [(2, .int (0 : Int32)), (0, .ref 0), (1, .int p1)]) (pc := 14) (td kX12_isLightBy 8 rfl) rfl (by decide) rfl ?_
  refine X_jn (P := fun k => ∀ (σ_45 : Mm), X (wsOf SHM) RX12 cX12_isLightBy 3 (some .boolean) 8 0 45 [(0, .ref 0)] [] σ_45 (k σ_45)) (fun σ_45 => ?_) (fun k45 h45 => ?_)
  · refine X_aload_n (pc := 45) (td kX12_isLightBy 27 rfl) rfl 0 rfl ?_
    refine X_callv (pc := 46) (As := []) (st := []) sM_0 (x_X12_tries σ_45) mkX12_tries lk_X12_478 (by omega) rfl rfl (Nat.le_of_ble_eq_true rfl) (td kX12_isLightBy 28 rfl) (fun _ σ46 _ => ?_)
    refine X_aload_n (pc := 49) (td kX12_isLightBy 29 rfl) rfl 0 rfl ?_
    refine X_getF (b := 37) (pc := 50) sM_0 rfl fk_X12_120 (td kX12_isLightBy 30 rfl) ?_
    refine X_iconst (v := (0 : Int32)) (pc := 53) (td kX12_isLightBy 31 rfl) (by decide) ?_
    refine X_aload_n (pc := 54) (td kX12_isLightBy 32 rfl) rfl 0 rfl ?_
    refine X_getF (b := 36) (pc := 55) sM_0 rfl fk_X12_117 (td kX12_isLightBy 33 rfl) ?_
    refine X_iconst (v := (0 : Int32)) (pc := 58) (td kX12_isLightBy 34 rfl) (by decide) ?_
    refine X_callsv (pc := 59) (As := [.ref 37, .int (0 : Int32), .ref 36, .int (0 : Int32)]) (st := []) (x_X12_copies 37 (0 : Int32) 36 (0 : Int32) σ46) mkX12_copies lk_X12_429 (by omega) rfl rfl (Nat.le_of_ble_eq_true rfl) (td kX12_isLightBy 35 rfl) (fun _ σ59 _ => ?_)
    refine X_aload_n (pc := 62) (td kX12_isLightBy 36 rfl) rfl 0 rfl ?_
    refine X_getI (pc := 63) sM_0 rfl fk_X12_457 (td kX12_isLightBy 37 rfl) ?_
    refine X_if_ne (pc := 66) (tgt := 73) (td kX12_isLightBy 38 rfl) (by decide) (fun c_66 => ?_) (fun c_66 => ?_)
    · refine X_iconst (v := (0 : Int32)) (pc := 73) (td kX12_isLightBy 41 rfl) (by decide) ?_
      exact X_ret (pc := 74) (td kX12_isLightBy 42 rfl) rfl
    · refine X_iconst (v := (1 : Int32)) (pc := 69) (td kX12_isLightBy 39 rfl) (by decide) ?_
      refine X_goto (pc := 70) (tgt := 74) (td kX12_isLightBy 40 rfl) (by decide) ?_
      exact X_ret (pc := 74) (td kX12_isLightBy 42 rfl) rfl
  · refine X_sub [1, 2, 0] rfl ?_
    refine lq2_ind (P := fun x2_15 σ_15 E => X (wsOf SHM) RX12 cX12_isLightBy 3 (some .boolean) 8 0 15 [(0, .ref 0), (1, .int p1), (2, .int x2_15)] [] σ_15 E) (fun _ _ => X_none) (fun rec15 hrec15 x2_15 σ_15 => ?_) _ _ _
    unfold F_X12_isLightBy_15
    refine X_iload_n (pc := 15) (td kX12_isLightBy 9 rfl) rfl 2 rfl ?_
    refine X_aload_n (pc := 16) (td kX12_isLightBy 10 rfl) rfl 0 rfl ?_
    refine X_getF (b := 2) (pc := 17) sM_0 rfl fk_X12_13 (td kX12_isLightBy 11 rfl) ?_
    refine X_iconst (v := (1 : Int32)) (pc := 20) (td kX12_isLightBy 12 rfl) (by decide) ?_
    refine X_iald (pc := 21) sM_2 (td kX12_isLightBy 13 rfl) ?_
    refine X_icmp_ge (pc := 22) (tgt := 45) (td kX12_isLightBy 14 rfl) (by decide) (fun c_22 => ?_) (fun c_22 => ?_)
    · refine X_sub [0] rfl ?_
      exact h45 σ_15
    · refine X_iload_n (pc := 25) (td kX12_isLightBy 15 rfl) rfl 1 rfl ?_
      refine X_iload_n (pc := 26) (td kX12_isLightBy 16 rfl) rfl 2 rfl ?_
      refine X_ishr (pc := 27) (td kX12_isLightBy 17 rfl) ?_
      refine X_iconst (v := (1 : Int32)) (pc := 28) (td kX12_isLightBy 18 rfl) (by decide) ?_
      refine X_iand (pc := 29) (td kX12_isLightBy 19 rfl) ?_
      refine X_iconst (v := (1 : Int32)) (pc := 30) (td kX12_isLightBy 20 rfl) (by decide) ?_
      refine X_jn (P := fun k => ∀ (σ_39 : Mm), X (wsOf SHM) RX12 cX12_isLightBy 3 (some .boolean) 8 0 39 [(0, .ref 0), (1, .int p1), (2, .int x2_15)] [] σ_39 (k σ_39)) (fun σ_39 => ?_) (fun k39 h39 => ?_)
      · refine X_iinc (v := (x2_15 + (1 : Int32))) (L' := [(2, .int (x2_15 + (1 : Int32))), (0, .ref 0), (1, .int p1)]) (pc := 39) (td kX12_isLightBy 25 rfl) 2 rfl rfl (by decide) rfl ?_
        refine X_goto (pc := 42) (tgt := 15) (td kX12_isLightBy 26 rfl) (by decide) ?_
        refine X_sub [1, 2, 0] rfl ?_
        exact hrec15 (x2_15 + (1 : Int32)) σ_39
      · refine X_icmp_ne (pc := 31) (tgt := 39) (td kX12_isLightBy 21 rfl) (by decide) (fun c_31 => ?_) (fun c_31 => ?_)
        · exact h39 σ_15
        · refine X_aload_n (pc := 34) (td kX12_isLightBy 22 rfl) rfl 0 rfl ?_
          refine X_iload_n (pc := 35) (td kX12_isLightBy 23 rfl) rfl 2 rfl ?_
          refine X_callv (pc := 36) (As := [.int x2_15]) (st := []) sM_0 (x_X12_sends x2_15 σ_15) mkX12_sends lk_X12_439 (by omega) rfl rfl (Nat.le_of_ble_eq_true rfl) (td kX12_isLightBy 24 rfl) (fun _ σ36 _ => ?_)
          exact h39 σ36
def F_X12_boys_9 (k52 : Int32 → Mm → Option (Int32 × Mm)) (rec9 : Int32 → Int32 → Mm → Option (Int32 × Mm)) (x1_9 : Int32) (x2_9 : Int32) (σ_9 : Mm) : Option (Int32 × Mm) := ck (inb (1 : Int32) 8) ((if x2_9 < ((1 : Int32) <<< ((gI σ_9 2 (1 : Int32).toNatClampNeg) &&& 31)) then jn (fun (x1_46 : Int32) (σ_46 : Mm) => rec9 x1_46 (x2_9 + (1 : Int32)) σ_46) (fun k46 => jn (cl (f_X12_isLightBy x2_9 σ_9) (fun r38 σ38 => (if r38 = 0 then k46 x1_9 σ38 else k46 x2_9 σ38))) (fun k36 => (if x1_9 < 0 then k36 else cl (f_X12_bits x2_9 σ_9) (fun r26 _ => cl (f_X12_bits x1_9 σ_9) (fun r30 _ => (if r26 < r30 then k36 else k46 x1_9 σ_9)))))) else k52 x1_9 σ_9))
def f_X12_boys (σ : Mm) : Option (Int32 × Mm) := bn (pI σ 0 0 (0 : Int32)) (fun σ2 => jn (fun (x1_52 : Int32) (σ_52 : Mm) => some (x1_52, σ_52)) (fun k52 => lq3 (F_X12_boys_9 k52) 1000000 (-1 : Int32) (0 : Int32) σ2))
set_option maxHeartbeats 4000000 in
set_option maxRecDepth 100000 in
theorem x_X12_boys (σ : Mm) : Con (wsOf SHM) yX12_boys cX12_boys 3 (some .int) 9 [.ref 0] σ (f_X12_boys σ) := by
  refine Con.of_X (by decide +kernel) (Nat.le_of_ble_eq_true rfl) ?_
  unfold f_X12_boys
  show X (wsOf SHM) RX12 cX12_boys 3 (some .int) 9 0 0 [(0, .ref 0)] [] σ _
  refine X_aload_n (pc := 0) (td kX12_boys 0 rfl) rfl 0 rfl ?_
  refine X_iconst (v := (0 : Int32)) (pc := 1) (td kX12_boys 1 rfl) (by decide) ?_
  refine X_putI (pc := 2) sM_0 rfl fk_X12_169 rfl rfl (td kX12_boys 2 rfl) (fun σ2 => ?_)
  refine X_iconst (v := (-1 : Int32)) (pc := 5) (td kX12_boys 3 rfl) (by decide) ?_
  refine X_istore_n (L' := [(1, .int (-1 : Int32)), (0, .ref 0)]) (pc := 6) (td kX12_boys 4 rfl) rfl (by decide) rfl ?_
  refine X_iconst (v := (0 : Int32)) (pc := 7) (td kX12_boys 5 rfl) (by decide) ?_
  refine X_istore_n (L' := [(2, .int (0 : Int32)), (1, .int (-1 : Int32)), (0, .ref 0)]) (pc := 8) (td kX12_boys 6 rfl) rfl (by decide) rfl ?_
  refine X_jn (P := fun k => ∀ (x1_52 : Int32) (σ_52 : Mm), X (wsOf SHM) RX12 cX12_boys 3 (some .int) 9 0 52 [(1, .int x1_52)] [] σ_52 (k x1_52 σ_52)) (fun x1_52 σ_52 => ?_) (fun k52 h52 => ?_)
  · refine X_iload_n (pc := 52) (td kX12_boys 30 rfl) rfl 0 rfl ?_
    exact X_ret (pc := 53) (td kX12_boys 31 rfl) rfl
  · refine X_sub [2, 1, 0] rfl ?_
    refine lq3_ind (P := fun x1_9 x2_9 σ_9 E => X (wsOf SHM) RX12 cX12_boys 3 (some .int) 9 0 9 [(0, .ref 0), (1, .int x1_9), (2, .int x2_9)] [] σ_9 E) (fun _ _ _ => X_none) (fun rec9 hrec9 x1_9 x2_9 σ_9 => ?_) _ _ _ _
    unfold F_X12_boys_9
    refine X_iload_n (pc := 9) (td kX12_boys 7 rfl) rfl 2 rfl ?_
    refine X_iconst (v := (1 : Int32)) (pc := 10) (td kX12_boys 8 rfl) (by decide) ?_
    refine X_aload_n (pc := 11) (td kX12_boys 9 rfl) rfl 0 rfl ?_
    refine X_getF (b := 2) (pc := 12) sM_0 rfl fk_X12_13 (td kX12_boys 10 rfl) ?_
    refine X_iconst (v := (1 : Int32)) (pc := 15) (td kX12_boys 11 rfl) (by decide) ?_
    refine X_iald (pc := 16) sM_2 (td kX12_boys 12 rfl) ?_
    refine X_ishl (pc := 17) (td kX12_boys 13 rfl) ?_
    refine X_icmp_ge (pc := 18) (tgt := 52) (td kX12_boys 14 rfl) (by decide) (fun c_18 => ?_) (fun c_18 => ?_)
    · refine X_sub [1] rfl ?_
      exact h52 x1_9 σ_9
    · refine X_iload_n (pc := 21) (td kX12_boys 15 rfl) rfl 1 rfl ?_
      refine X_jn (P := fun k => ∀ (x1_46 : Int32) (σ_46 : Mm), X (wsOf SHM) RX12 cX12_boys 3 (some .int) 9 0 46 [(0, .ref 0), (1, .int x1_46), (2, .int x2_9)] [] σ_46 (k x1_46 σ_46)) (fun x1_46 σ_46 => ?_) (fun k46 h46 => ?_)
      · refine X_iinc (v := (x2_9 + (1 : Int32))) (L' := [(2, .int (x2_9 + (1 : Int32))), (0, .ref 0), (1, .int x1_46)]) (pc := 46) (td kX12_boys 28 rfl) 2 rfl rfl (by decide) rfl ?_
        refine X_goto (pc := 49) (tgt := 9) (td kX12_boys 29 rfl) (by decide) ?_
        refine X_sub [1, 2, 0] rfl ?_
        exact hrec9 x1_46 (x2_9 + (1 : Int32)) σ_46
      · refine X_jn (P := fun k => X (wsOf SHM) RX12 cX12_boys 3 (some .int) 9 0 36 [(0, .ref 0), (1, .int x1_9), (2, .int x2_9)] [] σ_9 k) ?_ (fun k36 h36 => ?_)
        · refine X_aload_n (pc := 36) (td kX12_boys 22 rfl) rfl 0 rfl ?_
          refine X_iload_n (pc := 37) (td kX12_boys 23 rfl) rfl 2 rfl ?_
          refine X_calli (pc := 38) (As := [.int x2_9]) (st := []) sM_0 (x_X12_isLightBy x2_9 σ_9) mkX12_isLightBy lk_X12_490 (by omega) rfl rfl (Nat.le_of_ble_eq_true rfl) (td kX12_boys 24 rfl) (fun r38 σ38 _ hr38 => ?_)
          refine X_if_eq (pc := 41) (tgt := 46) (td kX12_boys 25 rfl) (by decide) (fun c_41 => ?_) (fun c_41 => ?_)
          · exact h46 x1_9 σ38
          · refine X_iload_n (pc := 44) (td kX12_boys 26 rfl) rfl 2 rfl ?_
            refine X_istore_n (L' := [(1, .int x2_9), (0, .ref 0), (2, .int x2_9)]) (pc := 45) (td kX12_boys 27 rfl) rfl (by decide) rfl ?_
            refine X_sub [1, 0, 2] rfl ?_
            exact h46 x2_9 σ38
        · refine X_if_lt (pc := 22) (tgt := 36) (td kX12_boys 16 rfl) (by decide) (fun c_22 => ?_) (fun c_22 => ?_)
          · exact h36
          · refine X_iload_n (pc := 25) (td kX12_boys 17 rfl) rfl 2 rfl ?_
            refine X_callsip (pc := 26) (As := [.int x2_9]) (st := []) (p_X12_bits x2_9 σ_9) (x_X12_bits x2_9 σ_9) mkX12_bits lk_X12_472 (by omega) rfl rfl (Nat.le_of_ble_eq_true rfl) (td kX12_boys 18 rfl) (fun r26 hr26 => ?_)
            refine X_iload_n (pc := 29) (td kX12_boys 19 rfl) rfl 1 rfl ?_
            refine X_callsip (pc := 30) (As := [.int x1_9]) (st := [.int r26]) (p_X12_bits x1_9 σ_9) (x_X12_bits x1_9 σ_9) mkX12_bits lk_X12_472 (by omega) rfl rfl (Nat.le_of_ble_eq_true rfl) (td kX12_boys 20 rfl) (fun r30 hr30 => ?_)
            refine X_icmp_ge (pc := 33) (tgt := 46) (td kX12_boys 21 rfl) (by decide) (fun c_33 => ?_) (fun c_33 => ?_)
            · exact h46 x1_9 σ_9
            · exact h36
def f_X12_isLane (p1 : Int32) (σ : Mm) : Option (Int32 × Mm) := jn (some ((0 : Int32), σ)) (fun k18 => (if p1 < 0 then k18 else ck (inb (1 : Int32) 8) ((if p1 < (gI σ 2 (1 : Int32).toNatClampNeg) then some ((1 : Int32), σ) else k18))))
set_option maxHeartbeats 4000000 in
set_option maxRecDepth 100000 in
theorem x_X12_isLane (p1 : Int32) (σ : Mm) : Con (wsOf SHM) yX12_isLane cX12_isLane 2 (some .boolean) 1 [.ref 0, .int p1] σ (f_X12_isLane p1 σ) := by
  refine Con.of_X (by decide +kernel) (Nat.le_of_ble_eq_true rfl) ?_
  unfold f_X12_isLane
  show X (wsOf SHM) RX12 cX12_isLane 2 (some .boolean) 1 0 0 [(0, .ref 0), (1, .int p1)] [] σ _
  refine X_iload_n (pc := 0) (td kX12_isLane 0 rfl) rfl 1 rfl ?_
  refine X_jn (P := fun k => X (wsOf SHM) RX12 cX12_isLane 2 (some .boolean) 1 0 18 [] [] σ k) ?_ (fun k18 h18 => ?_)
  · refine X_iconst (v := (0 : Int32)) (pc := 18) (td kX12_isLane 10 rfl) (by decide) ?_
    exact X_ret (pc := 19) (td kX12_isLane 11 rfl) rfl
  · refine X_if_lt (pc := 1) (tgt := 18) (td kX12_isLane 1 rfl) (by decide) (fun c_1 => ?_) (fun c_1 => ?_)
    · refine X_sub [] rfl ?_
      exact h18
    · refine X_iload_n (pc := 4) (td kX12_isLane 2 rfl) rfl 1 rfl ?_
      refine X_aload_n (pc := 5) (td kX12_isLane 3 rfl) rfl 0 rfl ?_
      refine X_getF (b := 2) (pc := 6) sM_0 rfl fk_X12_13 (td kX12_isLane 4 rfl) ?_
      refine X_iconst (v := (1 : Int32)) (pc := 9) (td kX12_isLane 5 rfl) (by decide) ?_
      refine X_iald (pc := 10) sM_2 (td kX12_isLane 6 rfl) ?_
      refine X_icmp_ge (pc := 11) (tgt := 18) (td kX12_isLane 7 rfl) (by decide) (fun c_11 => ?_) (fun c_11 => ?_)
      · refine X_sub [] rfl ?_
        exact h18
      · refine X_iconst (v := (1 : Int32)) (pc := 14) (td kX12_isLane 8 rfl) (by decide) ?_
        refine X_goto (pc := 15) (tgt := 19) (td kX12_isLane 9 rfl) (by decide) ?_
        exact X_ret (pc := 19) (td kX12_isLane 11 rfl) rfl
set_option maxHeartbeats 4000000 in
theorem p_X12_isLane (p1 : Int32) (σ : Mm) : Pu σ (f_X12_isLane p1 σ) := by
  unfold f_X12_isLane
  refine Pu_jn (fun k => Pu σ (k)) ?_ (fun k18 h18 => ?_)
  · exact Pu_some
  · refine Pu_if ?_ ?_
    · exact h18
    · refine Pu_ck ?_
      refine Pu_if ?_ ?_
      · exact Pu_some
      · exact h18
def f_X12_within (p1 : Int32) (p2 : Int32) (p3 : Int32) (σ : Mm) : Option (Int32 × Mm) := jn (some ((0 : Int32), σ)) (fun k14 => (if p1 < p2 then k14 else (if p3 < p1 then k14 else some ((1 : Int32), σ))))
set_option maxHeartbeats 4000000 in
set_option maxRecDepth 100000 in
theorem x_X12_within (p1 : Int32) (p2 : Int32) (p3 : Int32) (σ : Mm) : Con (wsOf SHM) yX12_within cX12_within 3 (some .boolean) 1 [.int p1, .int p2, .int p3] σ (f_X12_within p1 p2 p3 σ) := by
  refine Con.of_X (by decide +kernel) (Nat.le_of_ble_eq_true rfl) ?_
  unfold f_X12_within
  show X (wsOf SHM) RX12 cX12_within 3 (some .boolean) 1 0 0 [(0, .int p1), (1, .int p2), (2, .int p3)] [] σ _
  refine X_iload_n (pc := 0) (td kX12_within 0 rfl) rfl 0 rfl ?_
  refine X_iload_n (pc := 1) (td kX12_within 1 rfl) rfl 1 rfl ?_
  refine X_jn (P := fun k => X (wsOf SHM) RX12 cX12_within 3 (some .boolean) 1 0 14 [] [] σ k) ?_ (fun k14 h14 => ?_)
  · refine X_iconst (v := (0 : Int32)) (pc := 14) (td kX12_within 8 rfl) (by decide) ?_
    exact X_ret (pc := 15) (td kX12_within 9 rfl) rfl
  · refine X_icmp_lt (pc := 2) (tgt := 14) (td kX12_within 2 rfl) (by decide) (fun c_2 => ?_) (fun c_2 => ?_)
    · refine X_sub [] rfl ?_
      exact h14
    · refine X_iload_n (pc := 5) (td kX12_within 3 rfl) rfl 0 rfl ?_
      refine X_iload_n (pc := 6) (td kX12_within 4 rfl) rfl 2 rfl ?_
      refine X_icmp_gt (pc := 7) (tgt := 14) (td kX12_within 5 rfl) (by decide) (fun c_7 => ?_) (fun c_7 => ?_)
      · refine X_sub [] rfl ?_
        exact h14
      · refine X_iconst (v := (1 : Int32)) (pc := 10) (td kX12_within 6 rfl) (by decide) ?_
        refine X_goto (pc := 11) (tgt := 15) (td kX12_within 7 rfl) (by decide) ?_
        exact X_ret (pc := 15) (td kX12_within 9 rfl) rfl
set_option maxHeartbeats 4000000 in
theorem p_X12_within (p1 : Int32) (p2 : Int32) (p3 : Int32) (σ : Mm) : Pu σ (f_X12_within p1 p2 p3 σ) := by
  unfold f_X12_within
  refine Pu_jn (fun k => Pu σ (k)) ?_ (fun k14 h14 => ?_)
  · exact Pu_some
  · refine Pu_if ?_ ?_
    · exact h14
    · refine Pu_if ?_ ?_
      · exact h14
      · exact Pu_some
def F_X12_burns_40 (p2 : Int32) (k56 : Mm → Option (Int32 × Mm)) (rec40 : Int32 → Mm → Option (Int32 × Mm)) (x3_40 : Int32) (σ_40 : Mm) : Option (Int32 × Mm) := (if x3_40 < p2 then cl (f_X12_passes σ_40) (fun r46 σ46 => rec40 (x3_40 + (1 : Int32)) σ46) else k56 σ_40)
def f_X12_burns (p1 : Int32) (p2 : Int32) (σ : Mm) : Option (Int32 × Mm) := bn (pI σ 0 0 (0 : Int32)) (fun σ2 => cl (f_X12_isLane p1 σ2) (fun r7 _ => jn (some ((-1 : Int32), σ2)) (fun k23 => (if r7 = 0 then k23 else cl (f_X12_within p2 (0 : Int32) (99 : Int32) σ2) (fun r17 _ => (if r17 = 0 then k23 else cl (f_X12_copies 36 (0 : Int32) 38 (0 : Int32) σ2) (fun _ σ35 => jn (fun (σ_56 : Mm) => bn ((3 : Int32) + p1) (fun i_63 => ck (inb i_63 41) (bn (gI σ_56 36 i_63.toNatClampNeg) (fun v3_64 => cl (f_X12_copies 38 (0 : Int32) 36 (0 : Int32) σ_56) (fun _ σ75 => some (v3_64, σ75)))))) (fun k56 => lq2 (F_X12_burns_40 p2 k56) 1000000 (0 : Int32) σ35))))))))
set_option maxHeartbeats 4000000 in
set_option maxRecDepth 100000 in
theorem x_X12_burns (p1 : Int32) (p2 : Int32) (σ : Mm) : Con (wsOf SHM) yX12_burns cX12_burns 4 (some .int) 6 [.ref 0, .int p1, .int p2] σ (f_X12_burns p1 p2 σ) := by
  refine Con.of_X (by decide +kernel) (Nat.le_of_ble_eq_true rfl) ?_
  unfold f_X12_burns
  show X (wsOf SHM) RX12 cX12_burns 4 (some .int) 6 0 0 [(0, .ref 0), (1, .int p1), (2, .int p2)] [] σ _
  refine X_aload_n (pc := 0) (td kX12_burns 0 rfl) rfl 0 rfl ?_
  refine X_iconst (v := (0 : Int32)) (pc := 1) (td kX12_burns 1 rfl) (by decide) ?_
  refine X_putI (pc := 2) sM_0 rfl fk_X12_169 rfl rfl (td kX12_burns 2 rfl) (fun σ2 => ?_)
  refine X_aload_n (pc := 5) (td kX12_burns 3 rfl) rfl 0 rfl ?_
  refine X_iload_n (pc := 6) (td kX12_burns 4 rfl) rfl 1 rfl ?_
  refine X_callip (pc := 7) (As := [.int p1]) (st := []) (p_X12_isLane p1 σ2) sM_0 (x_X12_isLane p1 σ2) mkX12_isLane lk_X12_420 (by omega) rfl rfl (Nat.le_of_ble_eq_true rfl) (td kX12_burns 5 rfl) (fun r7 hr7 => ?_)
  refine X_jn (P := fun k => X (wsOf SHM) RX12 cX12_burns 4 (some .int) 6 0 23 [] [] σ2 k) ?_ (fun k23 h23 => ?_)
  · refine X_iconst (v := (-1 : Int32)) (pc := 23) (td kX12_burns 12 rfl) (by decide) ?_
    exact X_ret (pc := 24) (td kX12_burns 13 rfl) rfl
  · refine X_if_eq (pc := 10) (tgt := 23) (td kX12_burns 6 rfl) (by decide) (fun c_10 => ?_) (fun c_10 => ?_)
    · refine X_sub [] rfl ?_
      exact h23
    · refine X_iload_n (pc := 13) (td kX12_burns 7 rfl) rfl 2 rfl ?_
      refine X_iconst (v := (0 : Int32)) (pc := 14) (td kX12_burns 8 rfl) (by decide) ?_
      refine X_bipush (v := (99 : Int32)) (pc := 15) (td kX12_burns 9 rfl) (by decide) ?_
      refine X_callsip (pc := 17) (As := [.int p2, .int (0 : Int32), .int (99 : Int32)]) (st := []) (p_X12_within p2 (0 : Int32) (99 : Int32) σ2) (x_X12_within p2 (0 : Int32) (99 : Int32) σ2) mkX12_within lk_X12_287 (by omega) rfl rfl (Nat.le_of_ble_eq_true rfl) (td kX12_burns 10 rfl) (fun r17 hr17 => ?_)
      refine X_if_ne (pc := 20) (tgt := 25) (td kX12_burns 11 rfl) (by decide) (fun c_20 => ?_) (fun c_20 => ?_)
      · refine X_aload_n (pc := 25) (td kX12_burns 14 rfl) rfl 0 rfl ?_
        refine X_getF (b := 36) (pc := 26) sM_0 rfl fk_X12_117 (td kX12_burns 15 rfl) ?_
        refine X_iconst (v := (0 : Int32)) (pc := 29) (td kX12_burns 16 rfl) (by decide) ?_
        refine X_aload_n (pc := 30) (td kX12_burns 17 rfl) rfl 0 rfl ?_
        refine X_getF (b := 38) (pc := 31) sM_0 rfl fk_X12_123 (td kX12_burns 18 rfl) ?_
        refine X_iconst (v := (0 : Int32)) (pc := 34) (td kX12_burns 19 rfl) (by decide) ?_
        refine X_callsv (pc := 35) (As := [.ref 36, .int (0 : Int32), .ref 38, .int (0 : Int32)]) (st := []) (x_X12_copies 36 (0 : Int32) 38 (0 : Int32) σ2) mkX12_copies lk_X12_429 (by omega) rfl rfl (Nat.le_of_ble_eq_true rfl) (td kX12_burns 20 rfl) (fun _ σ35 _ => ?_)
        refine X_iconst (v := (0 : Int32)) (pc := 38) (td kX12_burns 21 rfl) (by decide) ?_
        refine X_istore_n (L' := [(3, .int (0 : Int32)), (0, .ref 0), (1, .int p1), (2, .int p2)]) (pc := 39) (td kX12_burns 22 rfl) rfl (by decide) rfl ?_
        refine X_jn (P := fun k => ∀ (σ_56 : Mm), X (wsOf SHM) RX12 cX12_burns 4 (some .int) 6 0 56 [(0, .ref 0), (1, .int p1)] [] σ_56 (k σ_56)) (fun σ_56 => ?_) (fun k56 h56 => ?_)
        · refine X_aload_n (pc := 56) (td kX12_burns 31 rfl) rfl 0 rfl ?_
          refine X_getF (b := 36) (pc := 57) sM_0 rfl fk_X12_117 (td kX12_burns 32 rfl) ?_
          refine X_iconst (v := (3 : Int32)) (pc := 60) (td kX12_burns 33 rfl) (by decide) ?_
          refine X_iload_n (pc := 61) (td kX12_burns 34 rfl) rfl 1 rfl ?_
          refine X_iadd (pc := 62) (td kX12_burns 35 rfl) ?_
          refine X_bi (fun i_63 => ?_)
          refine X_iald (pc := 63) sM_36 (td kX12_burns 36 rfl) ?_
          refine X_bi (fun v3_64 => ?_)
          refine X_istore_n (L' := [(3, .int v3_64), (0, .ref 0), (1, .int p1)]) (pc := 64) (td kX12_burns 37 rfl) rfl (by decide) rfl ?_
          refine X_aload_n (pc := 65) (td kX12_burns 38 rfl) rfl 1 rfl ?_
          refine X_getF (b := 38) (pc := 66) sM_0 rfl fk_X12_123 (td kX12_burns 39 rfl) ?_
          refine X_iconst (v := (0 : Int32)) (pc := 69) (td kX12_burns 40 rfl) (by decide) ?_
          refine X_aload_n (pc := 70) (td kX12_burns 41 rfl) rfl 1 rfl ?_
          refine X_getF (b := 36) (pc := 71) sM_0 rfl fk_X12_117 (td kX12_burns 42 rfl) ?_
          refine X_iconst (v := (0 : Int32)) (pc := 74) (td kX12_burns 43 rfl) (by decide) ?_
          refine X_callsv (pc := 75) (As := [.ref 38, .int (0 : Int32), .ref 36, .int (0 : Int32)]) (st := []) (x_X12_copies 38 (0 : Int32) 36 (0 : Int32) σ_56) mkX12_copies lk_X12_429 (by omega) rfl rfl (Nat.le_of_ble_eq_true rfl) (td kX12_burns 44 rfl) (fun _ σ75 _ => ?_)
          refine X_iload_n (pc := 78) (td kX12_burns 45 rfl) rfl 0 rfl ?_
          exact X_ret (pc := 79) (td kX12_burns 46 rfl) rfl
        · refine X_sub [1, 2, 3, 0] rfl ?_
          refine lq2_ind (P := fun x3_40 σ_40 E => X (wsOf SHM) RX12 cX12_burns 4 (some .int) 6 0 40 [(0, .ref 0), (1, .int p1), (2, .int p2), (3, .int x3_40)] [] σ_40 E) (fun _ _ => X_none) (fun rec40 hrec40 x3_40 σ_40 => ?_) _ _ _
          unfold F_X12_burns_40
          refine X_iload_n (pc := 40) (td kX12_burns 23 rfl) rfl 3 rfl ?_
          refine X_iload_n (pc := 41) (td kX12_burns 24 rfl) rfl 2 rfl ?_
          refine X_icmp_ge (pc := 42) (tgt := 56) (td kX12_burns 25 rfl) (by decide) (fun c_42 => ?_) (fun c_42 => ?_)
          · refine X_sub [0, 1] rfl ?_
            exact h56 σ_40
          · refine X_aload_n (pc := 45) (td kX12_burns 26 rfl) rfl 0 rfl ?_
            refine X_calli (pc := 46) (As := []) (st := []) sM_0 (x_X12_passes σ_40) mkX12_passes lk_X12_436 (by omega) rfl rfl (Nat.le_of_ble_eq_true rfl) (td kX12_burns 27 rfl) (fun r46 σ46 _ hr46 => ?_)
            refine X_pop (pc := 49) (td kX12_burns 28 rfl) rfl ?_
            refine X_iinc (v := (x3_40 + (1 : Int32))) (L' := [(3, .int (x3_40 + (1 : Int32))), (0, .ref 0), (1, .int p1), (2, .int p2)]) (pc := 50) (td kX12_burns 29 rfl) 3 rfl rfl (by decide) rfl ?_
            refine X_goto (pc := 53) (tgt := 40) (td kX12_burns 30 rfl) (by decide) ?_
            refine X_sub [1, 2, 3, 0] rfl ?_
            exact hrec40 (x3_40 + (1 : Int32)) σ46
      · refine X_sub [] rfl ?_
        exact h23
def f_X12_fails (p1 : Int32) (σ : Mm) : Option (Int32 × Mm) := bn (pI σ 0 9 (p1 + ((16 : Int32) * (gI σ 0 5)))) (fun σ10 => some ((0 : Int32), σ10))
set_option maxHeartbeats 4000000 in
set_option maxRecDepth 100000 in
theorem x_X12_fails (p1 : Int32) (σ : Mm) : Con (wsOf SHM) yX12_fails cX12_fails 2 (some .boolean) 1 [.ref 0, .int p1] σ (f_X12_fails p1 σ) := by
  refine Con.of_X (by decide +kernel) (Nat.le_of_ble_eq_true rfl) ?_
  unfold f_X12_fails
  show X (wsOf SHM) RX12 cX12_fails 2 (some .boolean) 1 0 0 [(0, .ref 0), (1, .int p1)] [] σ _
  refine X_aload_n (pc := 0) (td kX12_fails 0 rfl) rfl 0 rfl ?_
  refine X_iload_n (pc := 1) (td kX12_fails 1 rfl) rfl 1 rfl ?_
  refine X_bipush (v := (16 : Int32)) (pc := 2) (td kX12_fails 2 rfl) (by decide) ?_
  refine X_aload_n (pc := 4) (td kX12_fails 3 rfl) rfl 0 rfl ?_
  refine X_getI (pc := 5) sM_0 rfl fk_X12_183 (td kX12_fails 4 rfl) ?_
  refine X_imul (pc := 8) (td kX12_fails 5 rfl) ?_
  refine X_iadd (pc := 9) (td kX12_fails 6 rfl) ?_
  refine X_putI (pc := 10) sM_0 rfl fk_X12_204 rfl rfl (td kX12_fails 7 rfl) (fun σ10 => ?_)
  refine X_iconst (v := (0 : Int32)) (pc := 13) (td kX12_fails 8 rfl) (by decide) ?_
  exact X_ret (pc := 14) (td kX12_fails 9 rfl) rfl
def f_X12_isSign (p1 : Int32) (σ : Mm) : Option (Int32 × Mm) := jn (some ((0 : Int32), σ)) (fun k25 => (if (gI σ 0 6) = (3 : Int32) then bn (gI σ 0 5) (fun i_16 => ck (inb i_16 1000) ((if (gI σ 1 i_16.toNatClampNeg) = p1 then some ((1 : Int32), σ) else k25))) else k25))
set_option maxHeartbeats 4000000 in
set_option maxRecDepth 100000 in
theorem x_X12_isSign (p1 : Int32) (σ : Mm) : Con (wsOf SHM) yX12_isSign cX12_isSign 2 (some .boolean) 1 [.ref 0, .int p1] σ (f_X12_isSign p1 σ) := by
  refine Con.of_X (by decide +kernel) (Nat.le_of_ble_eq_true rfl) ?_
  unfold f_X12_isSign
  show X (wsOf SHM) RX12 cX12_isSign 2 (some .boolean) 1 0 0 [(0, .ref 0), (1, .int p1)] [] σ _
  refine X_aload_n (pc := 0) (td kX12_isSign 0 rfl) rfl 0 rfl ?_
  refine X_getI (pc := 1) sM_0 rfl fk_X12_193 (td kX12_isSign 1 rfl) ?_
  refine X_iconst (v := (3 : Int32)) (pc := 4) (td kX12_isSign 2 rfl) (by decide) ?_
  refine X_jn (P := fun k => X (wsOf SHM) RX12 cX12_isSign 2 (some .boolean) 1 0 25 [] [] σ k) ?_ (fun k25 h25 => ?_)
  · refine X_iconst (v := (0 : Int32)) (pc := 25) (td kX12_isSign 13 rfl) (by decide) ?_
    exact X_ret (pc := 26) (td kX12_isSign 14 rfl) rfl
  · refine X_icmp_ne (pc := 5) (tgt := 25) (td kX12_isSign 3 rfl) (by decide) (fun c_5 => ?_) (fun c_5 => ?_)
    · refine X_sub [] rfl ?_
      exact h25
    · refine X_aload_n (pc := 8) (td kX12_isSign 4 rfl) rfl 0 rfl ?_
      refine X_getF (b := 1) (pc := 9) sM_0 rfl fk_X12_7 (td kX12_isSign 5 rfl) ?_
      refine X_aload_n (pc := 12) (td kX12_isSign 6 rfl) rfl 0 rfl ?_
      refine X_getI (pc := 13) sM_0 rfl fk_X12_183 (td kX12_isSign 7 rfl) ?_
      refine X_bi (fun i_16 => ?_)
      refine X_iald (pc := 16) sM_1 (td kX12_isSign 8 rfl) ?_
      refine X_iload_n (pc := 17) (td kX12_isSign 9 rfl) rfl 1 rfl ?_
      refine X_icmp_ne (pc := 18) (tgt := 25) (td kX12_isSign 10 rfl) (by decide) (fun c_18 => ?_) (fun c_18 => ?_)
      · refine X_sub [] rfl ?_
        exact h25
      · refine X_iconst (v := (1 : Int32)) (pc := 21) (td kX12_isSign 11 rfl) (by decide) ?_
        refine X_goto (pc := 22) (tgt := 26) (td kX12_isSign 12 rfl) (by decide) ?_
        exact X_ret (pc := 26) (td kX12_isSign 14 rfl) rfl
set_option maxHeartbeats 4000000 in
theorem p_X12_isSign (p1 : Int32) (σ : Mm) : Pu σ (f_X12_isSign p1 σ) := by
  unfold f_X12_isSign
  refine Pu_jn (fun k => Pu σ (k)) ?_ (fun k25 h25 => ?_)
  · exact Pu_some
  · refine Pu_if ?_ ?_
    · refine Pu_bn (fun _ => ?_)
      refine Pu_ck ?_
      refine Pu_if ?_ ?_
      · exact Pu_some
      · exact h25
    · exact h25
def f_X12_closes (σ : Mm) : Option (Int32 × Mm) := cl (f_X12_isSign (59 : Int32) σ) (fun r3 _ => (if r3 = 0 then cl (f_X12_fails (1 : Int32) σ) (fun r11 σ11 => some (r11, σ11)) else cl (f_X12_nextToken σ) (fun _ σ16 => some ((1 : Int32), σ16))))
set_option maxHeartbeats 4000000 in
set_option maxRecDepth 100000 in
theorem x_X12_closes (σ : Mm) : Con (wsOf SHM) yX12_closes cX12_closes 1 (some .boolean) 3 [.ref 0] σ (f_X12_closes σ) := by
  refine Con.of_X (by decide +kernel) (Nat.le_of_ble_eq_true rfl) ?_
  unfold f_X12_closes
  show X (wsOf SHM) RX12 cX12_closes 1 (some .boolean) 3 0 0 [(0, .ref 0)] [] σ _
  refine X_aload_n (pc := 0) (td kX12_closes 0 rfl) rfl 0 rfl ?_
  refine X_bipush (v := (59 : Int32)) (pc := 1) (td kX12_closes 1 rfl) (by decide) ?_
  refine X_callip (pc := 3) (As := [.int (59 : Int32)]) (st := []) (p_X12_isSign (59 : Int32) σ) sM_0 (x_X12_isSign (59 : Int32) σ) mkX12_isSign lk_X12_228 (by omega) rfl rfl (Nat.le_of_ble_eq_true rfl) (td kX12_closes 2 rfl) (fun r3 hr3 => ?_)
  refine X_if_ne (pc := 6) (tgt := 15) (td kX12_closes 3 rfl) (by decide) (fun c_6 => ?_) (fun c_6 => ?_)
  · refine X_aload_n (pc := 15) (td kX12_closes 8 rfl) rfl 0 rfl ?_
    refine X_callv (pc := 16) (As := []) (st := []) sM_0 (x_X12_nextToken σ) mkX12_nextToken lk_X12_239 (by omega) rfl rfl (Nat.le_of_ble_eq_true rfl) (td kX12_closes 9 rfl) (fun _ σ16 _ => ?_)
    refine X_iconst (v := (1 : Int32)) (pc := 19) (td kX12_closes 10 rfl) (by decide) ?_
    exact X_ret (pc := 20) (td kX12_closes 11 rfl) rfl
  · refine X_aload_n (pc := 9) (td kX12_closes 4 rfl) rfl 0 rfl ?_
    refine X_iconst (v := (1 : Int32)) (pc := 10) (td kX12_closes 5 rfl) (by decide) ?_
    refine X_calli (pc := 11) (As := [.int (1 : Int32)]) (st := []) sM_0 (x_X12_fails (1 : Int32) σ) mkX12_fails lk_X12_232 (by omega) rfl rfl (Nat.le_of_ble_eq_true rfl) (td kX12_closes 6 rfl) (fun r11 σ11 _ hr11 => ?_)
    exact X_ret (pc := 14) (td kX12_closes 7 rfl) hr11
def f_X12_count (p1 : Int32) (σ : Mm) : Option (Int32 × Mm) := bn (pI σ 0 0 (0 : Int32)) (fun σ2 => cl (f_X12_within p1 (0 : Int32) (11 : Int32) σ2) (fun r9 _ => (if r9 = 0 then some ((-1 : Int32), σ2) else (if p1 < (3 : Int32) then ck (inb p1 8) (some ((gI σ2 2 p1.toNatClampNeg), σ2)) else (if p1 < (6 : Int32) then (if p1 = (3 : Int32) then ck (inb (0 : Int32) 41) (some ((gI σ2 36 (0 : Int32).toNatClampNeg), σ2)) else (if p1 = (4 : Int32) then cl (f_X12_homes σ2) (fun r55 _ => some (r55, σ2)) else cl (f_X12_burning σ2) (fun r62 _ => some (r62, σ2)))) else (if p1 < (8 : Int32) then (if p1 = (6 : Int32) then ck (inb (1 : Int32) 41) (some ((gI σ2 36 (1 : Int32).toNatClampNeg), σ2)) else ck (inb (2 : Int32) 41) (some ((gI σ2 36 (2 : Int32).toNatClampNeg), σ2))) else (if p1 < (10 : Int32) then (if p1 = (8 : Int32) then ck (inb (0 : Int32) 6) (some ((gI σ2 28 (0 : Int32).toNatClampNeg), σ2)) else ck (inb (0 : Int32) 5) (some ((gI σ2 32 (0 : Int32).toNatClampNeg), σ2))) else (if p1 = (10 : Int32) then some ((gI σ2 0 55), σ2) else some ((gI σ2 0 1), σ2)))))))))
set_option maxHeartbeats 4000000 in
set_option maxRecDepth 100000 in
theorem x_X12_count (p1 : Int32) (σ : Mm) : Con (wsOf SHM) yX12_count cX12_count 2 (some .int) 3 [.ref 0, .int p1] σ (f_X12_count p1 σ) := by
  refine Con.of_X (by decide +kernel) (Nat.le_of_ble_eq_true rfl) ?_
  unfold f_X12_count
  show X (wsOf SHM) RX12 cX12_count 2 (some .int) 3 0 0 [(0, .ref 0), (1, .int p1)] [] σ _
  refine X_aload_n (pc := 0) (td kX12_count 0 rfl) rfl 0 rfl ?_
  refine X_iconst (v := (0 : Int32)) (pc := 1) (td kX12_count 1 rfl) (by decide) ?_
  refine X_putI (pc := 2) sM_0 rfl fk_X12_169 rfl rfl (td kX12_count 2 rfl) (fun σ2 => ?_)
  refine X_iload_n (pc := 5) (td kX12_count 3 rfl) rfl 1 rfl ?_
  refine X_iconst (v := (0 : Int32)) (pc := 6) (td kX12_count 4 rfl) (by decide) ?_
  refine X_bipush (v := (11 : Int32)) (pc := 7) (td kX12_count 5 rfl) (by decide) ?_
  refine X_callsip (pc := 9) (As := [.int p1, .int (0 : Int32), .int (11 : Int32)]) (st := []) (p_X12_within p1 (0 : Int32) (11 : Int32) σ2) (x_X12_within p1 (0 : Int32) (11 : Int32) σ2) mkX12_within lk_X12_287 (by omega) rfl rfl (Nat.le_of_ble_eq_true rfl) (td kX12_count 6 rfl) (fun r9 hr9 => ?_)
  refine X_if_ne (pc := 12) (tgt := 17) (td kX12_count 7 rfl) (by decide) (fun c_12 => ?_) (fun c_12 => ?_)
  · refine X_iload_n (pc := 17) (td kX12_count 10 rfl) rfl 1 rfl ?_
    refine X_iconst (v := (3 : Int32)) (pc := 18) (td kX12_count 11 rfl) (by decide) ?_
    refine X_icmp_ge (pc := 19) (tgt := 29) (td kX12_count 12 rfl) (by decide) (fun c_19 => ?_) (fun c_19 => ?_)
    · refine X_iload_n (pc := 29) (td kX12_count 18 rfl) rfl 1 rfl ?_
      refine X_bipush (v := (6 : Int32)) (pc := 30) (td kX12_count 19 rfl) (by decide) ?_
      refine X_icmp_ge (pc := 32) (tgt := 66) (td kX12_count 20 rfl) (by decide) (fun c_32 => ?_) (fun c_32 => ?_)
      · refine X_iload_n (pc := 66) (td kX12_count 38 rfl) rfl 1 rfl ?_
        refine X_bipush (v := (8 : Int32)) (pc := 67) (td kX12_count 39 rfl) (by decide) ?_
        refine X_icmp_ge (pc := 69) (tgt := 94) (td kX12_count 40 rfl) (by decide) (fun c_69 => ?_) (fun c_69 => ?_)
        · refine X_iload_n (pc := 94) (td kX12_count 54 rfl) rfl 1 rfl ?_
          refine X_bipush (v := (10 : Int32)) (pc := 95) (td kX12_count 55 rfl) (by decide) ?_
          refine X_icmp_ge (pc := 97) (tgt := 122) (td kX12_count 56 rfl) (by decide) (fun c_97 => ?_) (fun c_97 => ?_)
          · refine X_iload_n (pc := 122) (td kX12_count 70 rfl) rfl 1 rfl ?_
            refine X_bipush (v := (10 : Int32)) (pc := 123) (td kX12_count 71 rfl) (by decide) ?_
            refine X_icmp_ne (pc := 125) (tgt := 135) (td kX12_count 72 rfl) (by decide) (fun c_125 => ?_) (fun c_125 => ?_)
            · refine X_aload_n (pc := 135) (td kX12_count 76 rfl) rfl 0 rfl ?_
              refine X_getI (pc := 136) sM_0 rfl fk_X12_174 (td kX12_count 77 rfl) ?_
              exact X_ret (pc := 139) (td kX12_count 78 rfl) rfl
            · refine X_aload_n (pc := 128) (td kX12_count 73 rfl) rfl 0 rfl ?_
              refine X_getI (pc := 129) sM_0 rfl fk_X12_377 (td kX12_count 74 rfl) ?_
              refine X_goto (pc := 132) (tgt := 139) (td kX12_count 75 rfl) (by decide) ?_
              exact X_ret (pc := 139) (td kX12_count 78 rfl) rfl
          · refine X_iload_n (pc := 100) (td kX12_count 57 rfl) rfl 1 rfl ?_
            refine X_bipush (v := (8 : Int32)) (pc := 101) (td kX12_count 58 rfl) (by decide) ?_
            refine X_icmp_ne (pc := 103) (tgt := 115) (td kX12_count 59 rfl) (by decide) (fun c_103 => ?_) (fun c_103 => ?_)
            · refine X_aload_n (pc := 115) (td kX12_count 65 rfl) rfl 0 rfl ?_
              refine X_getF (b := 32) (pc := 116) sM_0 rfl fk_X12_105 (td kX12_count 66 rfl) ?_
              refine X_iconst (v := (0 : Int32)) (pc := 119) (td kX12_count 67 rfl) (by decide) ?_
              refine X_iald (pc := 120) sM_32 (td kX12_count 68 rfl) ?_
              exact X_ret (pc := 121) (td kX12_count 69 rfl) rfl
            · refine X_aload_n (pc := 106) (td kX12_count 60 rfl) rfl 0 rfl ?_
              refine X_getF (b := 28) (pc := 107) sM_0 rfl fk_X12_93 (td kX12_count 61 rfl) ?_
              refine X_iconst (v := (0 : Int32)) (pc := 110) (td kX12_count 62 rfl) (by decide) ?_
              refine X_iald (pc := 111) sM_28 (td kX12_count 63 rfl) ?_
              refine X_goto (pc := 112) (tgt := 121) (td kX12_count 64 rfl) (by decide) ?_
              exact X_ret (pc := 121) (td kX12_count 69 rfl) rfl
        · refine X_iload_n (pc := 72) (td kX12_count 41 rfl) rfl 1 rfl ?_
          refine X_bipush (v := (6 : Int32)) (pc := 73) (td kX12_count 42 rfl) (by decide) ?_
          refine X_icmp_ne (pc := 75) (tgt := 87) (td kX12_count 43 rfl) (by decide) (fun c_75 => ?_) (fun c_75 => ?_)
          · refine X_aload_n (pc := 87) (td kX12_count 49 rfl) rfl 0 rfl ?_
            refine X_getF (b := 36) (pc := 88) sM_0 rfl fk_X12_117 (td kX12_count 50 rfl) ?_
            refine X_iconst (v := (2 : Int32)) (pc := 91) (td kX12_count 51 rfl) (by decide) ?_
            refine X_iald (pc := 92) sM_36 (td kX12_count 52 rfl) ?_
            exact X_ret (pc := 93) (td kX12_count 53 rfl) rfl
          · refine X_aload_n (pc := 78) (td kX12_count 44 rfl) rfl 0 rfl ?_
            refine X_getF (b := 36) (pc := 79) sM_0 rfl fk_X12_117 (td kX12_count 45 rfl) ?_
            refine X_iconst (v := (1 : Int32)) (pc := 82) (td kX12_count 46 rfl) (by decide) ?_
            refine X_iald (pc := 83) sM_36 (td kX12_count 47 rfl) ?_
            refine X_goto (pc := 84) (tgt := 93) (td kX12_count 48 rfl) (by decide) ?_
            exact X_ret (pc := 93) (td kX12_count 53 rfl) rfl
      · refine X_iload_n (pc := 35) (td kX12_count 21 rfl) rfl 1 rfl ?_
        refine X_iconst (v := (3 : Int32)) (pc := 36) (td kX12_count 22 rfl) (by decide) ?_
        refine X_icmp_ne (pc := 37) (tgt := 49) (td kX12_count 23 rfl) (by decide) (fun c_37 => ?_) (fun c_37 => ?_)
        · refine X_iload_n (pc := 49) (td kX12_count 29 rfl) rfl 1 rfl ?_
          refine X_iconst (v := (4 : Int32)) (pc := 50) (td kX12_count 30 rfl) (by decide) ?_
          refine X_icmp_ne (pc := 51) (tgt := 61) (td kX12_count 31 rfl) (by decide) (fun c_51 => ?_) (fun c_51 => ?_)
          · refine X_aload_n (pc := 61) (td kX12_count 35 rfl) rfl 0 rfl ?_
            refine X_callip (pc := 62) (As := []) (st := []) (p_X12_burning σ2) sM_0 (x_X12_burning σ2) mkX12_burning lk_X12_451 (by omega) rfl rfl (Nat.le_of_ble_eq_true rfl) (td kX12_count 36 rfl) (fun r62 hr62 => ?_)
            exact X_ret (pc := 65) (td kX12_count 37 rfl) rfl
          · refine X_aload_n (pc := 54) (td kX12_count 32 rfl) rfl 0 rfl ?_
            refine X_callip (pc := 55) (As := []) (st := []) (p_X12_homes σ2) sM_0 (x_X12_homes σ2) mkX12_homes lk_X12_390 (by omega) rfl rfl (Nat.le_of_ble_eq_true rfl) (td kX12_count 33 rfl) (fun r55 hr55 => ?_)
            refine X_goto (pc := 58) (tgt := 65) (td kX12_count 34 rfl) (by decide) ?_
            exact X_ret (pc := 65) (td kX12_count 37 rfl) rfl
        · refine X_aload_n (pc := 40) (td kX12_count 24 rfl) rfl 0 rfl ?_
          refine X_getF (b := 36) (pc := 41) sM_0 rfl fk_X12_117 (td kX12_count 25 rfl) ?_
          refine X_iconst (v := (0 : Int32)) (pc := 44) (td kX12_count 26 rfl) (by decide) ?_
          refine X_iald (pc := 45) sM_36 (td kX12_count 27 rfl) ?_
          refine X_goto (pc := 46) (tgt := 65) (td kX12_count 28 rfl) (by decide) ?_
          exact X_ret (pc := 65) (td kX12_count 37 rfl) rfl
    · refine X_aload_n (pc := 22) (td kX12_count 13 rfl) rfl 0 rfl ?_
      refine X_getF (b := 2) (pc := 23) sM_0 rfl fk_X12_13 (td kX12_count 14 rfl) ?_
      refine X_iload_n (pc := 26) (td kX12_count 15 rfl) rfl 1 rfl ?_
      refine X_iald (pc := 27) sM_2 (td kX12_count 16 rfl) ?_
      exact X_ret (pc := 28) (td kX12_count 17 rfl) rfl
  · refine X_iconst (v := (-1 : Int32)) (pc := 15) (td kX12_count 8 rfl) (by decide) ?_
    exact X_ret (pc := 16) (td kX12_count 9 rfl) rfl
def f_X12_darks (p1 : Int32) (σ : Mm) : Option (Int32 × Mm) := bn (pI σ 0 0 (0 : Int32)) (fun σ2 => cl (f_X12_isWalker p1 σ2) (fun r7 _ => (if r7 = 0 then some ((-1 : Int32), σ2) else cl (f_X12_tries σ2) (fun _ σ16 => ck (inb p1 6) (some ((gI σ16 44 p1.toNatClampNeg), σ16))))))
set_option maxHeartbeats 4000000 in
set_option maxRecDepth 100000 in
theorem x_X12_darks (p1 : Int32) (σ : Mm) : Con (wsOf SHM) yX12_darks cX12_darks 2 (some .int) 8 [.ref 0, .int p1] σ (f_X12_darks p1 σ) := by
  refine Con.of_X (by decide +kernel) (Nat.le_of_ble_eq_true rfl) ?_
  unfold f_X12_darks
  show X (wsOf SHM) RX12 cX12_darks 2 (some .int) 8 0 0 [(0, .ref 0), (1, .int p1)] [] σ _
  refine X_aload_n (pc := 0) (td kX12_darks 0 rfl) rfl 0 rfl ?_
  refine X_iconst (v := (0 : Int32)) (pc := 1) (td kX12_darks 1 rfl) (by decide) ?_
  refine X_putI (pc := 2) sM_0 rfl fk_X12_169 rfl rfl (td kX12_darks 2 rfl) (fun σ2 => ?_)
  refine X_aload_n (pc := 5) (td kX12_darks 3 rfl) rfl 0 rfl ?_
  refine X_iload_n (pc := 6) (td kX12_darks 4 rfl) rfl 1 rfl ?_
  refine X_callip (pc := 7) (As := [.int p1]) (st := []) (p_X12_isWalker p1 σ2) sM_0 (x_X12_isWalker p1 σ2) mkX12_isWalker lk_X12_423 (by omega) rfl rfl (Nat.le_of_ble_eq_true rfl) (td kX12_darks 5 rfl) (fun r7 hr7 => ?_)
  refine X_if_ne (pc := 10) (tgt := 15) (td kX12_darks 6 rfl) (by decide) (fun c_10 => ?_) (fun c_10 => ?_)
  · refine X_aload_n (pc := 15) (td kX12_darks 9 rfl) rfl 0 rfl ?_
    refine X_callv (pc := 16) (As := []) (st := []) sM_0 (x_X12_tries σ2) mkX12_tries lk_X12_478 (by omega) rfl rfl (Nat.le_of_ble_eq_true rfl) (td kX12_darks 10 rfl) (fun _ σ16 _ => ?_)
    refine X_aload_n (pc := 19) (td kX12_darks 11 rfl) rfl 0 rfl ?_
    refine X_getF (b := 44) (pc := 20) sM_0 rfl fk_X12_145 (td kX12_darks 12 rfl) ?_
    refine X_iload_n (pc := 23) (td kX12_darks 13 rfl) rfl 1 rfl ?_
    refine X_iald (pc := 24) sM_44 (td kX12_darks 14 rfl) ?_
    exact X_ret (pc := 25) (td kX12_darks 15 rfl) rfl
  · refine X_iconst (v := (-1 : Int32)) (pc := 13) (td kX12_darks 7 rfl) (by decide) ?_
    exact X_ret (pc := 14) (td kX12_darks 8 rfl) rfl
def f_X12_waitsMore (p1 : Int32) (σ : Mm) : Option (Int32 × Mm) := bn ((23 : Int32) + p1) (fun i_16 => ck (inb i_16 41) (ck (inb (0 : Int32) 41) (ck (inb ((23 : Int32) + p1) 41) (bn (pI σ 36 ((23 : Int32) + p1).toNatClampNeg ((imx (gI σ 36 i_16.toNatClampNeg) (gI σ 36 (0 : Int32).toNatClampNeg)) + (1 : Int32))) (fun σ28 => some (0, σ28))))))
set_option maxHeartbeats 4000000 in
set_option maxRecDepth 100000 in
theorem x_X12_waitsMore (p1 : Int32) (σ : Mm) : Con (wsOf SHM) yX12_waitsMore cX12_waitsMore 2 none 1 [.ref 0, .int p1] σ (f_X12_waitsMore p1 σ) := by
  refine Con.of_X (by decide +kernel) (Nat.le_of_ble_eq_true rfl) ?_
  unfold f_X12_waitsMore
  show X (wsOf SHM) RX12 cX12_waitsMore 2 none 1 0 0 [(0, .ref 0), (1, .int p1)] [] σ _
  refine X_aload_n (pc := 0) (td kX12_waitsMore 0 rfl) rfl 0 rfl ?_
  refine X_getF (b := 36) (pc := 1) sM_0 rfl fk_X12_117 (td kX12_waitsMore 1 rfl) ?_
  refine X_bipush (v := (23 : Int32)) (pc := 4) (td kX12_waitsMore 2 rfl) (by decide) ?_
  refine X_iload_n (pc := 6) (td kX12_waitsMore 3 rfl) rfl 1 rfl ?_
  refine X_iadd (pc := 7) (td kX12_waitsMore 4 rfl) ?_
  refine X_aload_n (pc := 8) (td kX12_waitsMore 5 rfl) rfl 0 rfl ?_
  refine X_getF (b := 36) (pc := 9) sM_0 rfl fk_X12_117 (td kX12_waitsMore 6 rfl) ?_
  refine X_bipush (v := (23 : Int32)) (pc := 12) (td kX12_waitsMore 7 rfl) (by decide) ?_
  refine X_iload_n (pc := 14) (td kX12_waitsMore 8 rfl) rfl 1 rfl ?_
  refine X_iadd (pc := 15) (td kX12_waitsMore 9 rfl) ?_
  refine X_bi (fun i_16 => ?_)
  refine X_iald (pc := 16) sM_36 (td kX12_waitsMore 10 rfl) ?_
  refine X_aload_n (pc := 17) (td kX12_waitsMore 11 rfl) rfl 0 rfl ?_
  refine X_getF (b := 36) (pc := 18) sM_0 rfl fk_X12_117 (td kX12_waitsMore 12 rfl) ?_
  refine X_iconst (v := (0 : Int32)) (pc := 21) (td kX12_waitsMore 13 rfl) (by decide) ?_
  refine X_iald (pc := 22) sM_36 (td kX12_waitsMore 14 rfl) ?_
  refine X_mmax2 (pc := 23) (td kX12_waitsMore 15 rfl) lm_X12_405 (by omega) (Nat.le_of_ble_eq_true rfl) ?_
  refine X_iconst (v := (1 : Int32)) (pc := 26) (td kX12_waitsMore 16 rfl) (by decide) ?_
  refine X_iadd (pc := 27) (td kX12_waitsMore 17 rfl) ?_
  refine X_iast (pc := 28) sM_36 (td kX12_waitsMore 18 rfl) (fun σ28 => ?_)
  exact X_retv (pc := 29) (td kX12_waitsMore 19 rfl)
def F_X12_delays_105 (fr0 : Int32 → Int32 → Mm → Option (Int32 × Mm)) (p1 : Int32) (p2 : Int32) (k162 : Mm → Option (Int32 × Mm)) (rec105 : Int32 → Mm → Option (Int32 × Mm)) (x4_105 : Int32) (σ_105 : Mm) : Option (Int32 × Mm) := (if x4_105 < (3 : Int32) then jn (ck (inb p1 6) (bn (pI σ_105 47 p1.toNatClampNeg x4_105) (fun σ131 => cl (fr0 (p1 + (1 : Int32)) (p2 + x4_105) σ131) (fun _ σ140 => cl (f_X12_isHome p1 σ140) (fun r145 _ => jn (fun (σ_156 : Mm) => rec105 (x4_105 + (1 : Int32)) σ_156) (fun k156 => (if r145 = 0 then cl (f_X12_waitsMore p1 σ140) (fun _ σ153 => k156 σ153) else k156 σ140))))))) (fun k124 => (if x4_105 = 0 then k124 else cl (f_X12_isHome p1 σ_105) (fun r118 _ => (if r118 = 0 then k124 else k162 σ_105)))) else k162 σ_105)
def F_X12_delays_67 (k91 : Mm → Option (Int32 × Mm)) (rec67 : Int32 → Mm → Option (Int32 × Mm)) (x3_67 : Int32) (σ_67 : Mm) : Option (Int32 × Mm) := (if x3_67 < (6 : Int32) then ck (inb x3_67 6) (ck (inb x3_67 6) (bn (pI σ_67 48 x3_67.toNatClampNeg (gI σ_67 47 x3_67.toNatClampNeg)) (fun σ84 => rec67 (x3_67 + (1 : Int32)) σ84))) else k91 σ_67)
def fb_X12_delays (fr0 : Int32 → Int32 → Mm → Option (Int32 × Mm)) (p1 : Int32) (p2 : Int32) (σ : Mm) : Option (Int32 × Mm) := ck (inb (2 : Int32) 8) ((if p1 = (gI σ 2 (2 : Int32).toNatClampNeg) then cl (f_X12_tries σ) (fun _ σ11 => jn (bn (pI σ11 0 69 (gI σ11 0 61)) (fun σ57 => bn (pI σ57 0 70 p2) (fun σ62 => jn (fun (σ_91 : Mm) => some (0, σ_91)) (fun k91 => lq2 (F_X12_delays_67 k91) 1000000 (0 : Int32) σ62)))) (fun k52 => (if (gI σ11 0 69) < 0 then k52 else (if (gI σ11 0 69) < (gI σ11 0 61) then some (0, σ11) else (if (gI σ11 0 61) = (gI σ11 0 69) then (if p2 < (gI σ11 0 70) then k52 else some (0, σ11)) else k52))))) else bn ((23 : Int32) + p1) (fun i_100 => ck (inb i_100 41) (bn (gI σ 36 i_100.toNatClampNeg) (fun v3_101 => jn (fun (σ_162 : Mm) => ck (inb ((23 : Int32) + p1) 41) (bn (pI σ_162 36 ((23 : Int32) + p1).toNatClampNeg v3_101) (fun σ171 => some (0, σ171)))) (fun k162 => lq2 (F_X12_delays_105 fr0 p1 p2 k162) 1000000 (0 : Int32) σ))))))
set_option maxHeartbeats 4000000 in
set_option maxRecDepth 100000 in
theorem xb_X12_delays (n : Nat) (fr0 : Int32 → Int32 → Mm → Option (Int32 × Mm)) (hr0 : ∀ (p1 : Int32) (p2 : Int32) (σ : Mm), Con (wsOf SHM) yX12_delays cX12_delays 5 none (8 + n) [.ref 0, .int p1, .int p2] σ (fr0 p1 p2 σ)) : ∀ (p1 : Int32) (p2 : Int32) (σ : Mm), Con (wsOf SHM) yX12_delays cX12_delays 5 none (8 + (n + 1)) [.ref 0, .int p1, .int p2] σ (fb_X12_delays fr0 p1 p2 σ) := by
  intro p1 p2 σ
  refine Con.of_X (by decide +kernel) (Nat.le_of_ble_eq_true rfl) ?_
  unfold fb_X12_delays
  show X (wsOf SHM) RX12 cX12_delays 5 none (8 + (n + 1)) 0 0 [(0, .ref 0), (1, .int p1), (2, .int p2)] [] σ _
  refine X_iload_n (pc := 0) (td kX12_delays 0 rfl) rfl 1 rfl ?_
  refine X_aload_n (pc := 1) (td kX12_delays 1 rfl) rfl 0 rfl ?_
  refine X_getF (b := 2) (pc := 2) sM_0 rfl fk_X12_13 (td kX12_delays 2 rfl) ?_
  refine X_iconst (v := (2 : Int32)) (pc := 5) (td kX12_delays 3 rfl) (by decide) ?_
  refine X_iald (pc := 6) sM_2 (td kX12_delays 4 rfl) ?_
  refine X_icmp_ne (pc := 7) (tgt := 92) (td kX12_delays 5 rfl) (by decide) (fun c_7 => ?_) (fun c_7 => ?_)
  · refine X_aload_n (pc := 92) (td kX12_delays 49 rfl) rfl 0 rfl ?_
    refine X_getF (b := 36) (pc := 93) sM_0 rfl fk_X12_117 (td kX12_delays 50 rfl) ?_
    refine X_bipush (v := (23 : Int32)) (pc := 96) (td kX12_delays 51 rfl) (by decide) ?_
    refine X_iload_n (pc := 98) (td kX12_delays 52 rfl) rfl 1 rfl ?_
    refine X_iadd (pc := 99) (td kX12_delays 53 rfl) ?_
    refine X_bi (fun i_100 => ?_)
    refine X_iald (pc := 100) sM_36 (td kX12_delays 54 rfl) ?_
    refine X_bi (fun v3_101 => ?_)
    refine X_istore_n (L' := [(3, .int v3_101), (0, .ref 0), (1, .int p1), (2, .int p2)]) (pc := 101) (td kX12_delays 55 rfl) rfl (by decide) rfl ?_
    refine X_iconst (v := (0 : Int32)) (pc := 102) (td kX12_delays 56 rfl) (by decide) ?_
    refine X_istore (L' := [(4, .int (0 : Int32)), (3, .int v3_101), (0, .ref 0), (1, .int p1), (2, .int p2)]) (pc := 103) (td kX12_delays 57 rfl) (by decide) rfl ?_
    refine X_jn (P := fun k => ∀ (σ_162 : Mm), X (wsOf SHM) RX12 cX12_delays 5 none (8 + (n + 1)) 0 162 [(0, .ref 0), (1, .int p1), (3, .int v3_101)] [] σ_162 (k σ_162)) (fun σ_162 => ?_) (fun k162 h162 => ?_)
    · refine X_aload_n (pc := 162) (td kX12_delays 89 rfl) rfl 0 rfl ?_
      refine X_getF (b := 36) (pc := 163) sM_0 rfl fk_X12_117 (td kX12_delays 90 rfl) ?_
      refine X_bipush (v := (23 : Int32)) (pc := 166) (td kX12_delays 91 rfl) (by decide) ?_
      refine X_iload_n (pc := 168) (td kX12_delays 92 rfl) rfl 1 rfl ?_
      refine X_iadd (pc := 169) (td kX12_delays 93 rfl) ?_
      refine X_iload_n (pc := 170) (td kX12_delays 94 rfl) rfl 2 rfl ?_
      refine X_iast (pc := 171) sM_36 (td kX12_delays 95 rfl) (fun σ171 => ?_)
      exact X_retv (pc := 172) (td kX12_delays 96 rfl)
    · refine X_sub [2, 3, 4, 1, 0] rfl ?_
      refine lq2_ind (P := fun x4_105 σ_105 E => X (wsOf SHM) RX12 cX12_delays 5 none (8 + (n + 1)) 0 105 [(0, .ref 0), (1, .int p1), (2, .int p2), (3, .int v3_101), (4, .int x4_105)] [] σ_105 E) (fun _ _ => X_none) (fun rec105 hrec105 x4_105 σ_105 => ?_) _ _ _
      unfold F_X12_delays_105
      refine X_iload (pc := 105) (td kX12_delays 58 rfl) 4 rfl ?_
      refine X_iconst (v := (3 : Int32)) (pc := 107) (td kX12_delays 59 rfl) (by decide) ?_
      refine X_icmp_ge (pc := 108) (tgt := 162) (td kX12_delays 60 rfl) (by decide) (fun c_108 => ?_) (fun c_108 => ?_)
      · refine X_sub [0, 1, 3] rfl ?_
        exact h162 σ_105
      · refine X_iload (pc := 111) (td kX12_delays 61 rfl) 4 rfl ?_
        refine X_jn (P := fun k => X (wsOf SHM) RX12 cX12_delays 5 none (8 + (n + 1)) 0 124 [(0, .ref 0), (1, .int p1), (2, .int p2), (3, .int v3_101), (4, .int x4_105)] [] σ_105 k) ?_ (fun k124 h124 => ?_)
        · refine X_aload_n (pc := 124) (td kX12_delays 67 rfl) rfl 0 rfl ?_
          refine X_getF (b := 47) (pc := 125) sM_0 rfl fk_X12_154 (td kX12_delays 68 rfl) ?_
          refine X_iload_n (pc := 128) (td kX12_delays 69 rfl) rfl 1 rfl ?_
          refine X_iload (pc := 129) (td kX12_delays 70 rfl) 4 rfl ?_
          refine X_iast (pc := 131) sM_47 (td kX12_delays 71 rfl) (fun σ131 => ?_)
          refine X_aload_n (pc := 132) (td kX12_delays 72 rfl) rfl 0 rfl ?_
          refine X_iload_n (pc := 133) (td kX12_delays 73 rfl) rfl 1 rfl ?_
          refine X_iconst (v := (1 : Int32)) (pc := 134) (td kX12_delays 74 rfl) (by decide) ?_
          refine X_iadd (pc := 135) (td kX12_delays 75 rfl) ?_
          refine X_iload_n (pc := 136) (td kX12_delays 76 rfl) rfl 2 rfl ?_
          refine X_iload (pc := 137) (td kX12_delays 77 rfl) 4 rfl ?_
          refine X_iadd (pc := 139) (td kX12_delays 78 rfl) ?_
          refine X_callv (pc := 140) (As := [.int (p1 + (1 : Int32)), .int (p2 + x4_105)]) (st := []) sM_0 (hr0 (p1 + (1 : Int32)) (p2 + x4_105) σ131) mkX12_delays lk_X12_487 (by omega) rfl rfl (Nat.le_of_ble_eq_true rfl) (td kX12_delays 79 rfl) (fun _ σ140 _ => ?_)
          refine X_aload_n (pc := 143) (td kX12_delays 80 rfl) rfl 0 rfl ?_
          refine X_iload_n (pc := 144) (td kX12_delays 81 rfl) rfl 1 rfl ?_
          refine X_callip (pc := 145) (As := [.int p1]) (st := []) (p_X12_isHome p1 σ140) sM_0 (x_X12_isHome p1 σ140) mkX12_isHome lk_X12_387 (by omega) rfl rfl (Nat.le_of_ble_eq_true rfl) (td kX12_delays 82 rfl) (fun r145 hr145 => ?_)
          refine X_jn (P := fun k => ∀ (σ_156 : Mm), X (wsOf SHM) RX12 cX12_delays 5 none (8 + (n + 1)) 0 156 [(0, .ref 0), (1, .int p1), (2, .int p2), (3, .int v3_101), (4, .int x4_105)] [] σ_156 (k σ_156)) (fun σ_156 => ?_) (fun k156 h156 => ?_)
          · refine X_iinc (v := (x4_105 + (1 : Int32))) (L' := [(4, .int (x4_105 + (1 : Int32))), (0, .ref 0), (1, .int p1), (2, .int p2), (3, .int v3_101)]) (pc := 156) (td kX12_delays 87 rfl) 4 rfl rfl (by decide) rfl ?_
            refine X_goto (pc := 159) (tgt := 105) (td kX12_delays 88 rfl) (by decide) ?_
            refine X_sub [1, 2, 3, 4, 0] rfl ?_
            exact hrec105 (x4_105 + (1 : Int32)) σ_156
          · refine X_if_ne (pc := 148) (tgt := 156) (td kX12_delays 83 rfl) (by decide) (fun c_148 => ?_) (fun c_148 => ?_)
            · exact h156 σ140
            · refine X_aload_n (pc := 151) (td kX12_delays 84 rfl) rfl 0 rfl ?_
              refine X_iload_n (pc := 152) (td kX12_delays 85 rfl) rfl 1 rfl ?_
              refine X_callv (pc := 153) (As := [.int p1]) (st := []) sM_0 (x_X12_waitsMore p1 σ140) mkX12_waitsMore lk_X12_442 (by omega) rfl rfl (Nat.le_of_ble_eq_true rfl) (td kX12_delays 86 rfl) (fun _ σ153 _ => ?_)
              exact h156 σ153
        · refine X_if_eq (pc := 113) (tgt := 124) (td kX12_delays 62 rfl) (by decide) (fun c_113 => ?_) (fun c_113 => ?_)
          · exact h124
          · refine X_aload_n (pc := 116) (td kX12_delays 63 rfl) rfl 0 rfl ?_
            refine X_iload_n (pc := 117) (td kX12_delays 64 rfl) rfl 1 rfl ?_
            refine X_callip (pc := 118) (As := [.int p1]) (st := []) (p_X12_isHome p1 σ_105) sM_0 (x_X12_isHome p1 σ_105) mkX12_isHome lk_X12_387 (by omega) rfl rfl (Nat.le_of_ble_eq_true rfl) (td kX12_delays 65 rfl) (fun r118 hr118 => ?_)
            refine X_if_ne (pc := 121) (tgt := 162) (td kX12_delays 66 rfl) (by decide) (fun c_121 => ?_) (fun c_121 => ?_)
            · refine X_sub [0, 1, 3] rfl ?_
              exact h162 σ_105
            · exact h124
  · refine X_aload_n (pc := 10) (td kX12_delays 6 rfl) rfl 0 rfl ?_
    refine X_callv (pc := 11) (As := []) (st := []) sM_0 (x_X12_tries σ) mkX12_tries lk_X12_478 (by omega) rfl rfl (Nat.le_of_ble_eq_true rfl) (td kX12_delays 7 rfl) (fun _ σ11 _ => ?_)
    refine X_aload_n (pc := 14) (td kX12_delays 8 rfl) rfl 0 rfl ?_
    refine X_getI (pc := 15) sM_0 rfl fk_X12_481 (td kX12_delays 9 rfl) ?_
    refine X_jn (P := fun k => X (wsOf SHM) RX12 cX12_delays 5 none (8 + (n + 1)) 0 52 [(0, .ref 0), (2, .int p2)] [] σ11 k) ?_ (fun k52 h52 => ?_)
    · refine X_aload_n (pc := 52) (td kX12_delays 26 rfl) rfl 0 rfl ?_
      refine X_aload_n (pc := 53) (td kX12_delays 27 rfl) rfl 0 rfl ?_
      refine X_getI (pc := 54) sM_0 rfl fk_X12_457 (td kX12_delays 28 rfl) ?_
      refine X_putI (pc := 57) sM_0 rfl fk_X12_481 rfl rfl (td kX12_delays 29 rfl) (fun σ57 => ?_)
      refine X_aload_n (pc := 60) (td kX12_delays 30 rfl) rfl 0 rfl ?_
      refine X_iload_n (pc := 61) (td kX12_delays 31 rfl) rfl 1 rfl ?_
      refine X_putI (pc := 62) sM_0 rfl fk_X12_484 rfl rfl (td kX12_delays 32 rfl) (fun σ62 => ?_)
      refine X_iconst (v := (0 : Int32)) (pc := 65) (td kX12_delays 33 rfl) (by decide) ?_
      refine X_istore_n (L' := [(3, .int (0 : Int32)), (0, .ref 0), (2, .int p2)]) (pc := 66) (td kX12_delays 34 rfl) rfl (by decide) rfl ?_
      refine X_jn (P := fun k => ∀ (σ_91 : Mm), X (wsOf SHM) RX12 cX12_delays 5 none (8 + (n + 1)) 0 91 [] [] σ_91 (k σ_91)) (fun σ_91 => ?_) (fun k91 h91 => ?_)
      · exact X_retv (pc := 91) (td kX12_delays 48 rfl)
      · refine X_sub [1, 0] rfl ?_
        refine lq2_ind (P := fun x3_67 σ_67 E => X (wsOf SHM) RX12 cX12_delays 5 none (8 + (n + 1)) 0 67 [(0, .ref 0), (3, .int x3_67)] [] σ_67 E) (fun _ _ => X_none) (fun rec67 hrec67 x3_67 σ_67 => ?_) _ _ _
        unfold F_X12_delays_67
        refine X_iload_n (pc := 67) (td kX12_delays 35 rfl) rfl 1 rfl ?_
        refine X_bipush (v := (6 : Int32)) (pc := 68) (td kX12_delays 36 rfl) (by decide) ?_
        refine X_icmp_ge (pc := 70) (tgt := 91) (td kX12_delays 37 rfl) (by decide) (fun c_70 => ?_) (fun c_70 => ?_)
        · refine X_sub [] rfl ?_
          exact h91 σ_67
        · refine X_aload_n (pc := 73) (td kX12_delays 38 rfl) rfl 0 rfl ?_
          refine X_getF (b := 48) (pc := 74) sM_0 rfl fk_X12_157 (td kX12_delays 39 rfl) ?_
          refine X_iload_n (pc := 77) (td kX12_delays 40 rfl) rfl 1 rfl ?_
          refine X_aload_n (pc := 78) (td kX12_delays 41 rfl) rfl 0 rfl ?_
          refine X_getF (b := 47) (pc := 79) sM_0 rfl fk_X12_154 (td kX12_delays 42 rfl) ?_
          refine X_iload_n (pc := 82) (td kX12_delays 43 rfl) rfl 1 rfl ?_
          refine X_iald (pc := 83) sM_47 (td kX12_delays 44 rfl) ?_
          refine X_iast (pc := 84) sM_48 (td kX12_delays 45 rfl) (fun σ84 => ?_)
          refine X_iinc (v := (x3_67 + (1 : Int32))) (L' := [(3, .int (x3_67 + (1 : Int32))), (0, .ref 0)]) (pc := 85) (td kX12_delays 46 rfl) 1 rfl rfl (by decide) rfl ?_
          refine X_goto (pc := 88) (tgt := 67) (td kX12_delays 47 rfl) (by decide) ?_
          refine X_sub [1, 0] rfl ?_
          exact hrec67 (x3_67 + (1 : Int32)) σ84
    · refine X_if_lt (pc := 18) (tgt := 52) (td kX12_delays 10 rfl) (by decide) (fun c_18 => ?_) (fun c_18 => ?_)
      · refine X_sub [0, 2] rfl ?_
        exact h52
      · refine X_aload_n (pc := 21) (td kX12_delays 11 rfl) rfl 0 rfl ?_
        refine X_getI (pc := 22) sM_0 rfl fk_X12_457 (td kX12_delays 12 rfl) ?_
        refine X_aload_n (pc := 25) (td kX12_delays 13 rfl) rfl 0 rfl ?_
        refine X_getI (pc := 26) sM_0 rfl fk_X12_481 (td kX12_delays 14 rfl) ?_
        refine X_icmp_gt (pc := 29) (tgt := 51) (td kX12_delays 15 rfl) (by decide) (fun c_29 => ?_) (fun c_29 => ?_)
        · exact X_retv (pc := 51) (td kX12_delays 25 rfl)
        · refine X_aload_n (pc := 32) (td kX12_delays 16 rfl) rfl 0 rfl ?_
          refine X_getI (pc := 33) sM_0 rfl fk_X12_457 (td kX12_delays 17 rfl) ?_
          refine X_aload_n (pc := 36) (td kX12_delays 18 rfl) rfl 0 rfl ?_
          refine X_getI (pc := 37) sM_0 rfl fk_X12_481 (td kX12_delays 19 rfl) ?_
          refine X_icmp_ne (pc := 40) (tgt := 52) (td kX12_delays 20 rfl) (by decide) (fun c_40 => ?_) (fun c_40 => ?_)
          · refine X_sub [0, 2] rfl ?_
            exact h52
          · refine X_iload_n (pc := 43) (td kX12_delays 21 rfl) rfl 2 rfl ?_
            refine X_aload_n (pc := 44) (td kX12_delays 22 rfl) rfl 0 rfl ?_
            refine X_getI (pc := 45) sM_0 rfl fk_X12_484 (td kX12_delays 23 rfl) ?_
            refine X_icmp_lt (pc := 48) (tgt := 52) (td kX12_delays 24 rfl) (by decide) (fun c_48 => ?_) (fun c_48 => ?_)
            · refine X_sub [0, 2] rfl ?_
              exact h52
            · exact X_retv (pc := 51) (td kX12_delays 25 rfl)
def fDL : Nat → (Int32 → Int32 → Mm → Option (Int32 × Mm))
  | 0 => (fun _ _ _ => none)
  | n + 1 => (fb_X12_delays ((fDL n)))
theorem xfDL : ∀ n, (∀ (p1 : Int32) (p2 : Int32) (σ : Mm), Con (wsOf SHM) yX12_delays cX12_delays 5 none (8 + n) [.ref 0, .int p1, .int p2] σ ((fDL n) p1 p2 σ))
  | 0 => fun _ _ _ _ _ _ _ _ _ _ h => (by cases h)
  | n + 1 => xb_X12_delays n _ (xfDL n)
def f_X12_delays (p1 : Int32) (p2 : Int32) (σ : Mm) : Option (Int32 × Mm) := (fDL 10) p1 p2 σ
theorem x_X12_delays (p1 : Int32) (p2 : Int32) (σ : Mm) : Con (wsOf SHM) yX12_delays cX12_delays 5 none 18 [.ref 0, .int p1, .int p2] σ (f_X12_delays p1 p2 σ) := (xfDL 10) p1 p2 σ
def f_X12_delay (p1 : Int32) (σ : Mm) : Option (Int32 × Mm) := bn (pI σ 0 0 (0 : Int32)) (fun σ2 => jn (bn (pI σ2 0 69 (-1 : Int32)) (fun σ23 => bn (pI σ23 0 70 (0 : Int32)) (fun σ28 => cl (f_X12_delays (0 : Int32) (0 : Int32) σ28) (fun _ σ34 => (if p1 = (-1 : Int32) then some ((gI σ34 0 69), σ34) else ck (inb p1 6) (some ((gI σ34 48 p1.toNatClampNeg), σ34))))))) (fun k21 => (if p1 = (-1 : Int32) then k21 else cl (f_X12_isWalker p1 σ2) (fun r12 _ => (if r12 = 0 then some ((-2 : Int32), σ2) else k21)))))
set_option maxHeartbeats 4000000 in
set_option maxRecDepth 100000 in
theorem x_X12_delay (p1 : Int32) (σ : Mm) : Con (wsOf SHM) yX12_delay cX12_delay 2 (some .int) 19 [.ref 0, .int p1] σ (f_X12_delay p1 σ) := by
  refine Con.of_X (by decide +kernel) (Nat.le_of_ble_eq_true rfl) ?_
  unfold f_X12_delay
  show X (wsOf SHM) RX12 cX12_delay 2 (some .int) 19 0 0 [(0, .ref 0), (1, .int p1)] [] σ _
  refine X_aload_n (pc := 0) (td kX12_delay 0 rfl) rfl 0 rfl ?_
  refine X_iconst (v := (0 : Int32)) (pc := 1) (td kX12_delay 1 rfl) (by decide) ?_
  refine X_putI (pc := 2) sM_0 rfl fk_X12_169 rfl rfl (td kX12_delay 2 rfl) (fun σ2 => ?_)
  refine X_iload_n (pc := 5) (td kX12_delay 3 rfl) rfl 1 rfl ?_
  refine X_iconst (v := (-1 : Int32)) (pc := 6) (td kX12_delay 4 rfl) (by decide) ?_
  refine X_jn (P := fun k => X (wsOf SHM) RX12 cX12_delay 2 (some .int) 19 0 21 [(0, .ref 0), (1, .int p1)] [] σ2 k) ?_ (fun k21 h21 => ?_)
  · refine X_aload_n (pc := 21) (td kX12_delay 12 rfl) rfl 0 rfl ?_
    refine X_iconst (v := (-1 : Int32)) (pc := 22) (td kX12_delay 13 rfl) (by decide) ?_
    refine X_putI (pc := 23) sM_0 rfl fk_X12_481 rfl rfl (td kX12_delay 14 rfl) (fun σ23 => ?_)
    refine X_aload_n (pc := 26) (td kX12_delay 15 rfl) rfl 0 rfl ?_
    refine X_iconst (v := (0 : Int32)) (pc := 27) (td kX12_delay 16 rfl) (by decide) ?_
    refine X_putI (pc := 28) sM_0 rfl fk_X12_484 rfl rfl (td kX12_delay 17 rfl) (fun σ28 => ?_)
    refine X_aload_n (pc := 31) (td kX12_delay 18 rfl) rfl 0 rfl ?_
    refine X_iconst (v := (0 : Int32)) (pc := 32) (td kX12_delay 19 rfl) (by decide) ?_
    refine X_iconst (v := (0 : Int32)) (pc := 33) (td kX12_delay 20 rfl) (by decide) ?_
    refine X_callv (pc := 34) (As := [.int (0 : Int32), .int (0 : Int32)]) (st := []) sM_0 (x_X12_delays (0 : Int32) (0 : Int32) σ28) mkX12_delays lk_X12_487 (by omega) rfl rfl (Nat.le_of_ble_eq_true rfl) (td kX12_delay 21 rfl) (fun _ σ34 _ => ?_)
    refine X_iload_n (pc := 37) (td kX12_delay 22 rfl) rfl 1 rfl ?_
    refine X_iconst (v := (-1 : Int32)) (pc := 38) (td kX12_delay 23 rfl) (by decide) ?_
    refine X_icmp_ne (pc := 39) (tgt := 49) (td kX12_delay 24 rfl) (by decide) (fun c_39 => ?_) (fun c_39 => ?_)
    · refine X_aload_n (pc := 49) (td kX12_delay 28 rfl) rfl 0 rfl ?_
      refine X_getF (b := 48) (pc := 50) sM_0 rfl fk_X12_157 (td kX12_delay 29 rfl) ?_
      refine X_iload_n (pc := 53) (td kX12_delay 30 rfl) rfl 1 rfl ?_
      refine X_iald (pc := 54) sM_48 (td kX12_delay 31 rfl) ?_
      exact X_ret (pc := 55) (td kX12_delay 32 rfl) rfl
    · refine X_aload_n (pc := 42) (td kX12_delay 25 rfl) rfl 0 rfl ?_
      refine X_getI (pc := 43) sM_0 rfl fk_X12_481 (td kX12_delay 26 rfl) ?_
      refine X_goto (pc := 46) (tgt := 55) (td kX12_delay 27 rfl) (by decide) ?_
      exact X_ret (pc := 55) (td kX12_delay 32 rfl) rfl
  · refine X_icmp_eq (pc := 7) (tgt := 21) (td kX12_delay 5 rfl) (by decide) (fun c_7 => ?_) (fun c_7 => ?_)
    · exact h21
    · refine X_aload_n (pc := 10) (td kX12_delay 6 rfl) rfl 0 rfl ?_
      refine X_iload_n (pc := 11) (td kX12_delay 7 rfl) rfl 1 rfl ?_
      refine X_callip (pc := 12) (As := [.int p1]) (st := []) (p_X12_isWalker p1 σ2) sM_0 (x_X12_isWalker p1 σ2) mkX12_isWalker lk_X12_423 (by omega) rfl rfl (Nat.le_of_ble_eq_true rfl) (td kX12_delay 8 rfl) (fun r12 hr12 => ?_)
      refine X_if_ne (pc := 15) (tgt := 21) (td kX12_delay 9 rfl) (by decide) (fun c_15 => ?_) (fun c_15 => ?_)
      · exact h21
      · refine X_bipush (v := (-2 : Int32)) (pc := 18) (td kX12_delay 10 rfl) (by decide) ?_
        exact X_ret (pc := 20) (td kX12_delay 11 rfl) rfl
def f_X12_draws (p1 : Int32) (σ : Mm) : Option (Int32 × Mm) := bn (pL σ 0 72 (lrm (((gL σ 0 72) * (1103515245 : Int64)) + (12345 : Int64)) (2147483648 : Int64))) (fun σ17 => ck (decide (¬ p1.toInt64 = 0)) (some ((lrm ((gL σ17 0 72) / (65536 : Int64)) p1.toInt64).toInt32, σ17)))
set_option maxHeartbeats 4000000 in
set_option maxRecDepth 100000 in
theorem x_X12_draws (p1 : Int32) (σ : Mm) : Con (wsOf SHM) yX12_draws cX12_draws 2 (some .int) 1 [.ref 0, .int p1] σ (f_X12_draws p1 σ) := by
  refine Con.of_X (by decide +kernel) (Nat.le_of_ble_eq_true rfl) ?_
  unfold f_X12_draws
  show X (wsOf SHM) RX12 cX12_draws 2 (some .int) 1 0 0 [(0, .ref 0), (1, .int p1)] [] σ _
  refine X_aload_n (pc := 0) (td kX12_draws 0 rfl) rfl 0 rfl ?_
  refine X_aload_n (pc := 1) (td kX12_draws 1 rfl) rfl 0 rfl ?_
  refine X_getL (pc := 2) sM_0 rfl fk_X12_506 (td kX12_draws 2 rfl) ?_
  refine X_ldc2 (v := (1103515245 : Int64)) (pc := 5) (td kX12_draws 3 rfl) cn_X12_509 ?_
  refine X_lmul (pc := 8) (td kX12_draws 4 rfl) ?_
  refine X_ldc2 (v := (12345 : Int64)) (pc := 9) (td kX12_draws 5 rfl) cn_X12_511 ?_
  refine X_ladd (pc := 12) (td kX12_draws 6 rfl) ?_
  refine X_ldc2 (v := (2147483648 : Int64)) (pc := 13) (td kX12_draws 7 rfl) cn_X12_513 ?_
  refine X_lrem2 (pc := 16) (td kX12_draws 8 rfl) (by decide) ?_
  refine X_putL (pc := 17) sM_0 rfl fk_X12_506 (td kX12_draws 9 rfl) (fun σ17 => ?_)
  refine X_aload_n (pc := 20) (td kX12_draws 10 rfl) rfl 0 rfl ?_
  refine X_getL (pc := 21) sM_0 rfl fk_X12_506 (td kX12_draws 11 rfl) ?_
  refine X_ldc2 (v := (65536 : Int64)) (pc := 24) (td kX12_draws 12 rfl) cn_X12_515 ?_
  refine X_ldiv (pc := 27) (td kX12_draws 13 rfl) (by decide) ?_
  refine X_iload_n (pc := 28) (td kX12_draws 14 rfl) rfl 1 rfl ?_
  refine X_i2l (pc := 29) (td kX12_draws 15 rfl) ?_
  refine X_ck (fun z_30 => ?_)
  refine X_lrem2 (pc := 30) (td kX12_draws 16 rfl) (of_decide_eq_true z_30) ?_
  refine X_l2i (pc := 31) (td kX12_draws 17 rfl) ?_
  exact X_ret (pc := 32) (td kX12_draws 18 rfl) rfl
def F_X12_laysLines_14 (p1 : Int32) (p2 : Int32) (k92 : Mm → Option (Int32 × Mm)) (rec14 : Int32 → Mm → Option (Int32 × Mm)) (x3_14 : Int32) (σ_14 : Mm) : Option (Int32 × Mm) := (if x3_14 < (40 : Int32) then bn (((40 : Int32) * p1) + x3_14) (fun i_40 => ck (inb i_40 240) (ck (inb (((40 : Int32) * p2) + x3_14) 240) (bn (pI σ_14 29 (((40 : Int32) * p2) + x3_14).toNatClampNeg (gI σ_14 29 i_40.toNatClampNeg)) (fun σ41 => bn (((40 : Int32) * p1) + x3_14) (fun i_62 => ck (inb i_62 240) (ck (inb (((40 : Int32) * p2) + x3_14) 240) (bn (pI σ41 30 (((40 : Int32) * p2) + x3_14).toNatClampNeg (gI σ41 30 i_62.toNatClampNeg)) (fun σ63 => bn (((40 : Int32) * p1) + x3_14) (fun i_84 => ck (inb i_84 240) (ck (inb (((40 : Int32) * p2) + x3_14) 240) (bn (pI σ63 31 (((40 : Int32) * p2) + x3_14).toNatClampNeg (gI σ63 31 i_84.toNatClampNeg)) (fun σ85 => rec14 (x3_14 + (1 : Int32)) σ85)))))))))))) else k92 σ_14)
def f_X12_laysLines (p1 : Int32) (p2 : Int32) (σ : Mm) : Option (Int32 × Mm) := ck (inb p1 6) (ck (inb p2 6) (bn (pI σ 28 p2.toNatClampNeg (gI σ 28 p1.toNatClampNeg)) (fun σ11 => jn (fun (σ_92 : Mm) => some (0, σ_92)) (fun k92 => lq2 (F_X12_laysLines_14 p1 p2 k92) 1000000 (0 : Int32) σ11))))
set_option maxHeartbeats 4000000 in
set_option maxRecDepth 100000 in
theorem x_X12_laysLines (p1 : Int32) (p2 : Int32) (σ : Mm) : Con (wsOf SHM) yX12_laysLines cX12_laysLines 4 none 1 [.ref 0, .int p1, .int p2] σ (f_X12_laysLines p1 p2 σ) := by
  refine Con.of_X (by decide +kernel) (Nat.le_of_ble_eq_true rfl) ?_
  unfold f_X12_laysLines
  show X (wsOf SHM) RX12 cX12_laysLines 4 none 1 0 0 [(0, .ref 0), (1, .int p1), (2, .int p2)] [] σ _
  refine X_aload_n (pc := 0) (td kX12_laysLines 0 rfl) rfl 0 rfl ?_
  refine X_getF (b := 28) (pc := 1) sM_0 rfl fk_X12_93 (td kX12_laysLines 1 rfl) ?_
  refine X_iload_n (pc := 4) (td kX12_laysLines 2 rfl) rfl 2 rfl ?_
  refine X_aload_n (pc := 5) (td kX12_laysLines 3 rfl) rfl 0 rfl ?_
  refine X_getF (b := 28) (pc := 6) sM_0 rfl fk_X12_93 (td kX12_laysLines 4 rfl) ?_
  refine X_iload_n (pc := 9) (td kX12_laysLines 5 rfl) rfl 1 rfl ?_
  refine X_iald (pc := 10) sM_28 (td kX12_laysLines 6 rfl) ?_
  refine X_iast (pc := 11) sM_28 (td kX12_laysLines 7 rfl) (fun σ11 => ?_)
  refine X_iconst (v := (0 : Int32)) (pc := 12) (td kX12_laysLines 8 rfl) (by decide) ?_
  refine X_istore_n (L' := [(3, .int (0 : Int32)), (0, .ref 0), (1, .int p1), (2, .int p2)]) (pc := 13) (td kX12_laysLines 9 rfl) rfl (by decide) rfl ?_
  refine X_jn (P := fun k => ∀ (σ_92 : Mm), X (wsOf SHM) RX12 cX12_laysLines 4 none 1 0 92 [] [] σ_92 (k σ_92)) (fun σ_92 => ?_) (fun k92 h92 => ?_)
  · exact X_retv (pc := 92) (td kX12_laysLines 63 rfl)
  · refine X_sub [1, 2, 3, 0] rfl ?_
    refine lq2_ind (P := fun x3_14 σ_14 E => X (wsOf SHM) RX12 cX12_laysLines 4 none 1 0 14 [(0, .ref 0), (1, .int p1), (2, .int p2), (3, .int x3_14)] [] σ_14 E) (fun _ _ => X_none) (fun rec14 hrec14 x3_14 σ_14 => ?_) _ _ _
    unfold F_X12_laysLines_14
    refine X_iload_n (pc := 14) (td kX12_laysLines 10 rfl) rfl 3 rfl ?_
    refine X_bipush (v := (40 : Int32)) (pc := 15) (td kX12_laysLines 11 rfl) (by decide) ?_
    refine X_icmp_ge (pc := 17) (tgt := 92) (td kX12_laysLines 12 rfl) (by decide) (fun c_17 => ?_) (fun c_17 => ?_)
    · refine X_sub [] rfl ?_
      exact h92 σ_14
    · refine X_aload_n (pc := 20) (td kX12_laysLines 13 rfl) rfl 0 rfl ?_
      refine X_getF (b := 29) (pc := 21) sM_0 rfl fk_X12_96 (td kX12_laysLines 14 rfl) ?_
      refine X_bipush (v := (40 : Int32)) (pc := 24) (td kX12_laysLines 15 rfl) (by decide) ?_
      refine X_iload_n (pc := 26) (td kX12_laysLines 16 rfl) rfl 2 rfl ?_
      refine X_imul (pc := 27) (td kX12_laysLines 17 rfl) ?_
      refine X_iload_n (pc := 28) (td kX12_laysLines 18 rfl) rfl 3 rfl ?_
      refine X_iadd (pc := 29) (td kX12_laysLines 19 rfl) ?_
      refine X_aload_n (pc := 30) (td kX12_laysLines 20 rfl) rfl 0 rfl ?_
      refine X_getF (b := 29) (pc := 31) sM_0 rfl fk_X12_96 (td kX12_laysLines 21 rfl) ?_
      refine X_bipush (v := (40 : Int32)) (pc := 34) (td kX12_laysLines 22 rfl) (by decide) ?_
      refine X_iload_n (pc := 36) (td kX12_laysLines 23 rfl) rfl 1 rfl ?_
      refine X_imul (pc := 37) (td kX12_laysLines 24 rfl) ?_
      refine X_iload_n (pc := 38) (td kX12_laysLines 25 rfl) rfl 3 rfl ?_
      refine X_iadd (pc := 39) (td kX12_laysLines 26 rfl) ?_
      refine X_bi (fun i_40 => ?_)
      refine X_iald (pc := 40) sM_29 (td kX12_laysLines 27 rfl) ?_
      refine X_iast (pc := 41) sM_29 (td kX12_laysLines 28 rfl) (fun σ41 => ?_)
      refine X_aload_n (pc := 42) (td kX12_laysLines 29 rfl) rfl 0 rfl ?_
      refine X_getF (b := 30) (pc := 43) sM_0 rfl fk_X12_99 (td kX12_laysLines 30 rfl) ?_
      refine X_bipush (v := (40 : Int32)) (pc := 46) (td kX12_laysLines 31 rfl) (by decide) ?_
      refine X_iload_n (pc := 48) (td kX12_laysLines 32 rfl) rfl 2 rfl ?_
      refine X_imul (pc := 49) (td kX12_laysLines 33 rfl) ?_
      refine X_iload_n (pc := 50) (td kX12_laysLines 34 rfl) rfl 3 rfl ?_
      refine X_iadd (pc := 51) (td kX12_laysLines 35 rfl) ?_
      refine X_aload_n (pc := 52) (td kX12_laysLines 36 rfl) rfl 0 rfl ?_
      refine X_getF (b := 30) (pc := 53) sM_0 rfl fk_X12_99 (td kX12_laysLines 37 rfl) ?_
      refine X_bipush (v := (40 : Int32)) (pc := 56) (td kX12_laysLines 38 rfl) (by decide) ?_
      refine X_iload_n (pc := 58) (td kX12_laysLines 39 rfl) rfl 1 rfl ?_
      refine X_imul (pc := 59) (td kX12_laysLines 40 rfl) ?_
      refine X_iload_n (pc := 60) (td kX12_laysLines 41 rfl) rfl 3 rfl ?_
      refine X_iadd (pc := 61) (td kX12_laysLines 42 rfl) ?_
      refine X_bi (fun i_62 => ?_)
      refine X_iald (pc := 62) sM_30 (td kX12_laysLines 43 rfl) ?_
      refine X_iast (pc := 63) sM_30 (td kX12_laysLines 44 rfl) (fun σ63 => ?_)
      refine X_aload_n (pc := 64) (td kX12_laysLines 45 rfl) rfl 0 rfl ?_
      refine X_getF (b := 31) (pc := 65) sM_0 rfl fk_X12_102 (td kX12_laysLines 46 rfl) ?_
      refine X_bipush (v := (40 : Int32)) (pc := 68) (td kX12_laysLines 47 rfl) (by decide) ?_
      refine X_iload_n (pc := 70) (td kX12_laysLines 48 rfl) rfl 2 rfl ?_
      refine X_imul (pc := 71) (td kX12_laysLines 49 rfl) ?_
      refine X_iload_n (pc := 72) (td kX12_laysLines 50 rfl) rfl 3 rfl ?_
      refine X_iadd (pc := 73) (td kX12_laysLines 51 rfl) ?_
      refine X_aload_n (pc := 74) (td kX12_laysLines 52 rfl) rfl 0 rfl ?_
      refine X_getF (b := 31) (pc := 75) sM_0 rfl fk_X12_102 (td kX12_laysLines 53 rfl) ?_
      refine X_bipush (v := (40 : Int32)) (pc := 78) (td kX12_laysLines 54 rfl) (by decide) ?_
      refine X_iload_n (pc := 80) (td kX12_laysLines 55 rfl) rfl 1 rfl ?_
      refine X_imul (pc := 81) (td kX12_laysLines 56 rfl) ?_
      refine X_iload_n (pc := 82) (td kX12_laysLines 57 rfl) rfl 3 rfl ?_
      refine X_iadd (pc := 83) (td kX12_laysLines 58 rfl) ?_
      refine X_bi (fun i_84 => ?_)
      refine X_iald (pc := 84) sM_31 (td kX12_laysLines 59 rfl) ?_
      refine X_iast (pc := 85) sM_31 (td kX12_laysLines 60 rfl) (fun σ85 => ?_)
      refine X_iinc (v := (x3_14 + (1 : Int32))) (L' := [(3, .int (x3_14 + (1 : Int32))), (0, .ref 0), (1, .int p1), (2, .int p2)]) (pc := 86) (td kX12_laysLines 61 rfl) 3 rfl rfl (by decide) rfl ?_
      refine X_goto (pc := 89) (tgt := 14) (td kX12_laysLines 62 rfl) (by decide) ?_
      refine X_sub [1, 2, 3, 0] rfl ?_
      exact hrec14 (x3_14 + (1 : Int32)) σ85
def f_X12_isKept (σ : Mm) : Option (Int32 × Mm) := (if (gI σ 0 6) = (1 : Int32) then jn (some ((1 : Int32), σ)) (fun k219 => (if (lg_cmp (gL σ 0 7) (8740067 : Int64)) = 0 then k219 else (if (lg_cmp (gL σ 0 7) (237308 : Int64)) = 0 then k219 else (if (lg_cmp (gL σ 0 7) (1489744 : Int64)) = 0 then k219 else (if (lg_cmp (gL σ 0 7) (330800670 : Int64)) = 0 then k219 else (if (lg_cmp (gL σ 0 7) (131638 : Int64)) = 0 then k219 else (if (lg_cmp (gL σ 0 7) (555 : Int64)) = 0 then k219 else (if (lg_cmp (gL σ 0 7) (47 : Int64)) = 0 then k219 else (if (lg_cmp (gL σ 0 7) (1888 : Int64)) = 0 then k219 else (if (lg_cmp (gL σ 0 7) (191610176 : Int64)) = 0 then k219 else (if (lg_cmp (gL σ 0 7) (378004 : Int64)) = 0 then k219 else (if (lg_cmp (gL σ 0 7) (453701 : Int64)) = 0 then k219 else (if (lg_cmp (gL σ 0 7) (40187 : Int64)) = 0 then k219 else (if (lg_cmp (gL σ 0 7) (8740238 : Int64)) = 0 then k219 else (if (lg_cmp (gL σ 0 7) (237292 : Int64)) = 0 then k219 else (if (lg_cmp (gL σ 0 7) (1306021 : Int64)) = 0 then k219 else (if (lg_cmp (gL σ 0 7) (2495756 : Int64)) = 0 then k219 else (if (lg_cmp (gL σ 0 7) (10631 : Int64)) = 0 then k219 else (if (lg_cmp (gL σ 0 7) (1111 : Int64)) = 0 then k219 else (if (lg_cmp (gL σ 0 7) (423 : Int64)) = 0 then k219 else some ((0 : Int32), σ))))))))))))))))))))) else some ((1 : Int32), σ))
set_option maxHeartbeats 4000000 in
set_option maxRecDepth 100000 in
theorem x_X12_isKept (σ : Mm) : Con (wsOf SHM) yX12_isKept cX12_isKept 1 (some .boolean) 1 [.ref 0] σ (f_X12_isKept σ) := by
  refine Con.of_X (by decide +kernel) (Nat.le_of_ble_eq_true rfl) ?_
  unfold f_X12_isKept
  show X (wsOf SHM) RX12 cX12_isKept 1 (some .boolean) 1 0 0 [(0, .ref 0)] [] σ _
  refine X_aload_n (pc := 0) (td kX12_isKept 0 rfl) rfl 0 rfl ?_
  refine X_getI (pc := 1) sM_0 rfl fk_X12_193 (td kX12_isKept 1 rfl) ?_
  refine X_iconst (v := (1 : Int32)) (pc := 4) (td kX12_isKept 2 rfl) (by decide) ?_
  refine X_icmp_eq (pc := 5) (tgt := 10) (td kX12_isKept 3 rfl) (by decide) (fun c_5 => ?_) (fun c_5 => ?_)
  · refine X_aload_n (pc := 10) (td kX12_isKept 6 rfl) rfl 0 rfl ?_
    refine X_getL (pc := 11) sM_0 rfl fk_X12_186 (td kX12_isKept 7 rfl) ?_
    refine X_ldc2 (v := (8740067 : Int64)) (pc := 14) (td kX12_isKept 8 rfl) cn_X12_255 ?_
    refine X_lcmp (pc := 17) (td kX12_isKept 9 rfl) ?_
    refine X_jn (P := fun k => X (wsOf SHM) RX12 cX12_isKept 1 (some .boolean) 1 0 219 [] [] σ k) ?_ (fun k219 h219 => ?_)
    · refine X_iconst (v := (1 : Int32)) (pc := 219) (td kX12_isKept 101 rfl) (by decide) ?_
      refine X_goto (pc := 220) (tgt := 224) (td kX12_isKept 102 rfl) (by decide) ?_
      exact X_ret (pc := 224) (td kX12_isKept 104 rfl) rfl
    · refine X_if_eq (pc := 18) (tgt := 219) (td kX12_isKept 10 rfl) (by decide) (fun c_18 => ?_) (fun c_18 => ?_)
      · refine X_sub [] rfl ?_
        exact h219
      · refine X_aload_n (pc := 21) (td kX12_isKept 11 rfl) rfl 0 rfl ?_
        refine X_getL (pc := 22) sM_0 rfl fk_X12_186 (td kX12_isKept 12 rfl) ?_
        refine X_ldc2 (v := (237308 : Int64)) (pc := 25) (td kX12_isKept 13 rfl) cn_X12_257 ?_
        refine X_lcmp (pc := 28) (td kX12_isKept 14 rfl) ?_
        refine X_if_eq (pc := 29) (tgt := 219) (td kX12_isKept 15 rfl) (by decide) (fun c_29 => ?_) (fun c_29 => ?_)
        · refine X_sub [] rfl ?_
          exact h219
        · refine X_aload_n (pc := 32) (td kX12_isKept 16 rfl) rfl 0 rfl ?_
          refine X_getL (pc := 33) sM_0 rfl fk_X12_186 (td kX12_isKept 17 rfl) ?_
          refine X_ldc2 (v := (1489744 : Int64)) (pc := 36) (td kX12_isKept 18 rfl) cn_X12_259 ?_
          refine X_lcmp (pc := 39) (td kX12_isKept 19 rfl) ?_
          refine X_if_eq (pc := 40) (tgt := 219) (td kX12_isKept 20 rfl) (by decide) (fun c_40 => ?_) (fun c_40 => ?_)
          · refine X_sub [] rfl ?_
            exact h219
          · refine X_aload_n (pc := 43) (td kX12_isKept 21 rfl) rfl 0 rfl ?_
            refine X_getL (pc := 44) sM_0 rfl fk_X12_186 (td kX12_isKept 22 rfl) ?_
            refine X_ldc2 (v := (330800670 : Int64)) (pc := 47) (td kX12_isKept 23 rfl) cn_X12_261 ?_
            refine X_lcmp (pc := 50) (td kX12_isKept 24 rfl) ?_
            refine X_if_eq (pc := 51) (tgt := 219) (td kX12_isKept 25 rfl) (by decide) (fun c_51 => ?_) (fun c_51 => ?_)
            · refine X_sub [] rfl ?_
              exact h219
            · refine X_aload_n (pc := 54) (td kX12_isKept 26 rfl) rfl 0 rfl ?_
              refine X_getL (pc := 55) sM_0 rfl fk_X12_186 (td kX12_isKept 27 rfl) ?_
              refine X_ldc2 (v := (131638 : Int64)) (pc := 58) (td kX12_isKept 28 rfl) cn_X12_263 ?_
              refine X_lcmp (pc := 61) (td kX12_isKept 29 rfl) ?_
              refine X_if_eq (pc := 62) (tgt := 219) (td kX12_isKept 30 rfl) (by decide) (fun c_62 => ?_) (fun c_62 => ?_)
              · refine X_sub [] rfl ?_
                exact h219
              · refine X_aload_n (pc := 65) (td kX12_isKept 31 rfl) rfl 0 rfl ?_
                refine X_getL (pc := 66) sM_0 rfl fk_X12_186 (td kX12_isKept 32 rfl) ?_
                refine X_ldc2 (v := (555 : Int64)) (pc := 69) (td kX12_isKept 33 rfl) cn_X12_265 ?_
                refine X_lcmp (pc := 72) (td kX12_isKept 34 rfl) ?_
                refine X_if_eq (pc := 73) (tgt := 219) (td kX12_isKept 35 rfl) (by decide) (fun c_73 => ?_) (fun c_73 => ?_)
                · refine X_sub [] rfl ?_
                  exact h219
                · refine X_aload_n (pc := 76) (td kX12_isKept 36 rfl) rfl 0 rfl ?_
                  refine X_getL (pc := 77) sM_0 rfl fk_X12_186 (td kX12_isKept 37 rfl) ?_
                  refine X_ldc2 (v := (47 : Int64)) (pc := 80) (td kX12_isKept 38 rfl) cn_X12_267 ?_
                  refine X_lcmp (pc := 83) (td kX12_isKept 39 rfl) ?_
                  refine X_if_eq (pc := 84) (tgt := 219) (td kX12_isKept 40 rfl) (by decide) (fun c_84 => ?_) (fun c_84 => ?_)
                  · refine X_sub [] rfl ?_
                    exact h219
                  · refine X_aload_n (pc := 87) (td kX12_isKept 41 rfl) rfl 0 rfl ?_
                    refine X_getL (pc := 88) sM_0 rfl fk_X12_186 (td kX12_isKept 42 rfl) ?_
                    refine X_ldc2 (v := (1888 : Int64)) (pc := 91) (td kX12_isKept 43 rfl) cn_X12_269 ?_
                    refine X_lcmp (pc := 94) (td kX12_isKept 44 rfl) ?_
                    refine X_if_eq (pc := 95) (tgt := 219) (td kX12_isKept 45 rfl) (by decide) (fun c_95 => ?_) (fun c_95 => ?_)
                    · refine X_sub [] rfl ?_
                      exact h219
                    · refine X_aload_n (pc := 98) (td kX12_isKept 46 rfl) rfl 0 rfl ?_
                      refine X_getL (pc := 99) sM_0 rfl fk_X12_186 (td kX12_isKept 47 rfl) ?_
                      refine X_ldc2 (v := (191610176 : Int64)) (pc := 102) (td kX12_isKept 48 rfl) cn_X12_271 ?_
                      refine X_lcmp (pc := 105) (td kX12_isKept 49 rfl) ?_
                      refine X_if_eq (pc := 106) (tgt := 219) (td kX12_isKept 50 rfl) (by decide) (fun c_106 => ?_) (fun c_106 => ?_)
                      · refine X_sub [] rfl ?_
                        exact h219
                      · refine X_aload_n (pc := 109) (td kX12_isKept 51 rfl) rfl 0 rfl ?_
                        refine X_getL (pc := 110) sM_0 rfl fk_X12_186 (td kX12_isKept 52 rfl) ?_
                        refine X_ldc2 (v := (378004 : Int64)) (pc := 113) (td kX12_isKept 53 rfl) cn_X12_273 ?_
                        refine X_lcmp (pc := 116) (td kX12_isKept 54 rfl) ?_
                        refine X_if_eq (pc := 117) (tgt := 219) (td kX12_isKept 55 rfl) (by decide) (fun c_117 => ?_) (fun c_117 => ?_)
                        · refine X_sub [] rfl ?_
                          exact h219
                        · refine X_aload_n (pc := 120) (td kX12_isKept 56 rfl) rfl 0 rfl ?_
                          refine X_getL (pc := 121) sM_0 rfl fk_X12_186 (td kX12_isKept 57 rfl) ?_
                          refine X_ldc2 (v := (453701 : Int64)) (pc := 124) (td kX12_isKept 58 rfl) cn_X12_275 ?_
                          refine X_lcmp (pc := 127) (td kX12_isKept 59 rfl) ?_
                          refine X_if_eq (pc := 128) (tgt := 219) (td kX12_isKept 60 rfl) (by decide) (fun c_128 => ?_) (fun c_128 => ?_)
                          · refine X_sub [] rfl ?_
                            exact h219
                          · refine X_aload_n (pc := 131) (td kX12_isKept 61 rfl) rfl 0 rfl ?_
                            refine X_getL (pc := 132) sM_0 rfl fk_X12_186 (td kX12_isKept 62 rfl) ?_
                            refine X_ldc2 (v := (40187 : Int64)) (pc := 135) (td kX12_isKept 63 rfl) cn_X12_277 ?_
                            refine X_lcmp (pc := 138) (td kX12_isKept 64 rfl) ?_
                            refine X_if_eq (pc := 139) (tgt := 219) (td kX12_isKept 65 rfl) (by decide) (fun c_139 => ?_) (fun c_139 => ?_)
                            · refine X_sub [] rfl ?_
                              exact h219
                            · refine X_aload_n (pc := 142) (td kX12_isKept 66 rfl) rfl 0 rfl ?_
                              refine X_getL (pc := 143) sM_0 rfl fk_X12_186 (td kX12_isKept 67 rfl) ?_
                              refine X_ldc2 (v := (8740238 : Int64)) (pc := 146) (td kX12_isKept 68 rfl) cn_X12_279 ?_
                              refine X_lcmp (pc := 149) (td kX12_isKept 69 rfl) ?_
                              refine X_if_eq (pc := 150) (tgt := 219) (td kX12_isKept 70 rfl) (by decide) (fun c_150 => ?_) (fun c_150 => ?_)
                              · refine X_sub [] rfl ?_
                                exact h219
                              · refine X_aload_n (pc := 153) (td kX12_isKept 71 rfl) rfl 0 rfl ?_
                                refine X_getL (pc := 154) sM_0 rfl fk_X12_186 (td kX12_isKept 72 rfl) ?_
                                refine X_ldc2 (v := (237292 : Int64)) (pc := 157) (td kX12_isKept 73 rfl) cn_X12_281 ?_
                                refine X_lcmp (pc := 160) (td kX12_isKept 74 rfl) ?_
                                refine X_if_eq (pc := 161) (tgt := 219) (td kX12_isKept 75 rfl) (by decide) (fun c_161 => ?_) (fun c_161 => ?_)
                                · refine X_sub [] rfl ?_
                                  exact h219
                                · refine X_aload_n (pc := 164) (td kX12_isKept 76 rfl) rfl 0 rfl ?_
                                  refine X_getL (pc := 165) sM_0 rfl fk_X12_186 (td kX12_isKept 77 rfl) ?_
                                  refine X_ldc2 (v := (1306021 : Int64)) (pc := 168) (td kX12_isKept 78 rfl) cn_X12_283 ?_
                                  refine X_lcmp (pc := 171) (td kX12_isKept 79 rfl) ?_
                                  refine X_if_eq (pc := 172) (tgt := 219) (td kX12_isKept 80 rfl) (by decide) (fun c_172 => ?_) (fun c_172 => ?_)
                                  · refine X_sub [] rfl ?_
                                    exact h219
                                  · refine X_aload_n (pc := 175) (td kX12_isKept 81 rfl) rfl 0 rfl ?_
                                    refine X_getL (pc := 176) sM_0 rfl fk_X12_186 (td kX12_isKept 82 rfl) ?_
                                    refine X_ldc2 (v := (2495756 : Int64)) (pc := 179) (td kX12_isKept 83 rfl) cn_X12_285 ?_
                                    refine X_lcmp (pc := 182) (td kX12_isKept 84 rfl) ?_
                                    refine X_if_eq (pc := 183) (tgt := 219) (td kX12_isKept 85 rfl) (by decide) (fun c_183 => ?_) (fun c_183 => ?_)
                                    · refine X_sub [] rfl ?_
                                      exact h219
                                    · refine X_aload_n (pc := 186) (td kX12_isKept 86 rfl) rfl 0 rfl ?_
                                      refine X_getL (pc := 187) sM_0 rfl fk_X12_186 (td kX12_isKept 87 rfl) ?_
                                      refine X_ldc2 (v := (10631 : Int64)) (pc := 190) (td kX12_isKept 88 rfl) cn_X12_222 ?_
                                      refine X_lcmp (pc := 193) (td kX12_isKept 89 rfl) ?_
                                      refine X_if_eq (pc := 194) (tgt := 219) (td kX12_isKept 90 rfl) (by decide) (fun c_194 => ?_) (fun c_194 => ?_)
                                      · refine X_sub [] rfl ?_
                                        exact h219
                                      · refine X_aload_n (pc := 197) (td kX12_isKept 91 rfl) rfl 0 rfl ?_
                                        refine X_getL (pc := 198) sM_0 rfl fk_X12_186 (td kX12_isKept 92 rfl) ?_
                                        refine X_ldc2 (v := (1111 : Int64)) (pc := 201) (td kX12_isKept 93 rfl) cn_X12_242 ?_
                                        refine X_lcmp (pc := 204) (td kX12_isKept 94 rfl) ?_
                                        refine X_if_eq (pc := 205) (tgt := 219) (td kX12_isKept 95 rfl) (by decide) (fun c_205 => ?_) (fun c_205 => ?_)
                                        · refine X_sub [] rfl ?_
                                          exact h219
                                        · refine X_aload_n (pc := 208) (td kX12_isKept 96 rfl) rfl 0 rfl ?_
                                          refine X_getL (pc := 209) sM_0 rfl fk_X12_186 (td kX12_isKept 97 rfl) ?_
                                          refine X_ldc2 (v := (423 : Int64)) (pc := 212) (td kX12_isKept 98 rfl) cn_X12_244 ?_
                                          refine X_lcmp (pc := 215) (td kX12_isKept 99 rfl) ?_
                                          refine X_if_ne (pc := 216) (tgt := 223) (td kX12_isKept 100 rfl) (by decide) (fun c_216 => ?_) (fun c_216 => ?_)
                                          · refine X_iconst (v := (0 : Int32)) (pc := 223) (td kX12_isKept 103 rfl) (by decide) ?_
                                            exact X_ret (pc := 224) (td kX12_isKept 104 rfl) rfl
                                          · refine X_sub [] rfl ?_
                                            exact h219
  · refine X_iconst (v := (1 : Int32)) (pc := 8) (td kX12_isKept 4 rfl) (by decide) ?_
    exact X_ret (pc := 9) (td kX12_isKept 5 rfl) rfl
set_option maxHeartbeats 4000000 in
theorem p_X12_isKept (σ : Mm) : Pu σ (f_X12_isKept σ) := by
  unfold f_X12_isKept
  refine Pu_if ?_ ?_
  · refine Pu_jn (fun k => Pu σ (k)) ?_ (fun k219 h219 => ?_)
    · exact Pu_some
    · refine Pu_if ?_ ?_
      · exact h219
      · refine Pu_if ?_ ?_
        · exact h219
        · refine Pu_if ?_ ?_
          · exact h219
          · refine Pu_if ?_ ?_
            · exact h219
            · refine Pu_if ?_ ?_
              · exact h219
              · refine Pu_if ?_ ?_
                · exact h219
                · refine Pu_if ?_ ?_
                  · exact h219
                  · refine Pu_if ?_ ?_
                    · exact h219
                    · refine Pu_if ?_ ?_
                      · exact h219
                      · refine Pu_if ?_ ?_
                        · exact h219
                        · refine Pu_if ?_ ?_
                          · exact h219
                          · refine Pu_if ?_ ?_
                            · exact h219
                            · refine Pu_if ?_ ?_
                              · exact h219
                              · refine Pu_if ?_ ?_
                                · exact h219
                                · refine Pu_if ?_ ?_
                                  · exact h219
                                  · refine Pu_if ?_ ?_
                                    · exact h219
                                    · refine Pu_if ?_ ?_
                                      · exact h219
                                      · refine Pu_if ?_ ?_
                                        · exact h219
                                        · refine Pu_if ?_ ?_
                                          · exact h219
                                          · exact Pu_some
  · exact Pu_some
def f_X12_isWord (p1 : Int64) (σ : Mm) : Option (Int32 × Mm) := jn (some ((0 : Int32), σ)) (fun k21 => (if (gI σ 0 6) = (1 : Int32) then (if (lg_cmp (gL σ 0 7) p1) = 0 then some ((1 : Int32), σ) else k21) else k21))
set_option maxHeartbeats 4000000 in
set_option maxRecDepth 100000 in
theorem x_X12_isWord (p1 : Int64) (σ : Mm) : Con (wsOf SHM) yX12_isWord cX12_isWord 3 (some .boolean) 1 [.ref 0, .long p1] σ (f_X12_isWord p1 σ) := by
  refine Con.of_X (by decide +kernel) (Nat.le_of_ble_eq_true rfl) ?_
  unfold f_X12_isWord
  show X (wsOf SHM) RX12 cX12_isWord 3 (some .boolean) 1 0 0 [(0, .ref 0), (1, .long p1)] [] σ _
  refine X_aload_n (pc := 0) (td kX12_isWord 0 rfl) rfl 0 rfl ?_
  refine X_getI (pc := 1) sM_0 rfl fk_X12_193 (td kX12_isWord 1 rfl) ?_
  refine X_iconst (v := (1 : Int32)) (pc := 4) (td kX12_isWord 2 rfl) (by decide) ?_
  refine X_jn (P := fun k => X (wsOf SHM) RX12 cX12_isWord 3 (some .boolean) 1 0 21 [] [] σ k) ?_ (fun k21 h21 => ?_)
  · refine X_iconst (v := (0 : Int32)) (pc := 21) (td kX12_isWord 11 rfl) (by decide) ?_
    exact X_ret (pc := 22) (td kX12_isWord 12 rfl) rfl
  · refine X_icmp_ne (pc := 5) (tgt := 21) (td kX12_isWord 3 rfl) (by decide) (fun c_5 => ?_) (fun c_5 => ?_)
    · refine X_sub [] rfl ?_
      exact h21
    · refine X_aload_n (pc := 8) (td kX12_isWord 4 rfl) rfl 0 rfl ?_
      refine X_getL (pc := 9) sM_0 rfl fk_X12_186 (td kX12_isWord 5 rfl) ?_
      refine X_lload_n (pc := 12) (td kX12_isWord 6 rfl) rfl 1 rfl ?_
      refine X_lcmp (pc := 13) (td kX12_isWord 7 rfl) ?_
      refine X_if_ne (pc := 14) (tgt := 21) (td kX12_isWord 8 rfl) (by decide) (fun c_14 => ?_) (fun c_14 => ?_)
      · refine X_sub [] rfl ?_
        exact h21
      · refine X_iconst (v := (1 : Int32)) (pc := 17) (td kX12_isWord 9 rfl) (by decide) ?_
        refine X_goto (pc := 18) (tgt := 22) (td kX12_isWord 10 rfl) (by decide) ?_
        exact X_ret (pc := 22) (td kX12_isWord 12 rfl) rfl
set_option maxHeartbeats 4000000 in
theorem p_X12_isWord (p1 : Int64) (σ : Mm) : Pu σ (f_X12_isWord p1 σ) := by
  unfold f_X12_isWord
  refine Pu_jn (fun k => Pu σ (k)) ?_ (fun k21 h21 => ?_)
  · exact Pu_some
  · refine Pu_if ?_ ?_
    · refine Pu_if ?_ ?_
      · exact Pu_some
      · exact h21
    · exact h21
def F_X12_placeNamed_5 (p1 : Int32) (σ : Mm) (k51 : Option (Int32 × Mm)) (rec5 : Int32 → Option (Int32 × Mm)) (x2_5 : Int32) : Option (Int32 × Mm) := bn (((4 : Int32) * p1) + (0 : Int32)) (fun i_19 => ck (inb i_19 8) ((if x2_5 < (((6 : Int32) * p1) + (gI σ 2 i_19.toNatClampNeg)) then ck (inb x2_5 12) ((if (lg_cmp (gL σ 3 x2_5.toNatClampNeg) (gL σ 0 7)) = 0 then some ((x2_5 - ((6 : Int32) * p1)), σ) else rec5 (x2_5 + (1 : Int32)))) else k51)))
def f_X12_placeNamed (p1 : Int32) (σ : Mm) : Option (Int32 × Mm) := bn ((6 : Int32) * p1) (fun v2_4 => jn (some ((-1 : Int32), σ)) (fun k51 => lq1 (F_X12_placeNamed_5 p1 σ k51) 1000000 v2_4))
set_option maxHeartbeats 4000000 in
set_option maxRecDepth 100000 in
theorem x_X12_placeNamed (p1 : Int32) (σ : Mm) : Con (wsOf SHM) yX12_placeNamed cX12_placeNamed 3 (some .int) 1 [.ref 0, .int p1] σ (f_X12_placeNamed p1 σ) := by
  refine Con.of_X (by decide +kernel) (Nat.le_of_ble_eq_true rfl) ?_
  unfold f_X12_placeNamed
  show X (wsOf SHM) RX12 cX12_placeNamed 3 (some .int) 1 0 0 [(0, .ref 0), (1, .int p1)] [] σ _
  refine X_bipush (v := (6 : Int32)) (pc := 0) (td kX12_placeNamed 0 rfl) (by decide) ?_
  refine X_iload_n (pc := 2) (td kX12_placeNamed 1 rfl) rfl 1 rfl ?_
  refine X_imul (pc := 3) (td kX12_placeNamed 2 rfl) ?_
  refine X_bi (fun v2_4 => ?_)
  refine X_istore_n (L' := [(2, .int v2_4), (0, .ref 0), (1, .int p1)]) (pc := 4) (td kX12_placeNamed 3 rfl) rfl (by decide) rfl ?_
  refine X_jn (P := fun k => X (wsOf SHM) RX12 cX12_placeNamed 3 (some .int) 1 0 51 [] [] σ k) ?_ (fun k51 h51 => ?_)
  · refine X_iconst (v := (-1 : Int32)) (pc := 51) (td kX12_placeNamed 34 rfl) (by decide) ?_
    exact X_ret (pc := 52) (td kX12_placeNamed 35 rfl) rfl
  · refine X_sub [1, 2, 0] rfl ?_
    refine lq1_ind (P := fun x2_5 E => X (wsOf SHM) RX12 cX12_placeNamed 3 (some .int) 1 0 5 [(0, .ref 0), (1, .int p1), (2, .int x2_5)] [] σ E) (fun _ => X_none) (fun rec5 hrec5 x2_5 => ?_) _ _
    unfold F_X12_placeNamed_5
    refine X_iload_n (pc := 5) (td kX12_placeNamed 4 rfl) rfl 2 rfl ?_
    refine X_bipush (v := (6 : Int32)) (pc := 6) (td kX12_placeNamed 5 rfl) (by decide) ?_
    refine X_iload_n (pc := 8) (td kX12_placeNamed 6 rfl) rfl 1 rfl ?_
    refine X_imul (pc := 9) (td kX12_placeNamed 7 rfl) ?_
    refine X_aload_n (pc := 10) (td kX12_placeNamed 8 rfl) rfl 0 rfl ?_
    refine X_getF (b := 2) (pc := 11) sM_0 rfl fk_X12_13 (td kX12_placeNamed 9 rfl) ?_
    refine X_iconst (v := (4 : Int32)) (pc := 14) (td kX12_placeNamed 10 rfl) (by decide) ?_
    refine X_iload_n (pc := 15) (td kX12_placeNamed 11 rfl) rfl 1 rfl ?_
    refine X_imul (pc := 16) (td kX12_placeNamed 12 rfl) ?_
    refine X_iconst (v := (0 : Int32)) (pc := 17) (td kX12_placeNamed 13 rfl) (by decide) ?_
    refine X_iadd (pc := 18) (td kX12_placeNamed 14 rfl) ?_
    refine X_bi (fun i_19 => ?_)
    refine X_iald (pc := 19) sM_2 (td kX12_placeNamed 15 rfl) ?_
    refine X_iadd (pc := 20) (td kX12_placeNamed 16 rfl) ?_
    refine X_icmp_ge (pc := 21) (tgt := 51) (td kX12_placeNamed 17 rfl) (by decide) (fun c_21 => ?_) (fun c_21 => ?_)
    · refine X_sub [] rfl ?_
      exact h51
    · refine X_aload_n (pc := 24) (td kX12_placeNamed 18 rfl) rfl 0 rfl ?_
      refine X_getF (b := 3) (pc := 25) sM_0 rfl fk_X12_16 (td kX12_placeNamed 19 rfl) ?_
      refine X_iload_n (pc := 28) (td kX12_placeNamed 20 rfl) rfl 2 rfl ?_
      refine X_lald (pc := 29) sM_3 (td kX12_placeNamed 21 rfl) ?_
      refine X_aload_n (pc := 30) (td kX12_placeNamed 22 rfl) rfl 0 rfl ?_
      refine X_getL (pc := 31) sM_0 rfl fk_X12_186 (td kX12_placeNamed 23 rfl) ?_
      refine X_lcmp (pc := 34) (td kX12_placeNamed 24 rfl) ?_
      refine X_if_ne (pc := 35) (tgt := 45) (td kX12_placeNamed 25 rfl) (by decide) (fun c_35 => ?_) (fun c_35 => ?_)
      · refine X_iinc (v := (x2_5 + (1 : Int32))) (L' := [(2, .int (x2_5 + (1 : Int32))), (0, .ref 0), (1, .int p1)]) (pc := 45) (td kX12_placeNamed 32 rfl) 2 rfl rfl (by decide) rfl ?_
        refine X_goto (pc := 48) (tgt := 5) (td kX12_placeNamed 33 rfl) (by decide) ?_
        refine X_sub [1, 2, 0] rfl ?_
        exact hrec5 (x2_5 + (1 : Int32))
      · refine X_iload_n (pc := 38) (td kX12_placeNamed 26 rfl) rfl 2 rfl ?_
        refine X_bipush (v := (6 : Int32)) (pc := 39) (td kX12_placeNamed 27 rfl) (by decide) ?_
        refine X_iload_n (pc := 41) (td kX12_placeNamed 28 rfl) rfl 1 rfl ?_
        refine X_imul (pc := 42) (td kX12_placeNamed 29 rfl) ?_
        refine X_isub (pc := 43) (td kX12_placeNamed 30 rfl) ?_
        exact X_ret (pc := 44) (td kX12_placeNamed 31 rfl) rfl
set_option maxHeartbeats 4000000 in
theorem p_X12_placeNamed (p1 : Int32) (σ : Mm) : Pu σ (f_X12_placeNamed p1 σ) := by
  unfold f_X12_placeNamed
  refine Pu_bn (fun _ => ?_)
  refine Pu_jn (fun k => Pu σ (k)) ?_ (fun k51 h51 => ?_)
  · exact Pu_some
  · refine lq1_ind (P := fun _ E => Pu σ E) (fun _ => Pu_none) (fun rec5 hrec5 x2_5 => ?_) _ _
    unfold F_X12_placeNamed_5
    refine Pu_bn (fun _ => ?_)
    refine Pu_ck ?_
    refine Pu_if ?_ ?_
    · refine Pu_ck ?_
      refine Pu_if ?_ ?_
      · exact Pu_some
      · exact hrec5 _
    · exact h51
def f_X12_needsPlace (p1 : Int32) (σ : Mm) : Option (Int32 × Mm) := cl (f_X12_isKept σ) (fun r1 _ => (if r1 = 0 then cl (f_X12_placeNamed p1 σ) (fun r16 _ => bn (pI σ 0 37 r16) (fun σ19 => jn (fun (σ_37 : Mm) => some ((1 : Int32), σ_37)) (fun k37 => (if (gI σ19 0 37) < 0 then cl (f_X12_fails (2 : Int32) σ19) (fun r31 σ31 => (if r31 = 0 then some ((0 : Int32), σ31) else k37 σ31)) else k37 σ19)))) else cl (f_X12_fails (1 : Int32) σ) (fun r9 σ9 => some (r9, σ9))))
set_option maxHeartbeats 4000000 in
set_option maxRecDepth 100000 in
theorem x_X12_needsPlace (p1 : Int32) (σ : Mm) : Con (wsOf SHM) yX12_needsPlace cX12_needsPlace 2 (some .boolean) 2 [.ref 0, .int p1] σ (f_X12_needsPlace p1 σ) := by
  refine Con.of_X (by decide +kernel) (Nat.le_of_ble_eq_true rfl) ?_
  unfold f_X12_needsPlace
  show X (wsOf SHM) RX12 cX12_needsPlace 2 (some .boolean) 2 0 0 [(0, .ref 0), (1, .int p1)] [] σ _
  refine X_aload_n (pc := 0) (td kX12_needsPlace 0 rfl) rfl 0 rfl ?_
  refine X_callip (pc := 1) (As := []) (st := []) (p_X12_isKept σ) sM_0 (x_X12_isKept σ) mkX12_isKept lk_X12_294 (by omega) rfl rfl (Nat.le_of_ble_eq_true rfl) (td kX12_needsPlace 1 rfl) (fun r1 hr1 => ?_)
  refine X_if_eq (pc := 4) (tgt := 13) (td kX12_needsPlace 2 rfl) (by decide) (fun c_4 => ?_) (fun c_4 => ?_)
  · refine X_aload_n (pc := 13) (td kX12_needsPlace 7 rfl) rfl 0 rfl ?_
    refine X_aload_n (pc := 14) (td kX12_needsPlace 8 rfl) rfl 0 rfl ?_
    refine X_iload_n (pc := 15) (td kX12_needsPlace 9 rfl) rfl 1 rfl ?_
    refine X_callip (pc := 16) (As := [.int p1]) (st := [.ref 0]) (p_X12_placeNamed p1 σ) sM_0 (x_X12_placeNamed p1 σ) mkX12_placeNamed lk_X12_298 (by omega) rfl rfl (Nat.le_of_ble_eq_true rfl) (td kX12_needsPlace 10 rfl) (fun r16 hr16 => ?_)
    refine X_putI (pc := 19) sM_0 rfl fk_X12_291 rfl rfl (td kX12_needsPlace 11 rfl) (fun σ19 => ?_)
    refine X_aload_n (pc := 22) (td kX12_needsPlace 12 rfl) rfl 0 rfl ?_
    refine X_getI (pc := 23) sM_0 rfl fk_X12_291 (td kX12_needsPlace 13 rfl) ?_
    refine X_jn (P := fun k => ∀ (σ_37 : Mm), X (wsOf SHM) RX12 cX12_needsPlace 2 (some .boolean) 2 0 37 [] [] σ_37 (k σ_37)) (fun σ_37 => ?_) (fun k37 h37 => ?_)
    · refine X_iconst (v := (1 : Int32)) (pc := 37) (td kX12_needsPlace 19 rfl) (by decide) ?_
      refine X_goto (pc := 38) (tgt := 42) (td kX12_needsPlace 20 rfl) (by decide) ?_
      exact X_ret (pc := 42) (td kX12_needsPlace 22 rfl) rfl
    · refine X_if_ge (pc := 26) (tgt := 37) (td kX12_needsPlace 14 rfl) (by decide) (fun c_26 => ?_) (fun c_26 => ?_)
      · refine X_sub [] rfl ?_
        exact h37 σ19
      · refine X_aload_n (pc := 29) (td kX12_needsPlace 15 rfl) rfl 0 rfl ?_
        refine X_iconst (v := (2 : Int32)) (pc := 30) (td kX12_needsPlace 16 rfl) (by decide) ?_
        refine X_calli (pc := 31) (As := [.int (2 : Int32)]) (st := []) sM_0 (x_X12_fails (2 : Int32) σ19) mkX12_fails lk_X12_232 (by omega) rfl rfl (Nat.le_of_ble_eq_true rfl) (td kX12_needsPlace 17 rfl) (fun r31 σ31 _ hr31 => ?_)
        refine X_if_eq (pc := 34) (tgt := 41) (td kX12_needsPlace 18 rfl) (by decide) (fun c_34 => ?_) (fun c_34 => ?_)
        · refine X_iconst (v := (0 : Int32)) (pc := 41) (td kX12_needsPlace 21 rfl) (by decide) ?_
          exact X_ret (pc := 42) (td kX12_needsPlace 22 rfl) rfl
        · refine X_sub [] rfl ?_
          exact h37 σ31
  · refine X_aload_n (pc := 7) (td kX12_needsPlace 3 rfl) rfl 0 rfl ?_
    refine X_iconst (v := (1 : Int32)) (pc := 8) (td kX12_needsPlace 4 rfl) (by decide) ?_
    refine X_calli (pc := 9) (As := [.int (1 : Int32)]) (st := []) sM_0 (x_X12_fails (1 : Int32) σ) mkX12_fails lk_X12_232 (by omega) rfl rfl (Nat.le_of_ble_eq_true rfl) (td kX12_needsPlace 5 rfl) (fun r9 σ9 _ hr9 => ?_)
    exact X_ret (pc := 12) (td kX12_needsPlace 6 rfl) hr9
def f_X12_needsTwo (p1 : Int32) (σ : Mm) : Option (Int32 × Mm) := cl (f_X12_needsPlace p1 σ) (fun r2 σ2 => (if r2 = 0 then some ((0 : Int32), σ2) else bn (pI σ2 0 39 (gI σ2 0 37)) (fun σ15 => cl (f_X12_nextToken σ15) (fun _ σ19 => cl (f_X12_needsPlace p1 σ19) (fun r24 σ24 => jn (fun (σ_53 : Mm) => some ((0 : Int32), σ_53)) (fun k53 => (if r24 = 0 then k53 σ24 else jn (fun (σ_49 : Mm) => some ((1 : Int32), σ_49)) (fun k49 => (if (gI σ24 0 37) = (gI σ24 0 39) then cl (f_X12_fails (3 : Int32) σ24) (fun r43 σ43 => (if r43 = 0 then k53 σ43 else k49 σ43)) else k49 σ24)))))))))
set_option maxHeartbeats 4000000 in
set_option maxRecDepth 100000 in
theorem x_X12_needsTwo (p1 : Int32) (σ : Mm) : Con (wsOf SHM) yX12_needsTwo cX12_needsTwo 2 (some .boolean) 3 [.ref 0, .int p1] σ (f_X12_needsTwo p1 σ) := by
  refine Con.of_X (by decide +kernel) (Nat.le_of_ble_eq_true rfl) ?_
  unfold f_X12_needsTwo
  show X (wsOf SHM) RX12 cX12_needsTwo 2 (some .boolean) 3 0 0 [(0, .ref 0), (1, .int p1)] [] σ _
  refine X_aload_n (pc := 0) (td kX12_needsTwo 0 rfl) rfl 0 rfl ?_
  refine X_iload_n (pc := 1) (td kX12_needsTwo 1 rfl) rfl 1 rfl ?_
  refine X_calli (pc := 2) (As := [.int p1]) (st := []) sM_0 (x_X12_needsPlace p1 σ) mkX12_needsPlace lk_X12_306 (by omega) rfl rfl (Nat.le_of_ble_eq_true rfl) (td kX12_needsTwo 2 rfl) (fun r2 σ2 _ hr2 => ?_)
  refine X_if_ne (pc := 5) (tgt := 10) (td kX12_needsTwo 3 rfl) (by decide) (fun c_5 => ?_) (fun c_5 => ?_)
  · refine X_aload_n (pc := 10) (td kX12_needsTwo 6 rfl) rfl 0 rfl ?_
    refine X_aload_n (pc := 11) (td kX12_needsTwo 7 rfl) rfl 0 rfl ?_
    refine X_getI (pc := 12) sM_0 rfl fk_X12_291 (td kX12_needsTwo 8 rfl) ?_
    refine X_putI (pc := 15) sM_0 rfl fk_X12_309 rfl rfl (td kX12_needsTwo 9 rfl) (fun σ15 => ?_)
    refine X_aload_n (pc := 18) (td kX12_needsTwo 10 rfl) rfl 0 rfl ?_
    refine X_callv (pc := 19) (As := []) (st := []) sM_0 (x_X12_nextToken σ15) mkX12_nextToken lk_X12_239 (by omega) rfl rfl (Nat.le_of_ble_eq_true rfl) (td kX12_needsTwo 11 rfl) (fun _ σ19 _ => ?_)
    refine X_aload_n (pc := 22) (td kX12_needsTwo 12 rfl) rfl 0 rfl ?_
    refine X_iload_n (pc := 23) (td kX12_needsTwo 13 rfl) rfl 1 rfl ?_
    refine X_calli (pc := 24) (As := [.int p1]) (st := []) sM_0 (x_X12_needsPlace p1 σ19) mkX12_needsPlace lk_X12_306 (by omega) rfl rfl (Nat.le_of_ble_eq_true rfl) (td kX12_needsTwo 14 rfl) (fun r24 σ24 _ hr24 => ?_)
    refine X_jn (P := fun k => ∀ (σ_53 : Mm), X (wsOf SHM) RX12 cX12_needsTwo 2 (some .boolean) 3 0 53 [] [] σ_53 (k σ_53)) (fun σ_53 => ?_) (fun k53 h53 => ?_)
    · refine X_iconst (v := (0 : Int32)) (pc := 53) (td kX12_needsTwo 27 rfl) (by decide) ?_
      exact X_ret (pc := 54) (td kX12_needsTwo 28 rfl) rfl
    · refine X_if_eq (pc := 27) (tgt := 53) (td kX12_needsTwo 15 rfl) (by decide) (fun c_27 => ?_) (fun c_27 => ?_)
      · refine X_sub [] rfl ?_
        exact h53 σ24
      · refine X_aload_n (pc := 30) (td kX12_needsTwo 16 rfl) rfl 0 rfl ?_
        refine X_getI (pc := 31) sM_0 rfl fk_X12_291 (td kX12_needsTwo 17 rfl) ?_
        refine X_aload_n (pc := 34) (td kX12_needsTwo 18 rfl) rfl 0 rfl ?_
        refine X_getI (pc := 35) sM_0 rfl fk_X12_309 (td kX12_needsTwo 19 rfl) ?_
        refine X_jn (P := fun k => ∀ (σ_49 : Mm), X (wsOf SHM) RX12 cX12_needsTwo 2 (some .boolean) 3 0 49 [] [] σ_49 (k σ_49)) (fun σ_49 => ?_) (fun k49 h49 => ?_)
        · refine X_iconst (v := (1 : Int32)) (pc := 49) (td kX12_needsTwo 25 rfl) (by decide) ?_
          refine X_goto (pc := 50) (tgt := 54) (td kX12_needsTwo 26 rfl) (by decide) ?_
          exact X_ret (pc := 54) (td kX12_needsTwo 28 rfl) rfl
        · refine X_icmp_ne (pc := 38) (tgt := 49) (td kX12_needsTwo 20 rfl) (by decide) (fun c_38 => ?_) (fun c_38 => ?_)
          · refine X_sub [] rfl ?_
            exact h49 σ24
          · refine X_aload_n (pc := 41) (td kX12_needsTwo 21 rfl) rfl 0 rfl ?_
            refine X_iconst (v := (3 : Int32)) (pc := 42) (td kX12_needsTwo 22 rfl) (by decide) ?_
            refine X_calli (pc := 43) (As := [.int (3 : Int32)]) (st := []) sM_0 (x_X12_fails (3 : Int32) σ24) mkX12_fails lk_X12_232 (by omega) rfl rfl (Nat.le_of_ble_eq_true rfl) (td kX12_needsTwo 23 rfl) (fun r43 σ43 _ hr43 => ?_)
            refine X_if_eq (pc := 46) (tgt := 53) (td kX12_needsTwo 24 rfl) (by decide) (fun c_46 => ?_) (fun c_46 => ?_)
            · refine X_sub [] rfl ?_
              exact h53 σ43
            · refine X_sub [] rfl ?_
              exact h49 σ43
  · refine X_iconst (v := (0 : Int32)) (pc := 8) (td kX12_needsTwo 4 rfl) (by decide) ?_
    exact X_ret (pc := 9) (td kX12_needsTwo 5 rfl) rfl
def F_X12_walkerNamed_5 (p1 : Int32) (σ : Mm) (k51 : Option (Int32 × Mm)) (rec5 : Int32 → Option (Int32 × Mm)) (x2_5 : Int32) : Option (Int32 × Mm) := bn (((4 : Int32) * p1) + (2 : Int32)) (fun i_19 => ck (inb i_19 8) ((if x2_5 < (((6 : Int32) * p1) + (gI σ 2 i_19.toNatClampNeg)) then ck (inb x2_5 12) ((if (lg_cmp (gL σ 4 x2_5.toNatClampNeg) (gL σ 0 7)) = 0 then some ((x2_5 - ((6 : Int32) * p1)), σ) else rec5 (x2_5 + (1 : Int32)))) else k51)))
def f_X12_walkerNamed (p1 : Int32) (σ : Mm) : Option (Int32 × Mm) := bn ((6 : Int32) * p1) (fun v2_4 => jn (some ((-1 : Int32), σ)) (fun k51 => lq1 (F_X12_walkerNamed_5 p1 σ k51) 1000000 v2_4))
set_option maxHeartbeats 4000000 in
set_option maxRecDepth 100000 in
theorem x_X12_walkerNamed (p1 : Int32) (σ : Mm) : Con (wsOf SHM) yX12_walkerNamed cX12_walkerNamed 3 (some .int) 1 [.ref 0, .int p1] σ (f_X12_walkerNamed p1 σ) := by
  refine Con.of_X (by decide +kernel) (Nat.le_of_ble_eq_true rfl) ?_
  unfold f_X12_walkerNamed
  show X (wsOf SHM) RX12 cX12_walkerNamed 3 (some .int) 1 0 0 [(0, .ref 0), (1, .int p1)] [] σ _
  refine X_bipush (v := (6 : Int32)) (pc := 0) (td kX12_walkerNamed 0 rfl) (by decide) ?_
  refine X_iload_n (pc := 2) (td kX12_walkerNamed 1 rfl) rfl 1 rfl ?_
  refine X_imul (pc := 3) (td kX12_walkerNamed 2 rfl) ?_
  refine X_bi (fun v2_4 => ?_)
  refine X_istore_n (L' := [(2, .int v2_4), (0, .ref 0), (1, .int p1)]) (pc := 4) (td kX12_walkerNamed 3 rfl) rfl (by decide) rfl ?_
  refine X_jn (P := fun k => X (wsOf SHM) RX12 cX12_walkerNamed 3 (some .int) 1 0 51 [] [] σ k) ?_ (fun k51 h51 => ?_)
  · refine X_iconst (v := (-1 : Int32)) (pc := 51) (td kX12_walkerNamed 34 rfl) (by decide) ?_
    exact X_ret (pc := 52) (td kX12_walkerNamed 35 rfl) rfl
  · refine X_sub [1, 2, 0] rfl ?_
    refine lq1_ind (P := fun x2_5 E => X (wsOf SHM) RX12 cX12_walkerNamed 3 (some .int) 1 0 5 [(0, .ref 0), (1, .int p1), (2, .int x2_5)] [] σ E) (fun _ => X_none) (fun rec5 hrec5 x2_5 => ?_) _ _
    unfold F_X12_walkerNamed_5
    refine X_iload_n (pc := 5) (td kX12_walkerNamed 4 rfl) rfl 2 rfl ?_
    refine X_bipush (v := (6 : Int32)) (pc := 6) (td kX12_walkerNamed 5 rfl) (by decide) ?_
    refine X_iload_n (pc := 8) (td kX12_walkerNamed 6 rfl) rfl 1 rfl ?_
    refine X_imul (pc := 9) (td kX12_walkerNamed 7 rfl) ?_
    refine X_aload_n (pc := 10) (td kX12_walkerNamed 8 rfl) rfl 0 rfl ?_
    refine X_getF (b := 2) (pc := 11) sM_0 rfl fk_X12_13 (td kX12_walkerNamed 9 rfl) ?_
    refine X_iconst (v := (4 : Int32)) (pc := 14) (td kX12_walkerNamed 10 rfl) (by decide) ?_
    refine X_iload_n (pc := 15) (td kX12_walkerNamed 11 rfl) rfl 1 rfl ?_
    refine X_imul (pc := 16) (td kX12_walkerNamed 12 rfl) ?_
    refine X_iconst (v := (2 : Int32)) (pc := 17) (td kX12_walkerNamed 13 rfl) (by decide) ?_
    refine X_iadd (pc := 18) (td kX12_walkerNamed 14 rfl) ?_
    refine X_bi (fun i_19 => ?_)
    refine X_iald (pc := 19) sM_2 (td kX12_walkerNamed 15 rfl) ?_
    refine X_iadd (pc := 20) (td kX12_walkerNamed 16 rfl) ?_
    refine X_icmp_ge (pc := 21) (tgt := 51) (td kX12_walkerNamed 17 rfl) (by decide) (fun c_21 => ?_) (fun c_21 => ?_)
    · refine X_sub [] rfl ?_
      exact h51
    · refine X_aload_n (pc := 24) (td kX12_walkerNamed 18 rfl) rfl 0 rfl ?_
      refine X_getF (b := 4) (pc := 25) sM_0 rfl fk_X12_20 (td kX12_walkerNamed 19 rfl) ?_
      refine X_iload_n (pc := 28) (td kX12_walkerNamed 20 rfl) rfl 2 rfl ?_
      refine X_lald (pc := 29) sM_4 (td kX12_walkerNamed 21 rfl) ?_
      refine X_aload_n (pc := 30) (td kX12_walkerNamed 22 rfl) rfl 0 rfl ?_
      refine X_getL (pc := 31) sM_0 rfl fk_X12_186 (td kX12_walkerNamed 23 rfl) ?_
      refine X_lcmp (pc := 34) (td kX12_walkerNamed 24 rfl) ?_
      refine X_if_ne (pc := 35) (tgt := 45) (td kX12_walkerNamed 25 rfl) (by decide) (fun c_35 => ?_) (fun c_35 => ?_)
      · refine X_iinc (v := (x2_5 + (1 : Int32))) (L' := [(2, .int (x2_5 + (1 : Int32))), (0, .ref 0), (1, .int p1)]) (pc := 45) (td kX12_walkerNamed 32 rfl) 2 rfl rfl (by decide) rfl ?_
        refine X_goto (pc := 48) (tgt := 5) (td kX12_walkerNamed 33 rfl) (by decide) ?_
        refine X_sub [1, 2, 0] rfl ?_
        exact hrec5 (x2_5 + (1 : Int32))
      · refine X_iload_n (pc := 38) (td kX12_walkerNamed 26 rfl) rfl 2 rfl ?_
        refine X_bipush (v := (6 : Int32)) (pc := 39) (td kX12_walkerNamed 27 rfl) (by decide) ?_
        refine X_iload_n (pc := 41) (td kX12_walkerNamed 28 rfl) rfl 1 rfl ?_
        refine X_imul (pc := 42) (td kX12_walkerNamed 29 rfl) ?_
        refine X_isub (pc := 43) (td kX12_walkerNamed 30 rfl) ?_
        exact X_ret (pc := 44) (td kX12_walkerNamed 31 rfl) rfl
set_option maxHeartbeats 4000000 in
theorem p_X12_walkerNamed (p1 : Int32) (σ : Mm) : Pu σ (f_X12_walkerNamed p1 σ) := by
  unfold f_X12_walkerNamed
  refine Pu_bn (fun _ => ?_)
  refine Pu_jn (fun k => Pu σ (k)) ?_ (fun k51 h51 => ?_)
  · exact Pu_some
  · refine lq1_ind (P := fun _ E => Pu σ E) (fun _ => Pu_none) (fun rec5 hrec5 x2_5 => ?_) _ _
    unfold F_X12_walkerNamed_5
    refine Pu_bn (fun _ => ?_)
    refine Pu_ck ?_
    refine Pu_if ?_ ?_
    · refine Pu_ck ?_
      refine Pu_if ?_ ?_
      · exact Pu_some
      · exact hrec5 _
    · exact h51
def J_X12_readsLine_57 (σ : Mm) (y0_57 : Int32) : Option (Int32 × Mm) := (if y0_57 < 0 then cl (f_X12_fails (1 : Int32) σ) (fun r64 σ64 => some (r64, σ64)) else ck (inb (5 : Int32) 6) ((if (gI σ 28 (5 : Int32).toNatClampNeg) = (40 : Int32) then cl (f_X12_fails (5 : Int32) σ) (fun r81 σ81 => some (r81, σ81)) else cl (f_X12_nextToken σ) (fun _ σ86 => ck (inb (5 : Int32) 6) (bn ((200 : Int32) + (gI σ86 28 (5 : Int32).toNatClampNeg)) (fun v2_99 => ck (inb v2_99 240) (bn (pI σ86 29 v2_99.toNatClampNeg y0_57) (fun σ106 => jn (fun (σ_196 : Mm) => ck (inb (5 : Int32) 6) (ck (inb (5 : Int32) 6) (bn (pI σ_196 28 (5 : Int32).toNatClampNeg ((gI σ_196 28 (5 : Int32).toNatClampNeg) + (1 : Int32))) (fun σ205 => cl (f_X12_closes σ205) (fun r207 σ207 => some (r207, σ207)))))) (fun k196 => (if y0_57 = (1 : Int32) then cl (f_X12_needsTwo (0 : Int32) σ106) (fun r114 σ114 => (if r114 = 0 then some ((0 : Int32), σ114) else ck (inb v2_99 240) (bn (pI σ114 30 v2_99.toNatClampNeg (gI σ114 0 39)) (fun σ131 => ck (inb v2_99 240) (bn (pI σ131 31 v2_99.toNatClampNeg (gI σ131 0 37)) (fun σ141 => cl (f_X12_nextToken σ141) (fun _ σ143 => k196 σ143))))))) else (if y0_57 = 0 then k196 σ106 else cl (f_X12_isKept σ106) (fun r154 _ => (if r154 = 0 then cl (f_X12_walkerNamed (0 : Int32) σ106) (fun r173 _ => ck (inb v2_99 240) (bn (pI σ106 30 v2_99.toNatClampNeg r173) (fun σ176 => ck (inb v2_99 240) ((if (gI σ176 30 v2_99.toNatClampNeg) < 0 then cl (f_X12_fails (2 : Int32) σ176) (fun r188 σ188 => some (r188, σ188)) else cl (f_X12_nextToken σ176) (fun _ σ193 => k196 σ193)))))) else cl (f_X12_fails (1 : Int32) σ106) (fun r162 σ162 => some (r162, σ162)))))))))))))))
def f_X12_readsLine (σ : Mm) : Option (Int32 × Mm) := cl (f_X12_isWord (191610176 : Int64) σ) (fun r4 _ => jn (J_X12_readsLine_57 σ) (fun k57 => (if r4 = 0 then cl (f_X12_isWord (378004 : Int64) σ) (fun r18 _ => (if r18 = 0 then cl (f_X12_isWord (453701 : Int64) σ) (fun r32 _ => (if r32 = 0 then cl (f_X12_isWord (40187 : Int64) σ) (fun r46 _ => (if r46 = 0 then k57 (-1 : Int32) else k57 (3 : Int32))) else k57 (2 : Int32))) else k57 (1 : Int32))) else k57 (0 : Int32))))
set_option maxHeartbeats 4000000 in
set_option maxRecDepth 100000 in
theorem x_X12_readsLine (σ : Mm) : Con (wsOf SHM) yX12_readsLine cX12_readsLine 3 (some .boolean) 4 [.ref 0] σ (f_X12_readsLine σ) := by
  refine Con.of_X (by decide +kernel) (Nat.le_of_ble_eq_true rfl) ?_
  unfold f_X12_readsLine
  show X (wsOf SHM) RX12 cX12_readsLine 3 (some .boolean) 4 0 0 [(0, .ref 0)] [] σ _
  refine X_aload_n (pc := 0) (td kX12_readsLine 0 rfl) rfl 0 rfl ?_
  refine X_ldc2 (v := (191610176 : Int64)) (pc := 1) (td kX12_readsLine 1 rfl) cn_X12_271 ?_
  refine X_callip (pc := 4) (As := [.long (191610176 : Int64)]) (st := []) (p_X12_isWord (191610176 : Int64) σ) sM_0 (x_X12_isWord (191610176 : Int64) σ) mkX12_isWord lk_X12_224 (by omega) rfl rfl (Nat.le_of_ble_eq_true rfl) (td kX12_readsLine 2 rfl) (fun r4 hr4 => ?_)
  refine X_jn (P := fun k => ∀ (y0_57 : Int32), X (wsOf SHM) RX12 cX12_readsLine 3 (some .boolean) 4 0 57 [(0, .ref 0)] [.int y0_57] σ (k y0_57)) (fun y0_57 => ?_) (fun k57 h57 => ?_)
  · unfold J_X12_readsLine_57
    refine X_istore_n (L' := [(1, .int y0_57), (0, .ref 0)]) (pc := 57) (td kX12_readsLine 25 rfl) rfl (by decide) rfl ?_
    refine X_iload_n (pc := 58) (td kX12_readsLine 26 rfl) rfl 0 rfl ?_
    refine X_if_ge (pc := 59) (tgt := 68) (td kX12_readsLine 27 rfl) (by decide) (fun c_59 => ?_) (fun c_59 => ?_)
    · refine X_aload_n (pc := 68) (td kX12_readsLine 32 rfl) rfl 1 rfl ?_
      refine X_getF (b := 28) (pc := 69) sM_0 rfl fk_X12_93 (td kX12_readsLine 33 rfl) ?_
      refine X_iconst (v := (5 : Int32)) (pc := 72) (td kX12_readsLine 34 rfl) (by decide) ?_
      refine X_iald (pc := 73) sM_28 (td kX12_readsLine 35 rfl) ?_
      refine X_bipush (v := (40 : Int32)) (pc := 74) (td kX12_readsLine 36 rfl) (by decide) ?_
      refine X_icmp_ne (pc := 76) (tgt := 85) (td kX12_readsLine 37 rfl) (by decide) (fun c_76 => ?_) (fun c_76 => ?_)
      · refine X_aload_n (pc := 85) (td kX12_readsLine 42 rfl) rfl 1 rfl ?_
        refine X_callv (pc := 86) (As := []) (st := []) sM_0 (x_X12_nextToken σ) mkX12_nextToken lk_X12_239 (by omega) rfl rfl (Nat.le_of_ble_eq_true rfl) (td kX12_readsLine 43 rfl) (fun _ σ86 _ => ?_)
        refine X_sipush (v := (200 : Int32)) (pc := 89) (td kX12_readsLine 44 rfl) (by decide) ?_
        refine X_aload_n (pc := 92) (td kX12_readsLine 45 rfl) rfl 1 rfl ?_
        refine X_getF (b := 28) (pc := 93) sM_0 rfl fk_X12_93 (td kX12_readsLine 46 rfl) ?_
        refine X_iconst (v := (5 : Int32)) (pc := 96) (td kX12_readsLine 47 rfl) (by decide) ?_
        refine X_iald (pc := 97) sM_28 (td kX12_readsLine 48 rfl) ?_
        refine X_iadd (pc := 98) (td kX12_readsLine 49 rfl) ?_
        refine X_bi (fun v2_99 => ?_)
        refine X_istore_n (L' := [(2, .int v2_99), (1, .int y0_57), (0, .ref 0)]) (pc := 99) (td kX12_readsLine 50 rfl) rfl (by decide) rfl ?_
        refine X_aload_n (pc := 100) (td kX12_readsLine 51 rfl) rfl 2 rfl ?_
        refine X_getF (b := 29) (pc := 101) sM_0 rfl fk_X12_96 (td kX12_readsLine 52 rfl) ?_
        refine X_iload_n (pc := 104) (td kX12_readsLine 53 rfl) rfl 0 rfl ?_
        refine X_iload_n (pc := 105) (td kX12_readsLine 54 rfl) rfl 1 rfl ?_
        refine X_iast (pc := 106) sM_29 (td kX12_readsLine 55 rfl) (fun σ106 => ?_)
        refine X_iload_n (pc := 107) (td kX12_readsLine 56 rfl) rfl 1 rfl ?_
        refine X_iconst (v := (1 : Int32)) (pc := 108) (td kX12_readsLine 57 rfl) (by decide) ?_
        refine X_jn (P := fun k => ∀ (σ_196 : Mm), X (wsOf SHM) RX12 cX12_readsLine 3 (some .boolean) 4 0 196 [(0, .ref 0)] [] σ_196 (k σ_196)) (fun σ_196 => ?_) (fun k196 h196 => ?_)
        · refine X_aload_n (pc := 196) (td kX12_readsLine 107 rfl) rfl 0 rfl ?_
          refine X_getF (b := 28) (pc := 197) sM_0 rfl fk_X12_93 (td kX12_readsLine 108 rfl) ?_
          refine X_iconst (v := (5 : Int32)) (pc := 200) (td kX12_readsLine 109 rfl) (by decide) ?_
          refine X_dup2 (pc := 201) (td kX12_readsLine 110 rfl) rfl rfl ?_
          refine X_iald (pc := 202) sM_28 (td kX12_readsLine 111 rfl) ?_
          refine X_iconst (v := (1 : Int32)) (pc := 203) (td kX12_readsLine 112 rfl) (by decide) ?_
          refine X_iadd (pc := 204) (td kX12_readsLine 113 rfl) ?_
          refine X_iast (pc := 205) sM_28 (td kX12_readsLine 114 rfl) (fun σ205 => ?_)
          refine X_aload_n (pc := 206) (td kX12_readsLine 115 rfl) rfl 0 rfl ?_
          refine X_calli (pc := 207) (As := []) (st := []) sM_0 (x_X12_closes σ205) mkX12_closes lk_X12_315 (by omega) rfl rfl (Nat.le_of_ble_eq_true rfl) (td kX12_readsLine 116 rfl) (fun r207 σ207 _ hr207 => ?_)
          exact X_ret (pc := 210) (td kX12_readsLine 117 rfl) hr207
        · refine X_icmp_ne (pc := 109) (tgt := 149) (td kX12_readsLine 58 rfl) (by decide) (fun c_109 => ?_) (fun c_109 => ?_)
          · refine X_iload_n (pc := 149) (td kX12_readsLine 80 rfl) rfl 1 rfl ?_
            refine X_if_eq (pc := 150) (tgt := 196) (td kX12_readsLine 81 rfl) (by decide) (fun c_150 => ?_) (fun c_150 => ?_)
            · refine X_sub [2] rfl ?_
              exact h196 σ106
            · refine X_aload_n (pc := 153) (td kX12_readsLine 82 rfl) rfl 2 rfl ?_
              refine X_callip (pc := 154) (As := []) (st := []) (p_X12_isKept σ106) sM_0 (x_X12_isKept σ106) mkX12_isKept lk_X12_294 (by omega) rfl rfl (Nat.le_of_ble_eq_true rfl) (td kX12_readsLine 83 rfl) (fun r154 hr154 => ?_)
              refine X_if_eq (pc := 157) (tgt := 166) (td kX12_readsLine 84 rfl) (by decide) (fun c_157 => ?_) (fun c_157 => ?_)
              · refine X_aload_n (pc := 166) (td kX12_readsLine 89 rfl) rfl 2 rfl ?_
                refine X_getF (b := 30) (pc := 167) sM_0 rfl fk_X12_99 (td kX12_readsLine 90 rfl) ?_
                refine X_iload_n (pc := 170) (td kX12_readsLine 91 rfl) rfl 0 rfl ?_
                refine X_aload_n (pc := 171) (td kX12_readsLine 92 rfl) rfl 2 rfl ?_
                refine X_iconst (v := (0 : Int32)) (pc := 172) (td kX12_readsLine 93 rfl) (by decide) ?_
                refine X_callip (pc := 173) (As := [.int (0 : Int32)]) (st := [.int v2_99, .ref 30]) (p_X12_walkerNamed (0 : Int32) σ106) sM_0 (x_X12_walkerNamed (0 : Int32) σ106) mkX12_walkerNamed lk_X12_301 (by omega) rfl rfl (Nat.le_of_ble_eq_true rfl) (td kX12_readsLine 94 rfl) (fun r173 hr173 => ?_)
                refine X_iast (pc := 176) sM_30 (td kX12_readsLine 95 rfl) (fun σ176 => ?_)
                refine X_aload_n (pc := 177) (td kX12_readsLine 96 rfl) rfl 2 rfl ?_
                refine X_getF (b := 30) (pc := 178) sM_0 rfl fk_X12_99 (td kX12_readsLine 97 rfl) ?_
                refine X_iload_n (pc := 181) (td kX12_readsLine 98 rfl) rfl 0 rfl ?_
                refine X_iald (pc := 182) sM_30 (td kX12_readsLine 99 rfl) ?_
                refine X_if_ge (pc := 183) (tgt := 192) (td kX12_readsLine 100 rfl) (by decide) (fun c_183 => ?_) (fun c_183 => ?_)
                · refine X_aload_n (pc := 192) (td kX12_readsLine 105 rfl) rfl 2 rfl ?_
                  refine X_callv (pc := 193) (As := []) (st := []) sM_0 (x_X12_nextToken σ176) mkX12_nextToken lk_X12_239 (by omega) rfl rfl (Nat.le_of_ble_eq_true rfl) (td kX12_readsLine 106 rfl) (fun _ σ193 _ => ?_)
                  refine X_sub [2] rfl ?_
                  exact h196 σ193
                · refine X_aload_n (pc := 186) (td kX12_readsLine 101 rfl) rfl 2 rfl ?_
                  refine X_iconst (v := (2 : Int32)) (pc := 187) (td kX12_readsLine 102 rfl) (by decide) ?_
                  refine X_calli (pc := 188) (As := [.int (2 : Int32)]) (st := []) sM_0 (x_X12_fails (2 : Int32) σ176) mkX12_fails lk_X12_232 (by omega) rfl rfl (Nat.le_of_ble_eq_true rfl) (td kX12_readsLine 103 rfl) (fun r188 σ188 _ hr188 => ?_)
                  exact X_ret (pc := 191) (td kX12_readsLine 104 rfl) hr188
              · refine X_aload_n (pc := 160) (td kX12_readsLine 85 rfl) rfl 2 rfl ?_
                refine X_iconst (v := (1 : Int32)) (pc := 161) (td kX12_readsLine 86 rfl) (by decide) ?_
                refine X_calli (pc := 162) (As := [.int (1 : Int32)]) (st := []) sM_0 (x_X12_fails (1 : Int32) σ106) mkX12_fails lk_X12_232 (by omega) rfl rfl (Nat.le_of_ble_eq_true rfl) (td kX12_readsLine 87 rfl) (fun r162 σ162 _ hr162 => ?_)
                exact X_ret (pc := 165) (td kX12_readsLine 88 rfl) hr162
          · refine X_aload_n (pc := 112) (td kX12_readsLine 59 rfl) rfl 2 rfl ?_
            refine X_iconst (v := (0 : Int32)) (pc := 113) (td kX12_readsLine 60 rfl) (by decide) ?_
            refine X_calli (pc := 114) (As := [.int (0 : Int32)]) (st := []) sM_0 (x_X12_needsTwo (0 : Int32) σ106) mkX12_needsTwo lk_X12_318 (by omega) rfl rfl (Nat.le_of_ble_eq_true rfl) (td kX12_readsLine 61 rfl) (fun r114 σ114 _ hr114 => ?_)
            refine X_if_ne (pc := 117) (tgt := 122) (td kX12_readsLine 62 rfl) (by decide) (fun c_117 => ?_) (fun c_117 => ?_)
            · refine X_aload_n (pc := 122) (td kX12_readsLine 65 rfl) rfl 2 rfl ?_
              refine X_getF (b := 30) (pc := 123) sM_0 rfl fk_X12_99 (td kX12_readsLine 66 rfl) ?_
              refine X_iload_n (pc := 126) (td kX12_readsLine 67 rfl) rfl 0 rfl ?_
              refine X_aload_n (pc := 127) (td kX12_readsLine 68 rfl) rfl 2 rfl ?_
              refine X_getI (pc := 128) sM_0 rfl fk_X12_309 (td kX12_readsLine 69 rfl) ?_
              refine X_iast (pc := 131) sM_30 (td kX12_readsLine 70 rfl) (fun σ131 => ?_)
              refine X_aload_n (pc := 132) (td kX12_readsLine 71 rfl) rfl 2 rfl ?_
              refine X_getF (b := 31) (pc := 133) sM_0 rfl fk_X12_102 (td kX12_readsLine 72 rfl) ?_
              refine X_iload_n (pc := 136) (td kX12_readsLine 73 rfl) rfl 0 rfl ?_
              refine X_aload_n (pc := 137) (td kX12_readsLine 74 rfl) rfl 2 rfl ?_
              refine X_getI (pc := 138) sM_0 rfl fk_X12_291 (td kX12_readsLine 75 rfl) ?_
              refine X_iast (pc := 141) sM_31 (td kX12_readsLine 76 rfl) (fun σ141 => ?_)
              refine X_aload_n (pc := 142) (td kX12_readsLine 77 rfl) rfl 2 rfl ?_
              refine X_callv (pc := 143) (As := []) (st := []) sM_0 (x_X12_nextToken σ141) mkX12_nextToken lk_X12_239 (by omega) rfl rfl (Nat.le_of_ble_eq_true rfl) (td kX12_readsLine 78 rfl) (fun _ σ143 _ => ?_)
              refine X_goto (pc := 146) (tgt := 196) (td kX12_readsLine 79 rfl) (by decide) ?_
              refine X_sub [2] rfl ?_
              exact h196 σ143
            · refine X_iconst (v := (0 : Int32)) (pc := 120) (td kX12_readsLine 63 rfl) (by decide) ?_
              exact X_ret (pc := 121) (td kX12_readsLine 64 rfl) rfl
      · refine X_aload_n (pc := 79) (td kX12_readsLine 38 rfl) rfl 1 rfl ?_
        refine X_iconst (v := (5 : Int32)) (pc := 80) (td kX12_readsLine 39 rfl) (by decide) ?_
        refine X_calli (pc := 81) (As := [.int (5 : Int32)]) (st := []) sM_0 (x_X12_fails (5 : Int32) σ) mkX12_fails lk_X12_232 (by omega) rfl rfl (Nat.le_of_ble_eq_true rfl) (td kX12_readsLine 40 rfl) (fun r81 σ81 _ hr81 => ?_)
        exact X_ret (pc := 84) (td kX12_readsLine 41 rfl) hr81
    · refine X_aload_n (pc := 62) (td kX12_readsLine 28 rfl) rfl 1 rfl ?_
      refine X_iconst (v := (1 : Int32)) (pc := 63) (td kX12_readsLine 29 rfl) (by decide) ?_
      refine X_calli (pc := 64) (As := [.int (1 : Int32)]) (st := []) sM_0 (x_X12_fails (1 : Int32) σ) mkX12_fails lk_X12_232 (by omega) rfl rfl (Nat.le_of_ble_eq_true rfl) (td kX12_readsLine 30 rfl) (fun r64 σ64 _ hr64 => ?_)
      exact X_ret (pc := 67) (td kX12_readsLine 31 rfl) hr64
  · refine X_if_eq (pc := 7) (tgt := 14) (td kX12_readsLine 3 rfl) (by decide) (fun c_7 => ?_) (fun c_7 => ?_)
    · refine X_aload_n (pc := 14) (td kX12_readsLine 6 rfl) rfl 0 rfl ?_
      refine X_ldc2 (v := (378004 : Int64)) (pc := 15) (td kX12_readsLine 7 rfl) cn_X12_273 ?_
      refine X_callip (pc := 18) (As := [.long (378004 : Int64)]) (st := []) (p_X12_isWord (378004 : Int64) σ) sM_0 (x_X12_isWord (378004 : Int64) σ) mkX12_isWord lk_X12_224 (by omega) rfl rfl (Nat.le_of_ble_eq_true rfl) (td kX12_readsLine 8 rfl) (fun r18 hr18 => ?_)
      refine X_if_eq (pc := 21) (tgt := 28) (td kX12_readsLine 9 rfl) (by decide) (fun c_21 => ?_) (fun c_21 => ?_)
      · refine X_aload_n (pc := 28) (td kX12_readsLine 12 rfl) rfl 0 rfl ?_
        refine X_ldc2 (v := (453701 : Int64)) (pc := 29) (td kX12_readsLine 13 rfl) cn_X12_275 ?_
        refine X_callip (pc := 32) (As := [.long (453701 : Int64)]) (st := []) (p_X12_isWord (453701 : Int64) σ) sM_0 (x_X12_isWord (453701 : Int64) σ) mkX12_isWord lk_X12_224 (by omega) rfl rfl (Nat.le_of_ble_eq_true rfl) (td kX12_readsLine 14 rfl) (fun r32 hr32 => ?_)
        refine X_if_eq (pc := 35) (tgt := 42) (td kX12_readsLine 15 rfl) (by decide) (fun c_35 => ?_) (fun c_35 => ?_)
        · refine X_aload_n (pc := 42) (td kX12_readsLine 18 rfl) rfl 0 rfl ?_
          refine X_ldc2 (v := (40187 : Int64)) (pc := 43) (td kX12_readsLine 19 rfl) cn_X12_277 ?_
          refine X_callip (pc := 46) (As := [.long (40187 : Int64)]) (st := []) (p_X12_isWord (40187 : Int64) σ) sM_0 (x_X12_isWord (40187 : Int64) σ) mkX12_isWord lk_X12_224 (by omega) rfl rfl (Nat.le_of_ble_eq_true rfl) (td kX12_readsLine 20 rfl) (fun r46 hr46 => ?_)
          refine X_if_eq (pc := 49) (tgt := 56) (td kX12_readsLine 21 rfl) (by decide) (fun c_49 => ?_) (fun c_49 => ?_)
          · refine X_iconst (v := (-1 : Int32)) (pc := 56) (td kX12_readsLine 24 rfl) (by decide) ?_
            exact h57 (-1 : Int32)
          · refine X_iconst (v := (3 : Int32)) (pc := 52) (td kX12_readsLine 22 rfl) (by decide) ?_
            refine X_goto (pc := 53) (tgt := 57) (td kX12_readsLine 23 rfl) (by decide) ?_
            exact h57 (3 : Int32)
        · refine X_iconst (v := (2 : Int32)) (pc := 38) (td kX12_readsLine 16 rfl) (by decide) ?_
          refine X_goto (pc := 39) (tgt := 57) (td kX12_readsLine 17 rfl) (by decide) ?_
          exact h57 (2 : Int32)
      · refine X_iconst (v := (1 : Int32)) (pc := 24) (td kX12_readsLine 10 rfl) (by decide) ?_
        refine X_goto (pc := 25) (tgt := 57) (td kX12_readsLine 11 rfl) (by decide) ?_
        exact h57 (1 : Int32)
    · refine X_iconst (v := (0 : Int32)) (pc := 10) (td kX12_readsLine 4 rfl) (by decide) ?_
      refine X_goto (pc := 11) (tgt := 57) (td kX12_readsLine 5 rfl) (by decide) ?_
      exact h57 (0 : Int32)
def F_X12_evening_16 (k35 : Mm → Option (Int32 × Mm)) (k30 : Mm → Option (Int32 × Mm)) (rec16 : Mm → Option (Int32 × Mm)) (σ_16 : Mm) : Option (Int32 × Mm) := (if (gI σ_16 0 6) = 0 then k35 σ_16 else cl (f_X12_readsLine σ_16) (fun r24 σ24 => (if r24 = 0 then k30 σ24 else rec16 σ24)))
def f_X12_evening (σ : Mm) : Option (Int32 × Mm) := bn (pI σ 0 0 (0 : Int32)) (fun σ2 => ck (inb (5 : Int32) 6) (bn (pI σ2 28 (5 : Int32).toNatClampNeg (0 : Int32)) (fun σ11 => cl (f_X12_begins σ11) (fun _ σ13 => jn (fun (σ_35 : Mm) => cl (f_X12_laysLines (5 : Int32) (0 : Int32) σ_35) (fun _ σ38 => some ((0 : Int32), σ38))) (fun k35 => jn (fun (σ_30 : Mm) => some ((gI σ_30 0 9), σ_30)) (fun k30 => lq1 (F_X12_evening_16 k35 k30) 1000000 σ13))))))
set_option maxHeartbeats 4000000 in
set_option maxRecDepth 100000 in
theorem x_X12_evening (σ : Mm) : Con (wsOf SHM) yX12_evening cX12_evening 1 (some .int) 5 [.ref 0] σ (f_X12_evening σ) := by
  refine Con.of_X (by decide +kernel) (Nat.le_of_ble_eq_true rfl) ?_
  unfold f_X12_evening
  show X (wsOf SHM) RX12 cX12_evening 1 (some .int) 5 0 0 [(0, .ref 0)] [] σ _
  refine X_aload_n (pc := 0) (td kX12_evening 0 rfl) rfl 0 rfl ?_
  refine X_iconst (v := (0 : Int32)) (pc := 1) (td kX12_evening 1 rfl) (by decide) ?_
  refine X_putI (pc := 2) sM_0 rfl fk_X12_169 rfl rfl (td kX12_evening 2 rfl) (fun σ2 => ?_)
  refine X_aload_n (pc := 5) (td kX12_evening 3 rfl) rfl 0 rfl ?_
  refine X_getF (b := 28) (pc := 6) sM_0 rfl fk_X12_93 (td kX12_evening 4 rfl) ?_
  refine X_iconst (v := (5 : Int32)) (pc := 9) (td kX12_evening 5 rfl) (by decide) ?_
  refine X_iconst (v := (0 : Int32)) (pc := 10) (td kX12_evening 6 rfl) (by decide) ?_
  refine X_iast (pc := 11) sM_28 (td kX12_evening 7 rfl) (fun σ11 => ?_)
  refine X_aload_n (pc := 12) (td kX12_evening 8 rfl) rfl 0 rfl ?_
  refine X_callv (pc := 13) (As := []) (st := []) sM_0 (x_X12_begins σ11) mkX12_begins lk_X12_339 (by omega) rfl rfl (Nat.le_of_ble_eq_true rfl) (td kX12_evening 9 rfl) (fun _ σ13 _ => ?_)
  refine X_jn (P := fun k => ∀ (σ_35 : Mm), X (wsOf SHM) RX12 cX12_evening 1 (some .int) 5 0 35 [(0, .ref 0)] [] σ_35 (k σ_35)) (fun σ_35 => ?_) (fun k35 h35 => ?_)
  · refine X_aload_n (pc := 35) (td kX12_evening 19 rfl) rfl 0 rfl ?_
    refine X_iconst (v := (5 : Int32)) (pc := 36) (td kX12_evening 20 rfl) (by decide) ?_
    refine X_iconst (v := (0 : Int32)) (pc := 37) (td kX12_evening 21 rfl) (by decide) ?_
    refine X_callv (pc := 38) (As := [.int (5 : Int32), .int (0 : Int32)]) (st := []) sM_0 (x_X12_laysLines (5 : Int32) (0 : Int32) σ_35) mkX12_laysLines lk_X12_383 (by omega) rfl rfl (Nat.le_of_ble_eq_true rfl) (td kX12_evening 22 rfl) (fun _ σ38 _ => ?_)
    refine X_iconst (v := (0 : Int32)) (pc := 41) (td kX12_evening 23 rfl) (by decide) ?_
    exact X_ret (pc := 42) (td kX12_evening 24 rfl) rfl
  · refine X_jn (P := fun k => ∀ (σ_30 : Mm), X (wsOf SHM) RX12 cX12_evening 1 (some .int) 5 0 30 [(0, .ref 0)] [] σ_30 (k σ_30)) (fun σ_30 => ?_) (fun k30 h30 => ?_)
    · refine X_aload_n (pc := 30) (td kX12_evening 16 rfl) rfl 0 rfl ?_
      refine X_getI (pc := 31) sM_0 rfl fk_X12_204 (td kX12_evening 17 rfl) ?_
      exact X_ret (pc := 34) (td kX12_evening 18 rfl) rfl
    · refine lq1_ind (P := fun σ_16 E => X (wsOf SHM) RX12 cX12_evening 1 (some .int) 5 0 16 [(0, .ref 0)] [] σ_16 E) (fun _ => X_none) (fun rec16 hrec16 σ_16 => ?_) _ _
      unfold F_X12_evening_16
      refine X_aload_n (pc := 16) (td kX12_evening 10 rfl) rfl 0 rfl ?_
      refine X_getI (pc := 17) sM_0 rfl fk_X12_193 (td kX12_evening 11 rfl) ?_
      refine X_if_eq (pc := 20) (tgt := 35) (td kX12_evening 12 rfl) (by decide) (fun c_20 => ?_) (fun c_20 => ?_)
      · exact h35 σ_16
      · refine X_aload_n (pc := 23) (td kX12_evening 13 rfl) rfl 0 rfl ?_
        refine X_calli (pc := 24) (As := []) (st := []) sM_0 (x_X12_readsLine σ_16) mkX12_readsLine lk_X12_380 (by omega) rfl rfl (Nat.le_of_ble_eq_true rfl) (td kX12_evening 14 rfl) (fun r24 σ24 _ hr24 => ?_)
        refine X_if_ne (pc := 27) (tgt := 16) (td kX12_evening 15 rfl) (by decide) (fun c_27 => ?_) (fun c_27 => ?_)
        · exact hrec16 σ24
        · exact h30 σ24
def f_X12_fact (σ : Mm) : Option (Int32 × Mm) := (if (gI σ 0 6) = (1 : Int32) then (if (lg_cmp (gL σ 0 7) (404923 : Int64)) = 0 then some ((1 : Int32), σ) else (if (lg_cmp (gL σ 0 7) (240023 : Int64)) = 0 then some ((2 : Int32), σ) else (if (lg_cmp (gL σ 0 7) (121898 : Int64)) = 0 then some ((3 : Int32), σ) else (if (lg_cmp (gL σ 0 7) (237470 : Int64)) = 0 then some ((4 : Int32), σ) else some ((0 : Int32), σ))))) else some ((0 : Int32), σ))
set_option maxHeartbeats 4000000 in
set_option maxRecDepth 100000 in
theorem x_X12_fact (σ : Mm) : Con (wsOf SHM) yX12_fact cX12_fact 1 (some .int) 1 [.ref 0] σ (f_X12_fact σ) := by
  refine Con.of_X (by decide +kernel) (Nat.le_of_ble_eq_true rfl) ?_
  unfold f_X12_fact
  show X (wsOf SHM) RX12 cX12_fact 1 (some .int) 1 0 0 [(0, .ref 0)] [] σ _
  refine X_aload_n (pc := 0) (td kX12_fact 0 rfl) rfl 0 rfl ?_
  refine X_getI (pc := 1) sM_0 rfl fk_X12_193 (td kX12_fact 1 rfl) ?_
  refine X_iconst (v := (1 : Int32)) (pc := 4) (td kX12_fact 2 rfl) (by decide) ?_
  refine X_icmp_eq (pc := 5) (tgt := 10) (td kX12_fact 3 rfl) (by decide) (fun c_5 => ?_) (fun c_5 => ?_)
  · refine X_aload_n (pc := 10) (td kX12_fact 6 rfl) rfl 0 rfl ?_
    refine X_getL (pc := 11) sM_0 rfl fk_X12_186 (td kX12_fact 7 rfl) ?_
    refine X_ldc2 (v := (404923 : Int64)) (pc := 14) (td kX12_fact 8 rfl) cn_X12_210 ?_
    refine X_lcmp (pc := 17) (td kX12_fact 9 rfl) ?_
    refine X_if_ne (pc := 18) (tgt := 23) (td kX12_fact 10 rfl) (by decide) (fun c_18 => ?_) (fun c_18 => ?_)
    · refine X_aload_n (pc := 23) (td kX12_fact 13 rfl) rfl 0 rfl ?_
      refine X_getL (pc := 24) sM_0 rfl fk_X12_186 (td kX12_fact 14 rfl) ?_
      refine X_ldc2 (v := (240023 : Int64)) (pc := 27) (td kX12_fact 15 rfl) cn_X12_212 ?_
      refine X_lcmp (pc := 30) (td kX12_fact 16 rfl) ?_
      refine X_if_ne (pc := 31) (tgt := 36) (td kX12_fact 17 rfl) (by decide) (fun c_31 => ?_) (fun c_31 => ?_)
      · refine X_aload_n (pc := 36) (td kX12_fact 20 rfl) rfl 0 rfl ?_
        refine X_getL (pc := 37) sM_0 rfl fk_X12_186 (td kX12_fact 21 rfl) ?_
        refine X_ldc2 (v := (121898 : Int64)) (pc := 40) (td kX12_fact 22 rfl) cn_X12_214 ?_
        refine X_lcmp (pc := 43) (td kX12_fact 23 rfl) ?_
        refine X_if_ne (pc := 44) (tgt := 51) (td kX12_fact 24 rfl) (by decide) (fun c_44 => ?_) (fun c_44 => ?_)
        · refine X_aload_n (pc := 51) (td kX12_fact 27 rfl) rfl 0 rfl ?_
          refine X_getL (pc := 52) sM_0 rfl fk_X12_186 (td kX12_fact 28 rfl) ?_
          refine X_ldc2 (v := (237470 : Int64)) (pc := 55) (td kX12_fact 29 rfl) cn_X12_216 ?_
          refine X_lcmp (pc := 58) (td kX12_fact 30 rfl) ?_
          refine X_if_ne (pc := 59) (tgt := 66) (td kX12_fact 31 rfl) (by decide) (fun c_59 => ?_) (fun c_59 => ?_)
          · refine X_iconst (v := (0 : Int32)) (pc := 66) (td kX12_fact 34 rfl) (by decide) ?_
            exact X_ret (pc := 67) (td kX12_fact 35 rfl) rfl
          · refine X_iconst (v := (4 : Int32)) (pc := 62) (td kX12_fact 32 rfl) (by decide) ?_
            refine X_goto (pc := 63) (tgt := 67) (td kX12_fact 33 rfl) (by decide) ?_
            exact X_ret (pc := 67) (td kX12_fact 35 rfl) rfl
        · refine X_iconst (v := (3 : Int32)) (pc := 47) (td kX12_fact 25 rfl) (by decide) ?_
          refine X_goto (pc := 48) (tgt := 67) (td kX12_fact 26 rfl) (by decide) ?_
          exact X_ret (pc := 67) (td kX12_fact 35 rfl) rfl
      · refine X_iconst (v := (2 : Int32)) (pc := 34) (td kX12_fact 18 rfl) (by decide) ?_
        exact X_ret (pc := 35) (td kX12_fact 19 rfl) rfl
    · refine X_iconst (v := (1 : Int32)) (pc := 21) (td kX12_fact 11 rfl) (by decide) ?_
      exact X_ret (pc := 22) (td kX12_fact 12 rfl) rfl
  · refine X_iconst (v := (0 : Int32)) (pc := 8) (td kX12_fact 4 rfl) (by decide) ?_
    exact X_ret (pc := 9) (td kX12_fact 5 rfl) rfl
set_option maxHeartbeats 4000000 in
theorem p_X12_fact (σ : Mm) : Pu σ (f_X12_fact σ) := by
  unfold f_X12_fact
  refine Pu_if ?_ ?_
  · refine Pu_if ?_ ?_
    · exact Pu_some
    · refine Pu_if ?_ ?_
      · exact Pu_some
      · refine Pu_if ?_ ?_
        · exact Pu_some
        · refine Pu_if ?_ ?_
          · exact Pu_some
          · exact Pu_some
  · exact Pu_some
def J_X12_feed_39 (rec8 : Int32 → Mm → Option (Int32 × Mm)) (x7_8 : Int32) (σ_8 : Mm) (y0_39 : Int64) : Option (Int32 × Mm) := bn ((lushr y0_39 ((56 : Int32) - ((8 : Int32) * (x7_8 &&& (7 : Int32))))) &&& (255 : Int64)).toInt32 (fun v10_60 => jn (fun (σ_114 : Mm) => rec8 (x7_8 + (1 : Int32)) σ_114) (fun k114 => (if (gI σ_8 0 1) < (1000 : Int32) then jn (ck (inb (gI σ_8 0 1) 1000) (bn (pI σ_8 1 (gI σ_8 0 1).toNatClampNeg v10_60) (fun σ103 => bn (pI σ103 0 1 ((gI σ103 0 1) + (1 : Int32))) (fun σ111 => k114 σ111)))) (fun k93 => (if v10_60 = (10 : Int32) then k93 else (if v10_60 < (32 : Int32) then k114 σ_8 else (if (126 : Int32) < v10_60 then k114 σ_8 else k93)))) else k114 σ_8)))
def F_X12_feed_8 (p1 : Int64) (p2 : Int64) (p3 : Int64) (k120 : Mm → Option (Int32 × Mm)) (rec8 : Int32 → Mm → Option (Int32 × Mm)) (x7_8 : Int32) (σ_8 : Mm) : Option (Int32 × Mm) := (if x7_8 < (24 : Int32) then jn (J_X12_feed_39 rec8 x7_8 σ_8) (fun k39 => (if x7_8 < (8 : Int32) then k39 p1 else (if x7_8 < (16 : Int32) then k39 p2 else k39 p3))) else k120 σ_8)
def f_X12_feed (p1 : Int64) (p2 : Int64) (p3 : Int64) (σ : Mm) : Option (Int32 × Mm) := bn (pI σ 0 0 (0 : Int32)) (fun σ2 => jn (fun (σ_120 : Mm) => some ((gI σ_120 0 1), σ_120)) (fun k120 => lq2 (F_X12_feed_8 p1 p2 p3 k120) 1000000 (0 : Int32) σ2))
set_option maxHeartbeats 4000000 in
set_option maxRecDepth 100000 in
theorem x_X12_feed (p1 : Int64) (p2 : Int64) (p3 : Int64) (σ : Mm) : Con (wsOf SHM) yX12_feed cX12_feed 11 (some .int) 1 [.ref 0, .long p1, .long p2, .long p3] σ (f_X12_feed p1 p2 p3 σ) := by
  refine Con.of_X (by decide +kernel) (Nat.le_of_ble_eq_true rfl) ?_
  unfold f_X12_feed
  show X (wsOf SHM) RX12 cX12_feed 11 (some .int) 1 0 0 [(0, .ref 0), (1, .long p1), (3, .long p2), (5, .long p3)] [] σ _
  refine X_aload_n (pc := 0) (td kX12_feed 0 rfl) rfl 0 rfl ?_
  refine X_iconst (v := (0 : Int32)) (pc := 1) (td kX12_feed 1 rfl) (by decide) ?_
  refine X_putI (pc := 2) sM_0 rfl fk_X12_169 rfl rfl (td kX12_feed 2 rfl) (fun σ2 => ?_)
  refine X_iconst (v := (0 : Int32)) (pc := 5) (td kX12_feed 3 rfl) (by decide) ?_
  refine X_istore (L' := [(7, .int (0 : Int32)), (0, .ref 0), (1, .long p1), (3, .long p2), (5, .long p3)]) (pc := 6) (td kX12_feed 4 rfl) (by decide) rfl ?_
  refine X_jn (P := fun k => ∀ (σ_120 : Mm), X (wsOf SHM) RX12 cX12_feed 11 (some .int) 1 0 120 [(0, .ref 0)] [] σ_120 (k σ_120)) (fun σ_120 => ?_) (fun k120 h120 => ?_)
  · refine X_aload_n (pc := 120) (td kX12_feed 60 rfl) rfl 0 rfl ?_
    refine X_getI (pc := 121) sM_0 rfl fk_X12_174 (td kX12_feed 61 rfl) ?_
    exact X_ret (pc := 124) (td kX12_feed 62 rfl) rfl
  · refine X_sub [1, 2, 3, 4, 0] rfl ?_
    refine lq2_ind (P := fun x7_8 σ_8 E => X (wsOf SHM) RX12 cX12_feed 11 (some .int) 1 0 8 [(0, .ref 0), (1, .long p1), (3, .long p2), (5, .long p3), (7, .int x7_8)] [] σ_8 E) (fun _ _ => X_none) (fun rec8 hrec8 x7_8 σ_8 => ?_) _ _ _
    unfold F_X12_feed_8
    refine X_iload (pc := 8) (td kX12_feed 5 rfl) 4 rfl ?_
    refine X_bipush (v := (24 : Int32)) (pc := 10) (td kX12_feed 6 rfl) (by decide) ?_
    refine X_icmp_ge (pc := 12) (tgt := 120) (td kX12_feed 7 rfl) (by decide) (fun c_12 => ?_) (fun c_12 => ?_)
    · refine X_sub [0] rfl ?_
      exact h120 σ_8
    · refine X_iload (pc := 15) (td kX12_feed 8 rfl) 4 rfl ?_
      refine X_bipush (v := (8 : Int32)) (pc := 17) (td kX12_feed 9 rfl) (by decide) ?_
      refine X_jn (P := fun k => ∀ (y0_39 : Int64), X (wsOf SHM) RX12 cX12_feed 11 (some .int) 1 0 39 [(0, .ref 0), (1, .long p1), (3, .long p2), (5, .long p3), (7, .int x7_8)] [.long y0_39] σ_8 (k y0_39)) (fun y0_39 => ?_) (fun k39 h39 => ?_)
      · unfold J_X12_feed_39
        refine X_lstore (L' := [(8, .long y0_39), (0, .ref 0), (1, .long p1), (3, .long p2), (5, .long p3), (7, .int x7_8)]) (pc := 39) (td kX12_feed 19 rfl) (by decide) rfl ?_
        refine X_lload (pc := 41) (td kX12_feed 20 rfl) 0 rfl ?_
        refine X_bipush (v := (56 : Int32)) (pc := 43) (td kX12_feed 21 rfl) (by decide) ?_
        refine X_bipush (v := (8 : Int32)) (pc := 45) (td kX12_feed 22 rfl) (by decide) ?_
        refine X_iload (pc := 47) (td kX12_feed 23 rfl) 5 rfl ?_
        refine X_bipush (v := (7 : Int32)) (pc := 49) (td kX12_feed 24 rfl) (by decide) ?_
        refine X_iand (pc := 51) (td kX12_feed 25 rfl) ?_
        refine X_imul (pc := 52) (td kX12_feed 26 rfl) ?_
        refine X_isub (pc := 53) (td kX12_feed 27 rfl) ?_
        refine X_lushr (pc := 54) (td kX12_feed 28 rfl) ?_
        refine X_ldc2 (v := (255 : Int64)) (pc := 55) (td kX12_feed 29 rfl) cn_X12_172 ?_
        refine X_land (pc := 58) (td kX12_feed 30 rfl) ?_
        refine X_l2i (pc := 59) (td kX12_feed 31 rfl) ?_
        refine X_bi (fun v10_60 => ?_)
        refine X_istore (L' := [(10, .int v10_60), (8, .long y0_39), (0, .ref 0), (1, .long p1), (3, .long p2), (5, .long p3), (7, .int x7_8)]) (pc := 60) (td kX12_feed 32 rfl) (by decide) rfl ?_
        refine X_aload_n (pc := 62) (td kX12_feed 33 rfl) rfl 2 rfl ?_
        refine X_getI (pc := 63) sM_0 rfl fk_X12_174 (td kX12_feed 34 rfl) ?_
        refine X_sipush (v := (1000 : Int32)) (pc := 66) (td kX12_feed 35 rfl) (by decide) ?_
        refine X_jn (P := fun k => ∀ (σ_114 : Mm), X (wsOf SHM) RX12 cX12_feed 11 (some .int) 1 0 114 [(0, .ref 0), (1, .long p1), (3, .long p2), (5, .long p3), (7, .int x7_8)] [] σ_114 (k σ_114)) (fun σ_114 => ?_) (fun k114 h114 => ?_)
        · refine X_iinc (v := (x7_8 + (1 : Int32))) (L' := [(7, .int (x7_8 + (1 : Int32))), (0, .ref 0), (1, .long p1), (3, .long p2), (5, .long p3)]) (pc := 114) (td kX12_feed 58 rfl) 4 rfl rfl (by decide) rfl ?_
          refine X_goto (pc := 117) (tgt := 8) (td kX12_feed 59 rfl) (by decide) ?_
          refine X_sub [1, 2, 3, 4, 0] rfl ?_
          exact hrec8 (x7_8 + (1 : Int32)) σ_114
        · refine X_icmp_ge (pc := 69) (tgt := 114) (td kX12_feed 36 rfl) (by decide) (fun c_69 => ?_) (fun c_69 => ?_)
          · refine X_sub [2, 3, 4, 5, 6] rfl ?_
            exact h114 σ_8
          · refine X_iload (pc := 72) (td kX12_feed 37 rfl) 0 rfl ?_
            refine X_bipush (v := (10 : Int32)) (pc := 74) (td kX12_feed 38 rfl) (by decide) ?_
            refine X_jn (P := fun k => X (wsOf SHM) RX12 cX12_feed 11 (some .int) 1 0 93 [(0, .ref 0), (1, .long p1), (3, .long p2), (5, .long p3), (7, .int x7_8), (10, .int v10_60)] [] σ_8 k) ?_ (fun k93 h93 => ?_)
            · refine X_aload_n (pc := 93) (td kX12_feed 46 rfl) rfl 0 rfl ?_
              refine X_getF (b := 1) (pc := 94) sM_0 rfl fk_X12_7 (td kX12_feed 47 rfl) ?_
              refine X_aload_n (pc := 97) (td kX12_feed 48 rfl) rfl 0 rfl ?_
              refine X_getI (pc := 98) sM_0 rfl fk_X12_174 (td kX12_feed 49 rfl) ?_
              refine X_iload (pc := 101) (td kX12_feed 50 rfl) 5 rfl ?_
              refine X_iast (pc := 103) sM_1 (td kX12_feed 51 rfl) (fun σ103 => ?_)
              refine X_aload_n (pc := 104) (td kX12_feed 52 rfl) rfl 0 rfl ?_
              refine X_dup (pc := 105) (td kX12_feed 53 rfl) rfl ?_
              refine X_getI (pc := 106) sM_0 rfl fk_X12_174 (td kX12_feed 54 rfl) ?_
              refine X_iconst (v := (1 : Int32)) (pc := 109) (td kX12_feed 55 rfl) (by decide) ?_
              refine X_iadd (pc := 110) (td kX12_feed 56 rfl) ?_
              refine X_putI (pc := 111) sM_0 rfl fk_X12_174 rfl rfl (td kX12_feed 57 rfl) (fun σ111 => ?_)
              refine X_sub [0, 1, 2, 3, 4] rfl ?_
              exact h114 σ111
            · refine X_icmp_eq (pc := 76) (tgt := 93) (td kX12_feed 39 rfl) (by decide) (fun c_76 => ?_) (fun c_76 => ?_)
              · refine X_sub [2, 3, 4, 5, 6, 0] rfl ?_
                exact h93
              · refine X_iload (pc := 79) (td kX12_feed 40 rfl) 0 rfl ?_
                refine X_bipush (v := (32 : Int32)) (pc := 81) (td kX12_feed 41 rfl) (by decide) ?_
                refine X_icmp_lt (pc := 83) (tgt := 114) (td kX12_feed 42 rfl) (by decide) (fun c_83 => ?_) (fun c_83 => ?_)
                · refine X_sub [2, 3, 4, 5, 6] rfl ?_
                  exact h114 σ_8
                · refine X_iload (pc := 86) (td kX12_feed 43 rfl) 0 rfl ?_
                  refine X_bipush (v := (126 : Int32)) (pc := 88) (td kX12_feed 44 rfl) (by decide) ?_
                  refine X_icmp_gt (pc := 90) (tgt := 114) (td kX12_feed 45 rfl) (by decide) (fun c_90 => ?_) (fun c_90 => ?_)
                  · refine X_sub [2, 3, 4, 5, 6] rfl ?_
                    exact h114 σ_8
                  · refine X_sub [2, 3, 4, 5, 6, 0] rfl ?_
                    exact h93
      · refine X_icmp_ge (pc := 19) (tgt := 26) (td kX12_feed 10 rfl) (by decide) (fun c_19 => ?_) (fun c_19 => ?_)
        · refine X_iload (pc := 26) (td kX12_feed 13 rfl) 4 rfl ?_
          refine X_bipush (v := (16 : Int32)) (pc := 28) (td kX12_feed 14 rfl) (by decide) ?_
          refine X_icmp_ge (pc := 30) (tgt := 37) (td kX12_feed 15 rfl) (by decide) (fun c_30 => ?_) (fun c_30 => ?_)
          · refine X_lload (pc := 37) (td kX12_feed 18 rfl) 3 rfl ?_
            exact h39 p3
          · refine X_lload_n (pc := 33) (td kX12_feed 16 rfl) rfl 2 rfl ?_
            refine X_goto (pc := 34) (tgt := 39) (td kX12_feed 17 rfl) (by decide) ?_
            exact h39 p2
        · refine X_lload_n (pc := 22) (td kX12_feed 11 rfl) rfl 1 rfl ?_
          refine X_goto (pc := 23) (tgt := 39) (td kX12_feed 12 rfl) (by decide) ?_
          exact h39 p1
def F_X12_fresh_23 (k84 : Mm → Option (Int32 × Mm)) (rec23 : Int32 → Mm → Option (Int32 × Mm)) (x1_23 : Int32) (σ_23 : Mm) : Option (Int32 × Mm) := ck (inb (2 : Int32) 8) ((if x1_23 < (gI σ_23 2 (2 : Int32).toNatClampNeg) then ck (inb x1_23 12) (ck (inb ((11 : Int32) + x1_23) 41) (bn (pI σ_23 36 ((11 : Int32) + x1_23).toNatClampNeg (gI σ_23 9 x1_23.toNatClampNeg)) (fun σ47 => ck (inb x1_23 12) (ck (inb ((17 : Int32) + x1_23) 41) (bn (pI σ47 36 ((17 : Int32) + x1_23).toNatClampNeg (gI σ47 10 x1_23.toNatClampNeg)) (fun σ62 => ck (inb x1_23 12) (ck (inb ((23 : Int32) + x1_23) 41) (bn (pI σ62 36 ((23 : Int32) + x1_23).toNatClampNeg (gI σ62 11 x1_23.toNatClampNeg)) (fun σ77 => rec23 (x1_23 + (1 : Int32)) σ77))))))))) else k84 σ_23))
def F_X12_fresh_2 (k21 : Mm → Option (Int32 × Mm)) (rec2 : Int32 → Mm → Option (Int32 × Mm)) (x1_2 : Int32) (σ_2 : Mm) : Option (Int32 × Mm) := (if x1_2 < (41 : Int32) then ck (inb x1_2 41) (bn (pI σ_2 36 x1_2.toNatClampNeg (0 : Int32)) (fun σ14 => rec2 (x1_2 + (1 : Int32)) σ14)) else k21 σ_2)
def f_X12_fresh (σ : Mm) : Option (Int32 × Mm) := jn (fun (σ_21 : Mm) => jn (fun (σ_84 : Mm) => some (0, σ_84)) (fun k84 => lq2 (F_X12_fresh_23 k84) 1000000 (0 : Int32) σ_21)) (fun k21 => lq2 (F_X12_fresh_2 k21) 1000000 (0 : Int32) σ)
set_option maxHeartbeats 4000000 in
set_option maxRecDepth 100000 in
theorem x_X12_fresh (σ : Mm) : Con (wsOf SHM) yX12_fresh cX12_fresh 2 none 1 [.ref 0] σ (f_X12_fresh σ) := by
  refine Con.of_X (by decide +kernel) (Nat.le_of_ble_eq_true rfl) ?_
  unfold f_X12_fresh
  show X (wsOf SHM) RX12 cX12_fresh 2 none 1 0 0 [(0, .ref 0)] [] σ _
  refine X_iconst (v := (0 : Int32)) (pc := 0) (td kX12_fresh 0 rfl) (by decide) ?_
  refine X_istore_n (L' := [(1, .int (0 : Int32)), (0, .ref 0)]) (pc := 1) (td kX12_fresh 1 rfl) rfl (by decide) rfl ?_
  refine X_jn (P := fun k => ∀ (σ_21 : Mm), X (wsOf SHM) RX12 cX12_fresh 2 none 1 0 21 [(0, .ref 0)] [] σ_21 (k σ_21)) (fun σ_21 => ?_) (fun k21 h21 => ?_)
  · refine X_iconst (v := (0 : Int32)) (pc := 21) (td kX12_fresh 12 rfl) (by decide) ?_
    refine X_istore_n (L' := [(1, .int (0 : Int32)), (0, .ref 0)]) (pc := 22) (td kX12_fresh 13 rfl) rfl (by decide) rfl ?_
    refine X_jn (P := fun k => ∀ (σ_84 : Mm), X (wsOf SHM) RX12 cX12_fresh 2 none 1 0 84 [] [] σ_84 (k σ_84)) (fun σ_84 => ?_) (fun k84 h84 => ?_)
    · exact X_retv (pc := 84) (td kX12_fresh 52 rfl)
    · refine X_sub [1, 0] rfl ?_
      refine lq2_ind (P := fun x1_23 σ_23 E => X (wsOf SHM) RX12 cX12_fresh 2 none 1 0 23 [(0, .ref 0), (1, .int x1_23)] [] σ_23 E) (fun _ _ => X_none) (fun rec23 hrec23 x1_23 σ_23 => ?_) _ _ _
      unfold F_X12_fresh_23
      refine X_iload_n (pc := 23) (td kX12_fresh 14 rfl) rfl 1 rfl ?_
      refine X_aload_n (pc := 24) (td kX12_fresh 15 rfl) rfl 0 rfl ?_
      refine X_getF (b := 2) (pc := 25) sM_0 rfl fk_X12_13 (td kX12_fresh 16 rfl) ?_
      refine X_iconst (v := (2 : Int32)) (pc := 28) (td kX12_fresh 17 rfl) (by decide) ?_
      refine X_iald (pc := 29) sM_2 (td kX12_fresh 18 rfl) ?_
      refine X_icmp_ge (pc := 30) (tgt := 84) (td kX12_fresh 19 rfl) (by decide) (fun c_30 => ?_) (fun c_30 => ?_)
      · refine X_sub [] rfl ?_
        exact h84 σ_23
      · refine X_aload_n (pc := 33) (td kX12_fresh 20 rfl) rfl 0 rfl ?_
        refine X_getF (b := 36) (pc := 34) sM_0 rfl fk_X12_117 (td kX12_fresh 21 rfl) ?_
        refine X_bipush (v := (11 : Int32)) (pc := 37) (td kX12_fresh 22 rfl) (by decide) ?_
        refine X_iload_n (pc := 39) (td kX12_fresh 23 rfl) rfl 1 rfl ?_
        refine X_iadd (pc := 40) (td kX12_fresh 24 rfl) ?_
        refine X_aload_n (pc := 41) (td kX12_fresh 25 rfl) rfl 0 rfl ?_
        refine X_getF (b := 9) (pc := 42) sM_0 rfl fk_X12_35 (td kX12_fresh 26 rfl) ?_
        refine X_iload_n (pc := 45) (td kX12_fresh 27 rfl) rfl 1 rfl ?_
        refine X_iald (pc := 46) sM_9 (td kX12_fresh 28 rfl) ?_
        refine X_iast (pc := 47) sM_36 (td kX12_fresh 29 rfl) (fun σ47 => ?_)
        refine X_aload_n (pc := 48) (td kX12_fresh 30 rfl) rfl 0 rfl ?_
        refine X_getF (b := 36) (pc := 49) sM_0 rfl fk_X12_117 (td kX12_fresh 31 rfl) ?_
        refine X_bipush (v := (17 : Int32)) (pc := 52) (td kX12_fresh 32 rfl) (by decide) ?_
        refine X_iload_n (pc := 54) (td kX12_fresh 33 rfl) rfl 1 rfl ?_
        refine X_iadd (pc := 55) (td kX12_fresh 34 rfl) ?_
        refine X_aload_n (pc := 56) (td kX12_fresh 35 rfl) rfl 0 rfl ?_
        refine X_getF (b := 10) (pc := 57) sM_0 rfl fk_X12_38 (td kX12_fresh 36 rfl) ?_
        refine X_iload_n (pc := 60) (td kX12_fresh 37 rfl) rfl 1 rfl ?_
        refine X_iald (pc := 61) sM_10 (td kX12_fresh 38 rfl) ?_
        refine X_iast (pc := 62) sM_36 (td kX12_fresh 39 rfl) (fun σ62 => ?_)
        refine X_aload_n (pc := 63) (td kX12_fresh 40 rfl) rfl 0 rfl ?_
        refine X_getF (b := 36) (pc := 64) sM_0 rfl fk_X12_117 (td kX12_fresh 41 rfl) ?_
        refine X_bipush (v := (23 : Int32)) (pc := 67) (td kX12_fresh 42 rfl) (by decide) ?_
        refine X_iload_n (pc := 69) (td kX12_fresh 43 rfl) rfl 1 rfl ?_
        refine X_iadd (pc := 70) (td kX12_fresh 44 rfl) ?_
        refine X_aload_n (pc := 71) (td kX12_fresh 45 rfl) rfl 0 rfl ?_
        refine X_getF (b := 11) (pc := 72) sM_0 rfl fk_X12_41 (td kX12_fresh 46 rfl) ?_
        refine X_iload_n (pc := 75) (td kX12_fresh 47 rfl) rfl 1 rfl ?_
        refine X_iald (pc := 76) sM_11 (td kX12_fresh 48 rfl) ?_
        refine X_iast (pc := 77) sM_36 (td kX12_fresh 49 rfl) (fun σ77 => ?_)
        refine X_iinc (v := (x1_23 + (1 : Int32))) (L' := [(1, .int (x1_23 + (1 : Int32))), (0, .ref 0)]) (pc := 78) (td kX12_fresh 50 rfl) 1 rfl rfl (by decide) rfl ?_
        refine X_goto (pc := 81) (tgt := 23) (td kX12_fresh 51 rfl) (by decide) ?_
        refine X_sub [1, 0] rfl ?_
        exact hrec23 (x1_23 + (1 : Int32)) σ77
  · refine X_sub [1, 0] rfl ?_
    refine lq2_ind (P := fun x1_2 σ_2 E => X (wsOf SHM) RX12 cX12_fresh 2 none 1 0 2 [(0, .ref 0), (1, .int x1_2)] [] σ_2 E) (fun _ _ => X_none) (fun rec2 hrec2 x1_2 σ_2 => ?_) _ _ _
    unfold F_X12_fresh_2
    refine X_iload_n (pc := 2) (td kX12_fresh 2 rfl) rfl 1 rfl ?_
    refine X_bipush (v := (41 : Int32)) (pc := 3) (td kX12_fresh 3 rfl) (by decide) ?_
    refine X_icmp_ge (pc := 5) (tgt := 21) (td kX12_fresh 4 rfl) (by decide) (fun c_5 => ?_) (fun c_5 => ?_)
    · refine X_sub [0] rfl ?_
      exact h21 σ_2
    · refine X_aload_n (pc := 8) (td kX12_fresh 5 rfl) rfl 0 rfl ?_
      refine X_getF (b := 36) (pc := 9) sM_0 rfl fk_X12_117 (td kX12_fresh 6 rfl) ?_
      refine X_iload_n (pc := 12) (td kX12_fresh 7 rfl) rfl 1 rfl ?_
      refine X_iconst (v := (0 : Int32)) (pc := 13) (td kX12_fresh 8 rfl) (by decide) ?_
      refine X_iast (pc := 14) sM_36 (td kX12_fresh 9 rfl) (fun σ14 => ?_)
      refine X_iinc (v := (x1_2 + (1 : Int32))) (L' := [(1, .int (x1_2 + (1 : Int32))), (0, .ref 0)]) (pc := 15) (td kX12_fresh 10 rfl) 1 rfl rfl (by decide) rfl ?_
      refine X_goto (pc := 18) (tgt := 2) (td kX12_fresh 11 rfl) (by decide) ?_
      refine X_sub [1, 0] rfl ?_
      exact hrec2 (x1_2 + (1 : Int32)) σ14
