def f_X12_readsBoy (σ : Mm) : Option (Int32 × Mm) := (if (gI σ 0 24) = 0 then bn (pI σ 0 24 (1 : Int32)) (fun σ15 => cl (f_X12_nextToken σ15) (fun _ σ19 => cl (f_X12_needsNumber (0 : Int32) (99 : Int32) σ19) (fun r26 σ26 => (if r26 = 0 then some ((0 : Int32), σ26) else ck (inb (7 : Int32) 8) (bn (pI σ26 2 (7 : Int32).toNatClampNeg (gI σ26 0 37)) (fun σ44 => cl (f_X12_closes σ44) (fun r46 σ46 => some (r46, σ46)))))))) else cl (f_X12_fails (3 : Int32) σ) (fun r9 σ9 => some (r9, σ9)))
set_option maxHeartbeats 4000000 in
set_option maxRecDepth 100000 in
theorem x_X12_readsBoy (σ : Mm) : Con (wsOf SHM) yX12_readsBoy cX12_readsBoy 1 (some .boolean) 4 [.ref 0] σ (f_X12_readsBoy σ) := by
  refine Con.of_X (by decide +kernel) (Nat.le_of_ble_eq_true rfl) ?_
  unfold f_X12_readsBoy
  show X (wsOf SHM) RX12 cX12_readsBoy 1 (some .boolean) 4 0 0 [(0, .ref 0)] [] σ _
  refine X_aload_n (pc := 0) (td kX12_readsBoy 0 rfl) rfl 0 rfl ?_
  refine X_getI (pc := 1) sM_0 rfl fk_X12_332 (td kX12_readsBoy 1 rfl) ?_
  refine X_if_eq (pc := 4) (tgt := 13) (td kX12_readsBoy 2 rfl) (by decide) (fun c_4 => ?_) (fun c_4 => ?_)
  · refine X_aload_n (pc := 13) (td kX12_readsBoy 7 rfl) rfl 0 rfl ?_
    refine X_iconst (v := (1 : Int32)) (pc := 14) (td kX12_readsBoy 8 rfl) (by decide) ?_
    refine X_putI (pc := 15) sM_0 rfl fk_X12_332 rfl rfl (td kX12_readsBoy 9 rfl) (fun σ15 => ?_)
    refine X_aload_n (pc := 18) (td kX12_readsBoy 10 rfl) rfl 0 rfl ?_
    refine X_callv (pc := 19) (As := []) (st := []) sM_0 (x_X12_nextToken σ15) mkX12_nextToken lk_X12_239 (by omega) rfl rfl (Nat.le_of_ble_eq_true rfl) (td kX12_readsBoy 11 rfl) (fun _ σ19 _ => ?_)
    refine X_aload_n (pc := 22) (td kX12_readsBoy 12 rfl) rfl 0 rfl ?_
    refine X_iconst (v := (0 : Int32)) (pc := 23) (td kX12_readsBoy 13 rfl) (by decide) ?_
    refine X_bipush (v := (99 : Int32)) (pc := 24) (td kX12_readsBoy 14 rfl) (by decide) ?_
    refine X_calli (pc := 26) (As := [.int (0 : Int32), .int (99 : Int32)]) (st := []) sM_0 (x_X12_needsNumber (0 : Int32) (99 : Int32) σ19) mkX12_needsNumber lk_X12_328 (by omega) rfl rfl (Nat.le_of_ble_eq_true rfl) (td kX12_readsBoy 15 rfl) (fun r26 σ26 _ hr26 => ?_)
    refine X_if_ne (pc := 29) (tgt := 34) (td kX12_readsBoy 16 rfl) (by decide) (fun c_29 => ?_) (fun c_29 => ?_)
    · refine X_aload_n (pc := 34) (td kX12_readsBoy 19 rfl) rfl 0 rfl ?_
      refine X_getF (b := 2) (pc := 35) sM_0 rfl fk_X12_13 (td kX12_readsBoy 20 rfl) ?_
      refine X_bipush (v := (7 : Int32)) (pc := 38) (td kX12_readsBoy 21 rfl) (by decide) ?_
      refine X_aload_n (pc := 40) (td kX12_readsBoy 22 rfl) rfl 0 rfl ?_
      refine X_getI (pc := 41) sM_0 rfl fk_X12_291 (td kX12_readsBoy 23 rfl) ?_
      refine X_iast (pc := 44) sM_2 (td kX12_readsBoy 24 rfl) (fun σ44 => ?_)
      refine X_aload_n (pc := 45) (td kX12_readsBoy 25 rfl) rfl 0 rfl ?_
      refine X_calli (pc := 46) (As := []) (st := []) sM_0 (x_X12_closes σ44) mkX12_closes lk_X12_315 (by omega) rfl rfl (Nat.le_of_ble_eq_true rfl) (td kX12_readsBoy 26 rfl) (fun r46 σ46 _ hr46 => ?_)
      exact X_ret (pc := 49) (td kX12_readsBoy 27 rfl) hr46
    · refine X_iconst (v := (0 : Int32)) (pc := 32) (td kX12_readsBoy 17 rfl) (by decide) ?_
      exact X_ret (pc := 33) (td kX12_readsBoy 18 rfl) rfl
  · refine X_aload_n (pc := 7) (td kX12_readsBoy 3 rfl) rfl 0 rfl ?_
    refine X_iconst (v := (3 : Int32)) (pc := 8) (td kX12_readsBoy 4 rfl) (by decide) ?_
    refine X_calli (pc := 9) (As := [.int (3 : Int32)]) (st := []) sM_0 (x_X12_fails (3 : Int32) σ) mkX12_fails lk_X12_232 (by omega) rfl rfl (Nat.le_of_ble_eq_true rfl) (td kX12_readsBoy 5 rfl) (fun r9 σ9 _ hr9 => ?_)
    exact X_ret (pc := 12) (td kX12_readsBoy 6 rfl) hr9
def f_X12_readsBurns (σ : Mm) : Option (Int32 × Mm) := ck (inb (1 : Int32) 2) (ck (inb (1 : Int32) 2) ((if (gI σ 12 (1 : Int32).toNatClampNeg) < (gI σ 13 (1 : Int32).toNatClampNeg) then cl (f_X12_fails (3 : Int32) σ) (fun r17 σ17 => some (r17, σ17)) else cl (f_X12_nextToken σ) (fun _ σ22 => ck (inb (1 : Int32) 2) (bn (pI σ22 12 (1 : Int32).toNatClampNeg (gI σ22 0 23)) (fun σ34 => cl (f_X12_reads σ34) (fun r36 σ36 => (if r36 = 0 then some ((0 : Int32), σ36) else ck (inb (1 : Int32) 2) (bn (pI σ36 13 (1 : Int32).toNatClampNeg (gI σ36 0 23)) (fun σ53 => some ((1 : Int32), σ53)))))))))))
set_option maxHeartbeats 4000000 in
set_option maxRecDepth 100000 in
theorem x_X12_readsBurns (σ : Mm) : Con (wsOf SHM) yX12_readsBurns cX12_readsBurns 1 (some .boolean) 4 [.ref 0] σ (f_X12_readsBurns σ) := by
  refine Con.of_X (by decide +kernel) (Nat.le_of_ble_eq_true rfl) ?_
  unfold f_X12_readsBurns
  show X (wsOf SHM) RX12 cX12_readsBurns 1 (some .boolean) 4 0 0 [(0, .ref 0)] [] σ _
  refine X_aload_n (pc := 0) (td kX12_readsBurns 0 rfl) rfl 0 rfl ?_
  refine X_getF (b := 13) (pc := 1) sM_0 rfl fk_X12_47 (td kX12_readsBurns 1 rfl) ?_
  refine X_iconst (v := (1 : Int32)) (pc := 4) (td kX12_readsBurns 2 rfl) (by decide) ?_
  refine X_iald (pc := 5) sM_13 (td kX12_readsBurns 3 rfl) ?_
  refine X_aload_n (pc := 6) (td kX12_readsBurns 4 rfl) rfl 0 rfl ?_
  refine X_getF (b := 12) (pc := 7) sM_0 rfl fk_X12_44 (td kX12_readsBurns 5 rfl) ?_
  refine X_iconst (v := (1 : Int32)) (pc := 10) (td kX12_readsBurns 6 rfl) (by decide) ?_
  refine X_iald (pc := 11) sM_12 (td kX12_readsBurns 7 rfl) ?_
  refine X_icmp_le (pc := 12) (tgt := 21) (td kX12_readsBurns 8 rfl) (by decide) (fun c_12 => ?_) (fun c_12 => ?_)
  · refine X_aload_n (pc := 21) (td kX12_readsBurns 13 rfl) rfl 0 rfl ?_
    refine X_callv (pc := 22) (As := []) (st := []) sM_0 (x_X12_nextToken σ) mkX12_nextToken lk_X12_239 (by omega) rfl rfl (Nat.le_of_ble_eq_true rfl) (td kX12_readsBurns 14 rfl) (fun _ σ22 _ => ?_)
    refine X_aload_n (pc := 25) (td kX12_readsBurns 15 rfl) rfl 0 rfl ?_
    refine X_getF (b := 12) (pc := 26) sM_0 rfl fk_X12_44 (td kX12_readsBurns 16 rfl) ?_
    refine X_iconst (v := (1 : Int32)) (pc := 29) (td kX12_readsBurns 17 rfl) (by decide) ?_
    refine X_aload_n (pc := 30) (td kX12_readsBurns 18 rfl) rfl 0 rfl ?_
    refine X_getI (pc := 31) sM_0 rfl fk_X12_207 (td kX12_readsBurns 19 rfl) ?_
    refine X_iast (pc := 34) sM_12 (td kX12_readsBurns 20 rfl) (fun σ34 => ?_)
    refine X_aload_n (pc := 35) (td kX12_readsBurns 21 rfl) rfl 0 rfl ?_
    refine X_calli (pc := 36) (As := []) (st := []) sM_0 (x_X12_reads σ34) mkX12_reads lk_X12_336 (by omega) rfl rfl (Nat.le_of_ble_eq_true rfl) (td kX12_readsBurns 22 rfl) (fun r36 σ36 _ hr36 => ?_)
    refine X_if_ne (pc := 39) (tgt := 44) (td kX12_readsBurns 23 rfl) (by decide) (fun c_39 => ?_) (fun c_39 => ?_)
    · refine X_aload_n (pc := 44) (td kX12_readsBurns 26 rfl) rfl 0 rfl ?_
      refine X_getF (b := 13) (pc := 45) sM_0 rfl fk_X12_47 (td kX12_readsBurns 27 rfl) ?_
      refine X_iconst (v := (1 : Int32)) (pc := 48) (td kX12_readsBurns 28 rfl) (by decide) ?_
      refine X_aload_n (pc := 49) (td kX12_readsBurns 29 rfl) rfl 0 rfl ?_
      refine X_getI (pc := 50) sM_0 rfl fk_X12_207 (td kX12_readsBurns 30 rfl) ?_
      refine X_iast (pc := 53) sM_13 (td kX12_readsBurns 31 rfl) (fun σ53 => ?_)
      refine X_iconst (v := (1 : Int32)) (pc := 54) (td kX12_readsBurns 32 rfl) (by decide) ?_
      exact X_ret (pc := 55) (td kX12_readsBurns 33 rfl) rfl
    · refine X_iconst (v := (0 : Int32)) (pc := 42) (td kX12_readsBurns 24 rfl) (by decide) ?_
      exact X_ret (pc := 43) (td kX12_readsBurns 25 rfl) rfl
  · refine X_aload_n (pc := 15) (td kX12_readsBurns 9 rfl) rfl 0 rfl ?_
    refine X_iconst (v := (3 : Int32)) (pc := 16) (td kX12_readsBurns 10 rfl) (by decide) ?_
    refine X_calli (pc := 17) (As := [.int (3 : Int32)]) (st := []) sM_0 (x_X12_fails (3 : Int32) σ) mkX12_fails lk_X12_232 (by omega) rfl rfl (Nat.le_of_ble_eq_true rfl) (td kX12_readsBurns 11 rfl) (fun r17 σ17 _ hr17 => ?_)
    exact X_ret (pc := 20) (td kX12_readsBurns 12 rfl) hr17
def f_X12_readsLane (σ : Mm) : Option (Int32 × Mm) := ck (inb (5 : Int32) 8) (bn ((8 : Int32) + (gI σ 2 (5 : Int32).toNatClampNeg)) (fun v1_9 => (if v1_9 = (16 : Int32) then cl (f_X12_fails (5 : Int32) σ) (fun r18 σ18 => some (r18, σ18)) else cl (f_X12_nextToken σ) (fun _ σ23 => cl (f_X12_needsTwo (1 : Int32) σ23) (fun r28 σ28 => (if r28 = 0 then some ((0 : Int32), σ28) else cl (f_X12_laneOf (1 : Int32) (gI σ28 0 39) (gI σ28 0 37) σ28) (fun r46 _ => (if r46 < 0 then ck (inb v1_9 16) (bn (pI σ28 5 v1_9.toNatClampNeg (gI σ28 0 39)) (fun σ67 => ck (inb v1_9 16) (bn (pI σ67 6 v1_9.toNatClampNeg (gI σ67 0 37)) (fun σ77 => cl (f_X12_nextToken σ77) (fun _ σ79 => cl (f_X12_needsWord (1489744 : Int64) σ79) (fun r86 σ86 => jn (fun (σ_102 : Mm) => some ((0 : Int32), σ_102)) (fun k102 => (if r86 = 0 then k102 σ86 else cl (f_X12_needsNumber (0 : Int32) (20 : Int32) σ86) (fun r96 σ96 => (if r96 = 0 then k102 σ96 else ck (inb v1_9 16) (bn (pI σ96 7 v1_9.toNatClampNeg (gI σ96 0 37)) (fun σ113 => ck (inb (5 : Int32) 8) (ck (inb (5 : Int32) 8) (bn (pI σ113 2 (5 : Int32).toNatClampNeg ((gI σ113 2 (5 : Int32).toNatClampNeg) + (1 : Int32))) (fun σ123 => cl (f_X12_closes σ123) (fun r125 σ125 => some (r125, σ125))))))))))))))))) else cl (f_X12_fails (3 : Int32) σ28) (fun r54 σ54 => some (r54, σ54))))))))))
set_option maxHeartbeats 4000000 in
set_option maxRecDepth 100000 in
theorem x_X12_readsLane (σ : Mm) : Con (wsOf SHM) yX12_readsLane cX12_readsLane 2 (some .boolean) 4 [.ref 0] σ (f_X12_readsLane σ) := by
  refine Con.of_X (by decide +kernel) (Nat.le_of_ble_eq_true rfl) ?_
  unfold f_X12_readsLane
  show X (wsOf SHM) RX12 cX12_readsLane 2 (some .boolean) 4 0 0 [(0, .ref 0)] [] σ _
  refine X_bipush (v := (8 : Int32)) (pc := 0) (td kX12_readsLane 0 rfl) (by decide) ?_
  refine X_aload_n (pc := 2) (td kX12_readsLane 1 rfl) rfl 0 rfl ?_
  refine X_getF (b := 2) (pc := 3) sM_0 rfl fk_X12_13 (td kX12_readsLane 2 rfl) ?_
  refine X_iconst (v := (5 : Int32)) (pc := 6) (td kX12_readsLane 3 rfl) (by decide) ?_
  refine X_iald (pc := 7) sM_2 (td kX12_readsLane 4 rfl) ?_
  refine X_iadd (pc := 8) (td kX12_readsLane 5 rfl) ?_
  refine X_bi (fun v1_9 => ?_)
  refine X_istore_n (L' := [(1, .int v1_9), (0, .ref 0)]) (pc := 9) (td kX12_readsLane 6 rfl) rfl (by decide) rfl ?_
  refine X_iload_n (pc := 10) (td kX12_readsLane 7 rfl) rfl 0 rfl ?_
  refine X_bipush (v := (16 : Int32)) (pc := 11) (td kX12_readsLane 8 rfl) (by decide) ?_
  refine X_icmp_ne (pc := 13) (tgt := 22) (td kX12_readsLane 9 rfl) (by decide) (fun c_13 => ?_) (fun c_13 => ?_)
  · refine X_aload_n (pc := 22) (td kX12_readsLane 14 rfl) rfl 1 rfl ?_
    refine X_callv (pc := 23) (As := []) (st := []) sM_0 (x_X12_nextToken σ) mkX12_nextToken lk_X12_239 (by omega) rfl rfl (Nat.le_of_ble_eq_true rfl) (td kX12_readsLane 15 rfl) (fun _ σ23 _ => ?_)
    refine X_aload_n (pc := 26) (td kX12_readsLane 16 rfl) rfl 1 rfl ?_
    refine X_iconst (v := (1 : Int32)) (pc := 27) (td kX12_readsLane 17 rfl) (by decide) ?_
    refine X_calli (pc := 28) (As := [.int (1 : Int32)]) (st := []) sM_0 (x_X12_needsTwo (1 : Int32) σ23) mkX12_needsTwo lk_X12_318 (by omega) rfl rfl (Nat.le_of_ble_eq_true rfl) (td kX12_readsLane 18 rfl) (fun r28 σ28 _ hr28 => ?_)
    refine X_if_ne (pc := 31) (tgt := 36) (td kX12_readsLane 19 rfl) (by decide) (fun c_31 => ?_) (fun c_31 => ?_)
    · refine X_aload_n (pc := 36) (td kX12_readsLane 22 rfl) rfl 1 rfl ?_
      refine X_iconst (v := (1 : Int32)) (pc := 37) (td kX12_readsLane 23 rfl) (by decide) ?_
      refine X_aload_n (pc := 38) (td kX12_readsLane 24 rfl) rfl 1 rfl ?_
      refine X_getI (pc := 39) sM_0 rfl fk_X12_309 (td kX12_readsLane 25 rfl) ?_
      refine X_aload_n (pc := 42) (td kX12_readsLane 26 rfl) rfl 1 rfl ?_
      refine X_getI (pc := 43) sM_0 rfl fk_X12_291 (td kX12_readsLane 27 rfl) ?_
      refine X_callip (pc := 46) (As := [.int (1 : Int32), .int (gI σ28 0 39), .int (gI σ28 0 37)]) (st := []) (p_X12_laneOf (1 : Int32) (gI σ28 0 39) (gI σ28 0 37) σ28) sM_0 (x_X12_laneOf (1 : Int32) (gI σ28 0 39) (gI σ28 0 37) σ28) mkX12_laneOf lk_X12_321 (by omega) rfl rfl (Nat.le_of_ble_eq_true rfl) (td kX12_readsLane 28 rfl) (fun r46 hr46 => ?_)
      refine X_if_lt (pc := 49) (tgt := 58) (td kX12_readsLane 29 rfl) (by decide) (fun c_49 => ?_) (fun c_49 => ?_)
      · refine X_aload_n (pc := 58) (td kX12_readsLane 34 rfl) rfl 1 rfl ?_
        refine X_getF (b := 5) (pc := 59) sM_0 rfl fk_X12_23 (td kX12_readsLane 35 rfl) ?_
        refine X_iload_n (pc := 62) (td kX12_readsLane 36 rfl) rfl 0 rfl ?_
        refine X_aload_n (pc := 63) (td kX12_readsLane 37 rfl) rfl 1 rfl ?_
        refine X_getI (pc := 64) sM_0 rfl fk_X12_309 (td kX12_readsLane 38 rfl) ?_
        refine X_iast (pc := 67) sM_5 (td kX12_readsLane 39 rfl) (fun σ67 => ?_)
        refine X_aload_n (pc := 68) (td kX12_readsLane 40 rfl) rfl 1 rfl ?_
        refine X_getF (b := 6) (pc := 69) sM_0 rfl fk_X12_26 (td kX12_readsLane 41 rfl) ?_
        refine X_iload_n (pc := 72) (td kX12_readsLane 42 rfl) rfl 0 rfl ?_
        refine X_aload_n (pc := 73) (td kX12_readsLane 43 rfl) rfl 1 rfl ?_
        refine X_getI (pc := 74) sM_0 rfl fk_X12_291 (td kX12_readsLane 44 rfl) ?_
        refine X_iast (pc := 77) sM_6 (td kX12_readsLane 45 rfl) (fun σ77 => ?_)
        refine X_aload_n (pc := 78) (td kX12_readsLane 46 rfl) rfl 1 rfl ?_
        refine X_callv (pc := 79) (As := []) (st := []) sM_0 (x_X12_nextToken σ77) mkX12_nextToken lk_X12_239 (by omega) rfl rfl (Nat.le_of_ble_eq_true rfl) (td kX12_readsLane 47 rfl) (fun _ σ79 _ => ?_)
        refine X_aload_n (pc := 82) (td kX12_readsLane 48 rfl) rfl 1 rfl ?_
        refine X_ldc2 (v := (1489744 : Int64)) (pc := 83) (td kX12_readsLane 49 rfl) cn_X12_259 ?_
        refine X_calli (pc := 86) (As := [.long (1489744 : Int64)]) (st := []) sM_0 (x_X12_needsWord (1489744 : Int64) σ79) mkX12_needsWord lk_X12_325 (by omega) rfl rfl (Nat.le_of_ble_eq_true rfl) (td kX12_readsLane 50 rfl) (fun r86 σ86 _ hr86 => ?_)
        refine X_jn (P := fun k => ∀ (σ_102 : Mm), X (wsOf SHM) RX12 cX12_readsLane 2 (some .boolean) 4 0 102 [] [] σ_102 (k σ_102)) (fun σ_102 => ?_) (fun k102 h102 => ?_)
        · refine X_iconst (v := (0 : Int32)) (pc := 102) (td kX12_readsLane 57 rfl) (by decide) ?_
          exact X_ret (pc := 103) (td kX12_readsLane 58 rfl) rfl
        · refine X_if_eq (pc := 89) (tgt := 102) (td kX12_readsLane 51 rfl) (by decide) (fun c_89 => ?_) (fun c_89 => ?_)
          · refine X_sub [] rfl ?_
            exact h102 σ86
          · refine X_aload_n (pc := 92) (td kX12_readsLane 52 rfl) rfl 1 rfl ?_
            refine X_iconst (v := (0 : Int32)) (pc := 93) (td kX12_readsLane 53 rfl) (by decide) ?_
            refine X_bipush (v := (20 : Int32)) (pc := 94) (td kX12_readsLane 54 rfl) (by decide) ?_
            refine X_calli (pc := 96) (As := [.int (0 : Int32), .int (20 : Int32)]) (st := []) sM_0 (x_X12_needsNumber (0 : Int32) (20 : Int32) σ86) mkX12_needsNumber lk_X12_328 (by omega) rfl rfl (Nat.le_of_ble_eq_true rfl) (td kX12_readsLane 55 rfl) (fun r96 σ96 _ hr96 => ?_)
            refine X_if_ne (pc := 99) (tgt := 104) (td kX12_readsLane 56 rfl) (by decide) (fun c_99 => ?_) (fun c_99 => ?_)
            · refine X_aload_n (pc := 104) (td kX12_readsLane 59 rfl) rfl 1 rfl ?_
              refine X_getF (b := 7) (pc := 105) sM_0 rfl fk_X12_29 (td kX12_readsLane 60 rfl) ?_
              refine X_iload_n (pc := 108) (td kX12_readsLane 61 rfl) rfl 0 rfl ?_
              refine X_aload_n (pc := 109) (td kX12_readsLane 62 rfl) rfl 1 rfl ?_
              refine X_getI (pc := 110) sM_0 rfl fk_X12_291 (td kX12_readsLane 63 rfl) ?_
              refine X_iast (pc := 113) sM_7 (td kX12_readsLane 64 rfl) (fun σ113 => ?_)
              refine X_aload_n (pc := 114) (td kX12_readsLane 65 rfl) rfl 1 rfl ?_
              refine X_getF (b := 2) (pc := 115) sM_0 rfl fk_X12_13 (td kX12_readsLane 66 rfl) ?_
              refine X_iconst (v := (5 : Int32)) (pc := 118) (td kX12_readsLane 67 rfl) (by decide) ?_
              refine X_dup2 (pc := 119) (td kX12_readsLane 68 rfl) rfl rfl ?_
              refine X_iald (pc := 120) sM_2 (td kX12_readsLane 69 rfl) ?_
              refine X_iconst (v := (1 : Int32)) (pc := 121) (td kX12_readsLane 70 rfl) (by decide) ?_
              refine X_iadd (pc := 122) (td kX12_readsLane 71 rfl) ?_
              refine X_iast (pc := 123) sM_2 (td kX12_readsLane 72 rfl) (fun σ123 => ?_)
              refine X_aload_n (pc := 124) (td kX12_readsLane 73 rfl) rfl 1 rfl ?_
              refine X_calli (pc := 125) (As := []) (st := []) sM_0 (x_X12_closes σ123) mkX12_closes lk_X12_315 (by omega) rfl rfl (Nat.le_of_ble_eq_true rfl) (td kX12_readsLane 74 rfl) (fun r125 σ125 _ hr125 => ?_)
              exact X_ret (pc := 128) (td kX12_readsLane 75 rfl) hr125
            · refine X_sub [] rfl ?_
              exact h102 σ96
      · refine X_aload_n (pc := 52) (td kX12_readsLane 30 rfl) rfl 1 rfl ?_
        refine X_iconst (v := (3 : Int32)) (pc := 53) (td kX12_readsLane 31 rfl) (by decide) ?_
        refine X_calli (pc := 54) (As := [.int (3 : Int32)]) (st := []) sM_0 (x_X12_fails (3 : Int32) σ28) mkX12_fails lk_X12_232 (by omega) rfl rfl (Nat.le_of_ble_eq_true rfl) (td kX12_readsLane 32 rfl) (fun r54 σ54 _ hr54 => ?_)
        exact X_ret (pc := 57) (td kX12_readsLane 33 rfl) hr54
    · refine X_iconst (v := (0 : Int32)) (pc := 34) (td kX12_readsLane 20 rfl) (by decide) ?_
      exact X_ret (pc := 35) (td kX12_readsLane 21 rfl) rfl
  · refine X_aload_n (pc := 16) (td kX12_readsLane 10 rfl) rfl 1 rfl ?_
    refine X_iconst (v := (5 : Int32)) (pc := 17) (td kX12_readsLane 11 rfl) (by decide) ?_
    refine X_calli (pc := 18) (As := [.int (5 : Int32)]) (st := []) sM_0 (x_X12_fails (5 : Int32) σ) mkX12_fails lk_X12_232 (by omega) rfl rfl (Nat.le_of_ble_eq_true rfl) (td kX12_readsLane 12 rfl) (fun r18 σ18 _ hr18 => ?_)
    exact X_ret (pc := 21) (td kX12_readsLane 13 rfl) hr18
def f_X12_readsPlace (σ : Mm) : Option (Int32 × Mm) := ck (inb (4 : Int32) 8) (bn ((6 : Int32) + (gI σ 2 (4 : Int32).toNatClampNeg)) (fun v1_9 => (if v1_9 = (12 : Int32) then cl (f_X12_fails (5 : Int32) σ) (fun r18 σ18 => some (r18, σ18)) else cl (f_X12_nextToken σ) (fun _ σ23 => cl (f_X12_needsNew σ23) (fun r27 σ27 => (if r27 = 0 then some ((0 : Int32), σ27) else ck (inb v1_9 12) (bn (pL σ27 3 v1_9.toNatClampNeg (gL σ27 0 38)) (fun σ44 => ck (inb (4 : Int32) 8) (ck (inb (4 : Int32) 8) (bn (pI σ44 2 (4 : Int32).toNatClampNeg ((gI σ44 2 (4 : Int32).toNatClampNeg) + (1 : Int32))) (fun σ54 => cl (f_X12_closes σ54) (fun r56 σ56 => some (r56, σ56)))))))))))))
set_option maxHeartbeats 4000000 in
set_option maxRecDepth 100000 in
theorem x_X12_readsPlace (σ : Mm) : Con (wsOf SHM) yX12_readsPlace cX12_readsPlace 2 (some .boolean) 4 [.ref 0] σ (f_X12_readsPlace σ) := by
  refine Con.of_X (by decide +kernel) (Nat.le_of_ble_eq_true rfl) ?_
  unfold f_X12_readsPlace
  show X (wsOf SHM) RX12 cX12_readsPlace 2 (some .boolean) 4 0 0 [(0, .ref 0)] [] σ _
  refine X_bipush (v := (6 : Int32)) (pc := 0) (td kX12_readsPlace 0 rfl) (by decide) ?_
  refine X_aload_n (pc := 2) (td kX12_readsPlace 1 rfl) rfl 0 rfl ?_
  refine X_getF (b := 2) (pc := 3) sM_0 rfl fk_X12_13 (td kX12_readsPlace 2 rfl) ?_
  refine X_iconst (v := (4 : Int32)) (pc := 6) (td kX12_readsPlace 3 rfl) (by decide) ?_
  refine X_iald (pc := 7) sM_2 (td kX12_readsPlace 4 rfl) ?_
  refine X_iadd (pc := 8) (td kX12_readsPlace 5 rfl) ?_
  refine X_bi (fun v1_9 => ?_)
  refine X_istore_n (L' := [(1, .int v1_9), (0, .ref 0)]) (pc := 9) (td kX12_readsPlace 6 rfl) rfl (by decide) rfl ?_
  refine X_iload_n (pc := 10) (td kX12_readsPlace 7 rfl) rfl 0 rfl ?_
  refine X_bipush (v := (12 : Int32)) (pc := 11) (td kX12_readsPlace 8 rfl) (by decide) ?_
  refine X_icmp_ne (pc := 13) (tgt := 22) (td kX12_readsPlace 9 rfl) (by decide) (fun c_13 => ?_) (fun c_13 => ?_)
  · refine X_aload_n (pc := 22) (td kX12_readsPlace 14 rfl) rfl 1 rfl ?_
    refine X_callv (pc := 23) (As := []) (st := []) sM_0 (x_X12_nextToken σ) mkX12_nextToken lk_X12_239 (by omega) rfl rfl (Nat.le_of_ble_eq_true rfl) (td kX12_readsPlace 15 rfl) (fun _ σ23 _ => ?_)
    refine X_aload_n (pc := 26) (td kX12_readsPlace 16 rfl) rfl 1 rfl ?_
    refine X_calli (pc := 27) (As := []) (st := []) sM_0 (x_X12_needsNew σ23) mkX12_needsNew lk_X12_312 (by omega) rfl rfl (Nat.le_of_ble_eq_true rfl) (td kX12_readsPlace 17 rfl) (fun r27 σ27 _ hr27 => ?_)
    refine X_if_ne (pc := 30) (tgt := 35) (td kX12_readsPlace 18 rfl) (by decide) (fun c_30 => ?_) (fun c_30 => ?_)
    · refine X_aload_n (pc := 35) (td kX12_readsPlace 21 rfl) rfl 1 rfl ?_
      refine X_getF (b := 3) (pc := 36) sM_0 rfl fk_X12_16 (td kX12_readsPlace 22 rfl) ?_
      refine X_iload_n (pc := 39) (td kX12_readsPlace 23 rfl) rfl 0 rfl ?_
      refine X_aload_n (pc := 40) (td kX12_readsPlace 24 rfl) rfl 1 rfl ?_
      refine X_getL (pc := 41) sM_0 rfl fk_X12_304 (td kX12_readsPlace 25 rfl) ?_
      refine X_last (pc := 44) sM_3 (td kX12_readsPlace 26 rfl) (fun σ44 => ?_)
      refine X_aload_n (pc := 45) (td kX12_readsPlace 27 rfl) rfl 1 rfl ?_
      refine X_getF (b := 2) (pc := 46) sM_0 rfl fk_X12_13 (td kX12_readsPlace 28 rfl) ?_
      refine X_iconst (v := (4 : Int32)) (pc := 49) (td kX12_readsPlace 29 rfl) (by decide) ?_
      refine X_dup2 (pc := 50) (td kX12_readsPlace 30 rfl) rfl rfl ?_
      refine X_iald (pc := 51) sM_2 (td kX12_readsPlace 31 rfl) ?_
      refine X_iconst (v := (1 : Int32)) (pc := 52) (td kX12_readsPlace 32 rfl) (by decide) ?_
      refine X_iadd (pc := 53) (td kX12_readsPlace 33 rfl) ?_
      refine X_iast (pc := 54) sM_2 (td kX12_readsPlace 34 rfl) (fun σ54 => ?_)
      refine X_aload_n (pc := 55) (td kX12_readsPlace 35 rfl) rfl 1 rfl ?_
      refine X_calli (pc := 56) (As := []) (st := []) sM_0 (x_X12_closes σ54) mkX12_closes lk_X12_315 (by omega) rfl rfl (Nat.le_of_ble_eq_true rfl) (td kX12_readsPlace 36 rfl) (fun r56 σ56 _ hr56 => ?_)
      exact X_ret (pc := 59) (td kX12_readsPlace 37 rfl) hr56
    · refine X_iconst (v := (0 : Int32)) (pc := 33) (td kX12_readsPlace 19 rfl) (by decide) ?_
      exact X_ret (pc := 34) (td kX12_readsPlace 20 rfl) rfl
  · refine X_aload_n (pc := 16) (td kX12_readsPlace 10 rfl) rfl 1 rfl ?_
    refine X_iconst (v := (5 : Int32)) (pc := 17) (td kX12_readsPlace 11 rfl) (by decide) ?_
    refine X_calli (pc := 18) (As := [.int (5 : Int32)]) (st := []) sM_0 (x_X12_fails (5 : Int32) σ) mkX12_fails lk_X12_232 (by omega) rfl rfl (Nat.le_of_ble_eq_true rfl) (td kX12_readsPlace 12 rfl) (fun r18 σ18 _ hr18 => ?_)
    exact X_ret (pc := 21) (td kX12_readsPlace 13 rfl) hr18
def J_X12_readsWalker_103 (v1_10 : Int32) (σ28 : Mm) (v2_40 : Int64) (y2_103 : Int32) : Option (Int32 × Mm) := ck (inb v1_10 12) (bn (pI σ28 8 v1_10.toNatClampNeg y2_103) (fun σ103 => ck (inb v1_10 12) ((if (gI σ103 8 v1_10.toNatClampNeg) < 0 then cl (f_X12_fails (1 : Int32) σ103) (fun r115 σ115 => some (r115, σ115)) else cl (f_X12_nextToken σ103) (fun _ σ120 => cl (f_X12_needsWord (131638 : Int64) σ120) (fun r127 σ127 => jn (fun (σ_141 : Mm) => some ((0 : Int32), σ_141)) (fun k141 => (if r127 = 0 then k141 σ127 else cl (f_X12_needsPlace (1 : Int32) σ127) (fun r135 σ135 => (if r135 = 0 then k141 σ135 else ck (inb v1_10 12) (bn (pI σ135 9 v1_10.toNatClampNeg (gI σ135 0 37)) (fun σ152 => cl (f_X12_nextToken σ152) (fun _ σ154 => cl (f_X12_needsWord (555 : Int64) σ154) (fun r161 σ161 => jn (fun (σ_175 : Mm) => some ((0 : Int32), σ_175)) (fun k175 => (if r161 = 0 then k175 σ161 else cl (f_X12_needsPlace (1 : Int32) σ161) (fun r169 σ169 => (if r169 = 0 then k175 σ169 else ck (inb v1_10 12) (bn (pI σ169 10 v1_10.toNatClampNeg (gI σ169 0 37)) (fun σ186 => cl (f_X12_nextToken σ186) (fun _ σ188 => cl (f_X12_needsWord (47 : Int64) σ188) (fun r195 σ195 => jn (fun (σ_211 : Mm) => some ((0 : Int32), σ_211)) (fun k211 => (if r195 = 0 then k211 σ195 else cl (f_X12_needsNumber (0 : Int32) (30 : Int32) σ195) (fun r205 σ205 => (if r205 = 0 then k211 σ205 else ck (inb v1_10 12) (bn (pI σ205 11 v1_10.toNatClampNeg (gI σ205 0 37)) (fun σ222 => ck (inb v1_10 12) (bn (pL σ222 4 v1_10.toNatClampNeg v2_40) (fun σ229 => ck (inb (6 : Int32) 8) (ck (inb (6 : Int32) 8) (bn (pI σ229 2 (6 : Int32).toNatClampNeg ((gI σ229 2 (6 : Int32).toNatClampNeg) + (1 : Int32))) (fun σ240 => cl (f_X12_closes σ240) (fun r242 σ242 => some (r242, σ242)))))))))))))))))))))))))))))))))))
def f_X12_readsWalker (σ : Mm) : Option (Int32 × Mm) := ck (inb (6 : Int32) 8) (bn ((6 : Int32) + (gI σ 2 (6 : Int32).toNatClampNeg)) (fun v1_10 => (if v1_10 = (12 : Int32) then cl (f_X12_fails (5 : Int32) σ) (fun r19 σ19 => some (r19, σ19)) else cl (f_X12_nextToken σ) (fun _ σ24 => cl (f_X12_needsNew σ24) (fun r28 σ28 => (if r28 = 0 then some ((0 : Int32), σ28) else bn (gL σ28 0 38) (fun v2_40 => cl (f_X12_isWord (8740238 : Int64) σ28) (fun r50 _ => jn (J_X12_readsWalker_103 v1_10 σ28 v2_40) (fun k103 => (if r50 = 0 then cl (f_X12_isWord (237292 : Int64) σ28) (fun r64 _ => (if r64 = 0 then cl (f_X12_isWord (1306021 : Int64) σ28) (fun r78 _ => (if r78 = 0 then cl (f_X12_isWord (2495756 : Int64) σ28) (fun r92 _ => (if r92 = 0 then k103 (-1 : Int32) else k103 (3 : Int32))) else k103 (2 : Int32))) else k103 (1 : Int32))) else k103 (0 : Int32)))))))))))
set_option maxHeartbeats 4000000 in
set_option maxRecDepth 100000 in
theorem x_X12_readsWalker (σ : Mm) : Con (wsOf SHM) yX12_readsWalker cX12_readsWalker 4 (some .boolean) 4 [.ref 0] σ (f_X12_readsWalker σ) := by
  refine Con.of_X (by decide +kernel) (Nat.le_of_ble_eq_true rfl) ?_
  unfold f_X12_readsWalker
  show X (wsOf SHM) RX12 cX12_readsWalker 4 (some .boolean) 4 0 0 [(0, .ref 0)] [] σ _
  refine X_bipush (v := (6 : Int32)) (pc := 0) (td kX12_readsWalker 0 rfl) (by decide) ?_
  refine X_aload_n (pc := 2) (td kX12_readsWalker 1 rfl) rfl 0 rfl ?_
  refine X_getF (b := 2) (pc := 3) sM_0 rfl fk_X12_13 (td kX12_readsWalker 2 rfl) ?_
  refine X_bipush (v := (6 : Int32)) (pc := 6) (td kX12_readsWalker 3 rfl) (by decide) ?_
  refine X_iald (pc := 8) sM_2 (td kX12_readsWalker 4 rfl) ?_
  refine X_iadd (pc := 9) (td kX12_readsWalker 5 rfl) ?_
  refine X_bi (fun v1_10 => ?_)
  refine X_istore_n (L' := [(1, .int v1_10), (0, .ref 0)]) (pc := 10) (td kX12_readsWalker 6 rfl) rfl (by decide) rfl ?_
  refine X_iload_n (pc := 11) (td kX12_readsWalker 7 rfl) rfl 0 rfl ?_
  refine X_bipush (v := (12 : Int32)) (pc := 12) (td kX12_readsWalker 8 rfl) (by decide) ?_
  refine X_icmp_ne (pc := 14) (tgt := 23) (td kX12_readsWalker 9 rfl) (by decide) (fun c_14 => ?_) (fun c_14 => ?_)
  · refine X_aload_n (pc := 23) (td kX12_readsWalker 14 rfl) rfl 1 rfl ?_
    refine X_callv (pc := 24) (As := []) (st := []) sM_0 (x_X12_nextToken σ) mkX12_nextToken lk_X12_239 (by omega) rfl rfl (Nat.le_of_ble_eq_true rfl) (td kX12_readsWalker 15 rfl) (fun _ σ24 _ => ?_)
    refine X_aload_n (pc := 27) (td kX12_readsWalker 16 rfl) rfl 1 rfl ?_
    refine X_calli (pc := 28) (As := []) (st := []) sM_0 (x_X12_needsNew σ24) mkX12_needsNew lk_X12_312 (by omega) rfl rfl (Nat.le_of_ble_eq_true rfl) (td kX12_readsWalker 17 rfl) (fun r28 σ28 _ hr28 => ?_)
    refine X_if_ne (pc := 31) (tgt := 36) (td kX12_readsWalker 18 rfl) (by decide) (fun c_31 => ?_) (fun c_31 => ?_)
    · refine X_aload_n (pc := 36) (td kX12_readsWalker 21 rfl) rfl 1 rfl ?_
      refine X_getL (pc := 37) sM_0 rfl fk_X12_304 (td kX12_readsWalker 22 rfl) ?_
      refine X_bl (fun v2_40 => ?_)
      refine X_lstore_n (L' := [(2, .long v2_40), (1, .int v1_10), (0, .ref 0)]) (pc := 40) (td kX12_readsWalker 23 rfl) rfl (by decide) rfl ?_
      refine X_aload_n (pc := 41) (td kX12_readsWalker 24 rfl) rfl 2 rfl ?_
      refine X_getF (b := 8) (pc := 42) sM_0 rfl fk_X12_32 (td kX12_readsWalker 25 rfl) ?_
      refine X_iload_n (pc := 45) (td kX12_readsWalker 26 rfl) rfl 1 rfl ?_
      refine X_aload_n (pc := 46) (td kX12_readsWalker 27 rfl) rfl 2 rfl ?_
      refine X_ldc2 (v := (8740238 : Int64)) (pc := 47) (td kX12_readsWalker 28 rfl) cn_X12_279 ?_
      refine X_callip (pc := 50) (As := [.long (8740238 : Int64)]) (st := [.int v1_10, .ref 8]) (p_X12_isWord (8740238 : Int64) σ28) sM_0 (x_X12_isWord (8740238 : Int64) σ28) mkX12_isWord lk_X12_224 (by omega) rfl rfl (Nat.le_of_ble_eq_true rfl) (td kX12_readsWalker 29 rfl) (fun r50 hr50 => ?_)
      refine X_jn (P := fun k => ∀ (y2_103 : Int32), X (wsOf SHM) RX12 cX12_readsWalker 4 (some .boolean) 4 0 103 [(0, .ref 0), (1, .int v1_10), (2, .long v2_40)] [.int y2_103, .int v1_10, .ref 8] σ28 (k y2_103)) (fun y2_103 => ?_) (fun k103 h103 => ?_)
      · unfold J_X12_readsWalker_103
        refine X_iast (pc := 103) sM_8 (td kX12_readsWalker 52 rfl) (fun σ103 => ?_)
        refine X_aload_n (pc := 104) (td kX12_readsWalker 53 rfl) rfl 0 rfl ?_
        refine X_getF (b := 8) (pc := 105) sM_0 rfl fk_X12_32 (td kX12_readsWalker 54 rfl) ?_
        refine X_iload_n (pc := 108) (td kX12_readsWalker 55 rfl) rfl 1 rfl ?_
        refine X_iald (pc := 109) sM_8 (td kX12_readsWalker 56 rfl) ?_
        refine X_if_ge (pc := 110) (tgt := 119) (td kX12_readsWalker 57 rfl) (by decide) (fun c_110 => ?_) (fun c_110 => ?_)
        · refine X_aload_n (pc := 119) (td kX12_readsWalker 62 rfl) rfl 0 rfl ?_
          refine X_callv (pc := 120) (As := []) (st := []) sM_0 (x_X12_nextToken σ103) mkX12_nextToken lk_X12_239 (by omega) rfl rfl (Nat.le_of_ble_eq_true rfl) (td kX12_readsWalker 63 rfl) (fun _ σ120 _ => ?_)
          refine X_aload_n (pc := 123) (td kX12_readsWalker 64 rfl) rfl 0 rfl ?_
          refine X_ldc2 (v := (131638 : Int64)) (pc := 124) (td kX12_readsWalker 65 rfl) cn_X12_263 ?_
          refine X_calli (pc := 127) (As := [.long (131638 : Int64)]) (st := []) sM_0 (x_X12_needsWord (131638 : Int64) σ120) mkX12_needsWord lk_X12_325 (by omega) rfl rfl (Nat.le_of_ble_eq_true rfl) (td kX12_readsWalker 66 rfl) (fun r127 σ127 _ hr127 => ?_)
          refine X_jn (P := fun k => ∀ (σ_141 : Mm), X (wsOf SHM) RX12 cX12_readsWalker 4 (some .boolean) 4 0 141 [] [] σ_141 (k σ_141)) (fun σ_141 => ?_) (fun k141 h141 => ?_)
          · refine X_iconst (v := (0 : Int32)) (pc := 141) (td kX12_readsWalker 72 rfl) (by decide) ?_
            exact X_ret (pc := 142) (td kX12_readsWalker 73 rfl) rfl
          · refine X_if_eq (pc := 130) (tgt := 141) (td kX12_readsWalker 67 rfl) (by decide) (fun c_130 => ?_) (fun c_130 => ?_)
            · refine X_sub [] rfl ?_
              exact h141 σ127
            · refine X_aload_n (pc := 133) (td kX12_readsWalker 68 rfl) rfl 0 rfl ?_
              refine X_iconst (v := (1 : Int32)) (pc := 134) (td kX12_readsWalker 69 rfl) (by decide) ?_
              refine X_calli (pc := 135) (As := [.int (1 : Int32)]) (st := []) sM_0 (x_X12_needsPlace (1 : Int32) σ127) mkX12_needsPlace lk_X12_306 (by omega) rfl rfl (Nat.le_of_ble_eq_true rfl) (td kX12_readsWalker 70 rfl) (fun r135 σ135 _ hr135 => ?_)
              refine X_if_ne (pc := 138) (tgt := 143) (td kX12_readsWalker 71 rfl) (by decide) (fun c_138 => ?_) (fun c_138 => ?_)
              · refine X_aload_n (pc := 143) (td kX12_readsWalker 74 rfl) rfl 0 rfl ?_
                refine X_getF (b := 9) (pc := 144) sM_0 rfl fk_X12_35 (td kX12_readsWalker 75 rfl) ?_
                refine X_iload_n (pc := 147) (td kX12_readsWalker 76 rfl) rfl 1 rfl ?_
                refine X_aload_n (pc := 148) (td kX12_readsWalker 77 rfl) rfl 0 rfl ?_
                refine X_getI (pc := 149) sM_0 rfl fk_X12_291 (td kX12_readsWalker 78 rfl) ?_
                refine X_iast (pc := 152) sM_9 (td kX12_readsWalker 79 rfl) (fun σ152 => ?_)
                refine X_aload_n (pc := 153) (td kX12_readsWalker 80 rfl) rfl 0 rfl ?_
                refine X_callv (pc := 154) (As := []) (st := []) sM_0 (x_X12_nextToken σ152) mkX12_nextToken lk_X12_239 (by omega) rfl rfl (Nat.le_of_ble_eq_true rfl) (td kX12_readsWalker 81 rfl) (fun _ σ154 _ => ?_)
                refine X_aload_n (pc := 157) (td kX12_readsWalker 82 rfl) rfl 0 rfl ?_
                refine X_ldc2 (v := (555 : Int64)) (pc := 158) (td kX12_readsWalker 83 rfl) cn_X12_265 ?_
                refine X_calli (pc := 161) (As := [.long (555 : Int64)]) (st := []) sM_0 (x_X12_needsWord (555 : Int64) σ154) mkX12_needsWord lk_X12_325 (by omega) rfl rfl (Nat.le_of_ble_eq_true rfl) (td kX12_readsWalker 84 rfl) (fun r161 σ161 _ hr161 => ?_)
                refine X_jn (P := fun k => ∀ (σ_175 : Mm), X (wsOf SHM) RX12 cX12_readsWalker 4 (some .boolean) 4 0 175 [] [] σ_175 (k σ_175)) (fun σ_175 => ?_) (fun k175 h175 => ?_)
                · refine X_iconst (v := (0 : Int32)) (pc := 175) (td kX12_readsWalker 90 rfl) (by decide) ?_
                  exact X_ret (pc := 176) (td kX12_readsWalker 91 rfl) rfl
                · refine X_if_eq (pc := 164) (tgt := 175) (td kX12_readsWalker 85 rfl) (by decide) (fun c_164 => ?_) (fun c_164 => ?_)
                  · refine X_sub [] rfl ?_
                    exact h175 σ161
                  · refine X_aload_n (pc := 167) (td kX12_readsWalker 86 rfl) rfl 0 rfl ?_
                    refine X_iconst (v := (1 : Int32)) (pc := 168) (td kX12_readsWalker 87 rfl) (by decide) ?_
                    refine X_calli (pc := 169) (As := [.int (1 : Int32)]) (st := []) sM_0 (x_X12_needsPlace (1 : Int32) σ161) mkX12_needsPlace lk_X12_306 (by omega) rfl rfl (Nat.le_of_ble_eq_true rfl) (td kX12_readsWalker 88 rfl) (fun r169 σ169 _ hr169 => ?_)
                    refine X_if_ne (pc := 172) (tgt := 177) (td kX12_readsWalker 89 rfl) (by decide) (fun c_172 => ?_) (fun c_172 => ?_)
                    · refine X_aload_n (pc := 177) (td kX12_readsWalker 92 rfl) rfl 0 rfl ?_
                      refine X_getF (b := 10) (pc := 178) sM_0 rfl fk_X12_38 (td kX12_readsWalker 93 rfl) ?_
                      refine X_iload_n (pc := 181) (td kX12_readsWalker 94 rfl) rfl 1 rfl ?_
                      refine X_aload_n (pc := 182) (td kX12_readsWalker 95 rfl) rfl 0 rfl ?_
                      refine X_getI (pc := 183) sM_0 rfl fk_X12_291 (td kX12_readsWalker 96 rfl) ?_
                      refine X_iast (pc := 186) sM_10 (td kX12_readsWalker 97 rfl) (fun σ186 => ?_)
                      refine X_aload_n (pc := 187) (td kX12_readsWalker 98 rfl) rfl 0 rfl ?_
                      refine X_callv (pc := 188) (As := []) (st := []) sM_0 (x_X12_nextToken σ186) mkX12_nextToken lk_X12_239 (by omega) rfl rfl (Nat.le_of_ble_eq_true rfl) (td kX12_readsWalker 99 rfl) (fun _ σ188 _ => ?_)
                      refine X_aload_n (pc := 191) (td kX12_readsWalker 100 rfl) rfl 0 rfl ?_
                      refine X_ldc2 (v := (47 : Int64)) (pc := 192) (td kX12_readsWalker 101 rfl) cn_X12_267 ?_
                      refine X_calli (pc := 195) (As := [.long (47 : Int64)]) (st := []) sM_0 (x_X12_needsWord (47 : Int64) σ188) mkX12_needsWord lk_X12_325 (by omega) rfl rfl (Nat.le_of_ble_eq_true rfl) (td kX12_readsWalker 102 rfl) (fun r195 σ195 _ hr195 => ?_)
                      refine X_jn (P := fun k => ∀ (σ_211 : Mm), X (wsOf SHM) RX12 cX12_readsWalker 4 (some .boolean) 4 0 211 [] [] σ_211 (k σ_211)) (fun σ_211 => ?_) (fun k211 h211 => ?_)
                      · refine X_iconst (v := (0 : Int32)) (pc := 211) (td kX12_readsWalker 109 rfl) (by decide) ?_
                        exact X_ret (pc := 212) (td kX12_readsWalker 110 rfl) rfl
                      · refine X_if_eq (pc := 198) (tgt := 211) (td kX12_readsWalker 103 rfl) (by decide) (fun c_198 => ?_) (fun c_198 => ?_)
                        · refine X_sub [] rfl ?_
                          exact h211 σ195
                        · refine X_aload_n (pc := 201) (td kX12_readsWalker 104 rfl) rfl 0 rfl ?_
                          refine X_iconst (v := (0 : Int32)) (pc := 202) (td kX12_readsWalker 105 rfl) (by decide) ?_
                          refine X_bipush (v := (30 : Int32)) (pc := 203) (td kX12_readsWalker 106 rfl) (by decide) ?_
                          refine X_calli (pc := 205) (As := [.int (0 : Int32), .int (30 : Int32)]) (st := []) sM_0 (x_X12_needsNumber (0 : Int32) (30 : Int32) σ195) mkX12_needsNumber lk_X12_328 (by omega) rfl rfl (Nat.le_of_ble_eq_true rfl) (td kX12_readsWalker 107 rfl) (fun r205 σ205 _ hr205 => ?_)
                          refine X_if_ne (pc := 208) (tgt := 213) (td kX12_readsWalker 108 rfl) (by decide) (fun c_208 => ?_) (fun c_208 => ?_)
                          · refine X_aload_n (pc := 213) (td kX12_readsWalker 111 rfl) rfl 0 rfl ?_
                            refine X_getF (b := 11) (pc := 214) sM_0 rfl fk_X12_41 (td kX12_readsWalker 112 rfl) ?_
                            refine X_iload_n (pc := 217) (td kX12_readsWalker 113 rfl) rfl 1 rfl ?_
                            refine X_aload_n (pc := 218) (td kX12_readsWalker 114 rfl) rfl 0 rfl ?_
                            refine X_getI (pc := 219) sM_0 rfl fk_X12_291 (td kX12_readsWalker 115 rfl) ?_
                            refine X_iast (pc := 222) sM_11 (td kX12_readsWalker 116 rfl) (fun σ222 => ?_)
                            refine X_aload_n (pc := 223) (td kX12_readsWalker 117 rfl) rfl 0 rfl ?_
                            refine X_getF (b := 4) (pc := 224) sM_0 rfl fk_X12_20 (td kX12_readsWalker 118 rfl) ?_
                            refine X_iload_n (pc := 227) (td kX12_readsWalker 119 rfl) rfl 1 rfl ?_
                            refine X_lload_n (pc := 228) (td kX12_readsWalker 120 rfl) rfl 2 rfl ?_
                            refine X_last (pc := 229) sM_4 (td kX12_readsWalker 121 rfl) (fun σ229 => ?_)
                            refine X_aload_n (pc := 230) (td kX12_readsWalker 122 rfl) rfl 0 rfl ?_
                            refine X_getF (b := 2) (pc := 231) sM_0 rfl fk_X12_13 (td kX12_readsWalker 123 rfl) ?_
                            refine X_bipush (v := (6 : Int32)) (pc := 234) (td kX12_readsWalker 124 rfl) (by decide) ?_
                            refine X_dup2 (pc := 236) (td kX12_readsWalker 125 rfl) rfl rfl ?_
                            refine X_iald (pc := 237) sM_2 (td kX12_readsWalker 126 rfl) ?_
                            refine X_iconst (v := (1 : Int32)) (pc := 238) (td kX12_readsWalker 127 rfl) (by decide) ?_
                            refine X_iadd (pc := 239) (td kX12_readsWalker 128 rfl) ?_
                            refine X_iast (pc := 240) sM_2 (td kX12_readsWalker 129 rfl) (fun σ240 => ?_)
                            refine X_aload_n (pc := 241) (td kX12_readsWalker 130 rfl) rfl 0 rfl ?_
                            refine X_calli (pc := 242) (As := []) (st := []) sM_0 (x_X12_closes σ240) mkX12_closes lk_X12_315 (by omega) rfl rfl (Nat.le_of_ble_eq_true rfl) (td kX12_readsWalker 131 rfl) (fun r242 σ242 _ hr242 => ?_)
                            exact X_ret (pc := 245) (td kX12_readsWalker 132 rfl) hr242
                          · refine X_sub [] rfl ?_
                            exact h211 σ205
                    · refine X_sub [] rfl ?_
                      exact h175 σ169
              · refine X_sub [] rfl ?_
                exact h141 σ135
        · refine X_aload_n (pc := 113) (td kX12_readsWalker 58 rfl) rfl 0 rfl ?_
          refine X_iconst (v := (1 : Int32)) (pc := 114) (td kX12_readsWalker 59 rfl) (by decide) ?_
          refine X_calli (pc := 115) (As := [.int (1 : Int32)]) (st := []) sM_0 (x_X12_fails (1 : Int32) σ103) mkX12_fails lk_X12_232 (by omega) rfl rfl (Nat.le_of_ble_eq_true rfl) (td kX12_readsWalker 60 rfl) (fun r115 σ115 _ hr115 => ?_)
          exact X_ret (pc := 118) (td kX12_readsWalker 61 rfl) hr115
      · refine X_if_eq (pc := 53) (tgt := 60) (td kX12_readsWalker 30 rfl) (by decide) (fun c_53 => ?_) (fun c_53 => ?_)
        · refine X_aload_n (pc := 60) (td kX12_readsWalker 33 rfl) rfl 2 rfl ?_
          refine X_ldc2 (v := (237292 : Int64)) (pc := 61) (td kX12_readsWalker 34 rfl) cn_X12_281 ?_
          refine X_callip (pc := 64) (As := [.long (237292 : Int64)]) (st := [.int v1_10, .ref 8]) (p_X12_isWord (237292 : Int64) σ28) sM_0 (x_X12_isWord (237292 : Int64) σ28) mkX12_isWord lk_X12_224 (by omega) rfl rfl (Nat.le_of_ble_eq_true rfl) (td kX12_readsWalker 35 rfl) (fun r64 hr64 => ?_)
          refine X_if_eq (pc := 67) (tgt := 74) (td kX12_readsWalker 36 rfl) (by decide) (fun c_67 => ?_) (fun c_67 => ?_)
          · refine X_aload_n (pc := 74) (td kX12_readsWalker 39 rfl) rfl 2 rfl ?_
            refine X_ldc2 (v := (1306021 : Int64)) (pc := 75) (td kX12_readsWalker 40 rfl) cn_X12_283 ?_
            refine X_callip (pc := 78) (As := [.long (1306021 : Int64)]) (st := [.int v1_10, .ref 8]) (p_X12_isWord (1306021 : Int64) σ28) sM_0 (x_X12_isWord (1306021 : Int64) σ28) mkX12_isWord lk_X12_224 (by omega) rfl rfl (Nat.le_of_ble_eq_true rfl) (td kX12_readsWalker 41 rfl) (fun r78 hr78 => ?_)
            refine X_if_eq (pc := 81) (tgt := 88) (td kX12_readsWalker 42 rfl) (by decide) (fun c_81 => ?_) (fun c_81 => ?_)
            · refine X_aload_n (pc := 88) (td kX12_readsWalker 45 rfl) rfl 2 rfl ?_
              refine X_ldc2 (v := (2495756 : Int64)) (pc := 89) (td kX12_readsWalker 46 rfl) cn_X12_285 ?_
              refine X_callip (pc := 92) (As := [.long (2495756 : Int64)]) (st := [.int v1_10, .ref 8]) (p_X12_isWord (2495756 : Int64) σ28) sM_0 (x_X12_isWord (2495756 : Int64) σ28) mkX12_isWord lk_X12_224 (by omega) rfl rfl (Nat.le_of_ble_eq_true rfl) (td kX12_readsWalker 47 rfl) (fun r92 hr92 => ?_)
              refine X_if_eq (pc := 95) (tgt := 102) (td kX12_readsWalker 48 rfl) (by decide) (fun c_95 => ?_) (fun c_95 => ?_)
              · refine X_iconst (v := (-1 : Int32)) (pc := 102) (td kX12_readsWalker 51 rfl) (by decide) ?_
                refine X_sub [2, 1, 0] rfl ?_
                exact h103 (-1 : Int32)
              · refine X_iconst (v := (3 : Int32)) (pc := 98) (td kX12_readsWalker 49 rfl) (by decide) ?_
                refine X_goto (pc := 99) (tgt := 103) (td kX12_readsWalker 50 rfl) (by decide) ?_
                refine X_sub [2, 1, 0] rfl ?_
                exact h103 (3 : Int32)
            · refine X_iconst (v := (2 : Int32)) (pc := 84) (td kX12_readsWalker 43 rfl) (by decide) ?_
              refine X_goto (pc := 85) (tgt := 103) (td kX12_readsWalker 44 rfl) (by decide) ?_
              refine X_sub [2, 1, 0] rfl ?_
              exact h103 (2 : Int32)
          · refine X_iconst (v := (1 : Int32)) (pc := 70) (td kX12_readsWalker 37 rfl) (by decide) ?_
            refine X_goto (pc := 71) (tgt := 103) (td kX12_readsWalker 38 rfl) (by decide) ?_
            refine X_sub [2, 1, 0] rfl ?_
            exact h103 (1 : Int32)
        · refine X_iconst (v := (0 : Int32)) (pc := 56) (td kX12_readsWalker 31 rfl) (by decide) ?_
          refine X_goto (pc := 57) (tgt := 103) (td kX12_readsWalker 32 rfl) (by decide) ?_
          refine X_sub [2, 1, 0] rfl ?_
          exact h103 (0 : Int32)
    · refine X_iconst (v := (0 : Int32)) (pc := 34) (td kX12_readsWalker 19 rfl) (by decide) ?_
      exact X_ret (pc := 35) (td kX12_readsWalker 20 rfl) rfl
  · refine X_aload_n (pc := 17) (td kX12_readsWalker 10 rfl) rfl 1 rfl ?_
    refine X_iconst (v := (5 : Int32)) (pc := 18) (td kX12_readsWalker 11 rfl) (by decide) ?_
    refine X_calli (pc := 19) (As := [.int (5 : Int32)]) (st := []) sM_0 (x_X12_fails (5 : Int32) σ) mkX12_fails lk_X12_232 (by omega) rfl rfl (Nat.le_of_ble_eq_true rfl) (td kX12_readsWalker 12 rfl) (fun r19 σ19 _ hr19 => ?_)
    exact X_ret (pc := 22) (td kX12_readsWalker 13 rfl) hr19
def F_X12_readsAll_65 (k172 : Mm → Option (Int32 × Mm)) (rec65 : Mm → Option (Int32 × Mm)) (σ_65 : Mm) : Option (Int32 × Mm) := (if (gI σ_65 0 6) = 0 then k172 σ_65 else cl (f_X12_isWord (8740067 : Int64) σ_65) (fun r76 _ => jn (fun (y0_162 : Int32) (σ_162 : Mm) => (if y0_162 = 0 then some ((0 : Int32), σ_162) else rec65 σ_162)) (fun k162 => (if r76 = 0 then cl (f_X12_isWord (237308 : Int64) σ_65) (fun r93 _ => (if r93 = 0 then cl (f_X12_isWord (330800670 : Int64) σ_65) (fun r110 _ => (if r110 = 0 then cl (f_X12_isWord (1888 : Int64) σ_65) (fun r127 _ => (if r127 = 0 then cl (f_X12_isWord (1489744 : Int64) σ_65) (fun r144 _ => (if r144 = 0 then cl (f_X12_fails (1 : Int32) σ_65) (fun r159 σ159 => k162 r159 σ159) else cl (f_X12_readsBurns σ_65) (fun r151 σ151 => k162 r151 σ151))) else cl (f_X12_readsBoy σ_65) (fun r134 σ134 => k162 r134 σ134))) else cl (f_X12_readsWalker σ_65) (fun r117 σ117 => k162 r117 σ117))) else cl (f_X12_readsLane σ_65) (fun r100 σ100 => k162 r100 σ100))) else cl (f_X12_readsPlace σ_65) (fun r83 σ83 => k162 r83 σ83)))))
def J_X12_readsAll_31 (σ_31 : Mm) : Option (Int32 × Mm) := ck (inb (1 : Int32) 2) (bn (pI σ_31 12 (1 : Int32).toNatClampNeg (1000 : Int32)) (fun σ39 => ck (inb (1 : Int32) 2) (bn (pI σ39 13 (1 : Int32).toNatClampNeg (1000 : Int32)) (fun σ48 => bn (pI σ48 0 24 (0 : Int32)) (fun σ51 => bn (pI σ51 0 23 (1000 : Int32)) (fun σ58 => cl (f_X12_begins σ58) (fun _ σ62 => jn (fun (σ_172 : Mm) => some ((1 : Int32), σ_172)) (fun k172 => lq1 (F_X12_readsAll_65 k172) 1000000 σ62))))))))
def F_X12_readsAll_2 (k31 : Mm → Option (Int32 × Mm)) (rec2 : Int32 → Mm → Option (Int32 × Mm)) (x1_2 : Int32) (σ_2 : Mm) : Option (Int32 × Mm) := (if x1_2 < (8 : Int32) then jn (fun (y2_24 : Int32) => ck (inb x1_2 8) (bn (pI σ_2 2 x1_2.toNatClampNeg y2_24) (fun σ24 => rec2 (x1_2 + (1 : Int32)) σ24))) (fun k24 => (if x1_2 = (7 : Int32) then k24 (3 : Int32) else k24 (0 : Int32))) else k31 σ_2)
def f_X12_readsAll (σ : Mm) : Option (Int32 × Mm) := jn (J_X12_readsAll_31) (fun k31 => lq2 (F_X12_readsAll_2 k31) 1000000 (4 : Int32) σ)
set_option maxHeartbeats 4000000 in
set_option maxRecDepth 100000 in
theorem x_X12_readsAll (σ : Mm) : Con (wsOf SHM) yX12_readsAll cX12_readsAll 2 (some .boolean) 5 [.ref 0] σ (f_X12_readsAll σ) := by
  refine Con.of_X (by decide +kernel) (Nat.le_of_ble_eq_true rfl) ?_
  unfold f_X12_readsAll
  show X (wsOf SHM) RX12 cX12_readsAll 2 (some .boolean) 5 0 0 [(0, .ref 0)] [] σ _
  refine X_iconst (v := (4 : Int32)) (pc := 0) (td kX12_readsAll 0 rfl) (by decide) ?_
  refine X_istore_n (L' := [(1, .int (4 : Int32)), (0, .ref 0)]) (pc := 1) (td kX12_readsAll 1 rfl) rfl (by decide) rfl ?_
  refine X_jn (P := fun k => ∀ (σ_31 : Mm), X (wsOf SHM) RX12 cX12_readsAll 2 (some .boolean) 5 0 31 [(0, .ref 0)] [] σ_31 (k σ_31)) (fun σ_31 => ?_) (fun k31 h31 => ?_)
  · unfold J_X12_readsAll_31
    refine X_aload_n (pc := 31) (td kX12_readsAll 17 rfl) rfl 0 rfl ?_
    refine X_getF (b := 12) (pc := 32) sM_0 rfl fk_X12_44 (td kX12_readsAll 18 rfl) ?_
    refine X_iconst (v := (1 : Int32)) (pc := 35) (td kX12_readsAll 19 rfl) (by decide) ?_
    refine X_sipush (v := (1000 : Int32)) (pc := 36) (td kX12_readsAll 20 rfl) (by decide) ?_
    refine X_iast (pc := 39) sM_12 (td kX12_readsAll 21 rfl) (fun σ39 => ?_)
    refine X_aload_n (pc := 40) (td kX12_readsAll 22 rfl) rfl 0 rfl ?_
    refine X_getF (b := 13) (pc := 41) sM_0 rfl fk_X12_47 (td kX12_readsAll 23 rfl) ?_
    refine X_iconst (v := (1 : Int32)) (pc := 44) (td kX12_readsAll 24 rfl) (by decide) ?_
    refine X_sipush (v := (1000 : Int32)) (pc := 45) (td kX12_readsAll 25 rfl) (by decide) ?_
    refine X_iast (pc := 48) sM_13 (td kX12_readsAll 26 rfl) (fun σ48 => ?_)
    refine X_aload_n (pc := 49) (td kX12_readsAll 27 rfl) rfl 0 rfl ?_
    refine X_iconst (v := (0 : Int32)) (pc := 50) (td kX12_readsAll 28 rfl) (by decide) ?_
    refine X_putI (pc := 51) sM_0 rfl fk_X12_332 rfl rfl (td kX12_readsAll 29 rfl) (fun σ51 => ?_)
    refine X_aload_n (pc := 54) (td kX12_readsAll 30 rfl) rfl 0 rfl ?_
    refine X_sipush (v := (1000 : Int32)) (pc := 55) (td kX12_readsAll 31 rfl) (by decide) ?_
    refine X_putI (pc := 58) sM_0 rfl fk_X12_207 rfl rfl (td kX12_readsAll 32 rfl) (fun σ58 => ?_)
    refine X_aload_n (pc := 61) (td kX12_readsAll 33 rfl) rfl 0 rfl ?_
    refine X_callv (pc := 62) (As := []) (st := []) sM_0 (x_X12_begins σ58) mkX12_begins lk_X12_339 (by omega) rfl rfl (Nat.le_of_ble_eq_true rfl) (td kX12_readsAll 34 rfl) (fun _ σ62 _ => ?_)
    refine X_jn (P := fun k => ∀ (σ_172 : Mm), X (wsOf SHM) RX12 cX12_readsAll 2 (some .boolean) 5 0 172 [] [] σ_172 (k σ_172)) (fun σ_172 => ?_) (fun k172 h172 => ?_)
    · refine X_iconst (v := (1 : Int32)) (pc := 172) (td kX12_readsAll 82 rfl) (by decide) ?_
      exact X_ret (pc := 173) (td kX12_readsAll 83 rfl) rfl
    · refine lq1_ind (P := fun σ_65 E => X (wsOf SHM) RX12 cX12_readsAll 2 (some .boolean) 5 0 65 [(0, .ref 0)] [] σ_65 E) (fun _ => X_none) (fun rec65 hrec65 σ_65 => ?_) _ _
      unfold F_X12_readsAll_65
      refine X_aload_n (pc := 65) (td kX12_readsAll 35 rfl) rfl 0 rfl ?_
      refine X_getI (pc := 66) sM_0 rfl fk_X12_193 (td kX12_readsAll 36 rfl) ?_
      refine X_if_eq (pc := 69) (tgt := 172) (td kX12_readsAll 37 rfl) (by decide) (fun c_69 => ?_) (fun c_69 => ?_)
      · refine X_sub [] rfl ?_
        exact h172 σ_65
      · refine X_aload_n (pc := 72) (td kX12_readsAll 38 rfl) rfl 0 rfl ?_
        refine X_ldc2 (v := (8740067 : Int64)) (pc := 73) (td kX12_readsAll 39 rfl) cn_X12_255 ?_
        refine X_callip (pc := 76) (As := [.long (8740067 : Int64)]) (st := []) (p_X12_isWord (8740067 : Int64) σ_65) sM_0 (x_X12_isWord (8740067 : Int64) σ_65) mkX12_isWord lk_X12_224 (by omega) rfl rfl (Nat.le_of_ble_eq_true rfl) (td kX12_readsAll 40 rfl) (fun r76 hr76 => ?_)
        refine X_jn (P := fun k => ∀ (y0_162 : Int32) (σ_162 : Mm), X (wsOf SHM) RX12 cX12_readsAll 2 (some .boolean) 5 0 162 [(0, .ref 0)] [.int y0_162] σ_162 (k y0_162 σ_162)) (fun y0_162 σ_162 => ?_) (fun k162 h162 => ?_)
        · refine X_istore_n (L' := [(1, .int y0_162), (0, .ref 0)]) (pc := 162) (td kX12_readsAll 76 rfl) rfl (by decide) rfl ?_
          refine X_iload_n (pc := 163) (td kX12_readsAll 77 rfl) rfl 0 rfl ?_
          refine X_if_ne (pc := 164) (tgt := 169) (td kX12_readsAll 78 rfl) (by decide) (fun c_164 => ?_) (fun c_164 => ?_)
          · refine X_goto (pc := 169) (tgt := 65) (td kX12_readsAll 81 rfl) (by decide) ?_
            refine X_sub [1] rfl ?_
            exact hrec65 σ_162
          · refine X_iconst (v := (0 : Int32)) (pc := 167) (td kX12_readsAll 79 rfl) (by decide) ?_
            exact X_ret (pc := 168) (td kX12_readsAll 80 rfl) rfl
        · refine X_if_eq (pc := 79) (tgt := 89) (td kX12_readsAll 41 rfl) (by decide) (fun c_79 => ?_) (fun c_79 => ?_)
          · refine X_aload_n (pc := 89) (td kX12_readsAll 45 rfl) rfl 0 rfl ?_
            refine X_ldc2 (v := (237308 : Int64)) (pc := 90) (td kX12_readsAll 46 rfl) cn_X12_257 ?_
            refine X_callip (pc := 93) (As := [.long (237308 : Int64)]) (st := []) (p_X12_isWord (237308 : Int64) σ_65) sM_0 (x_X12_isWord (237308 : Int64) σ_65) mkX12_isWord lk_X12_224 (by omega) rfl rfl (Nat.le_of_ble_eq_true rfl) (td kX12_readsAll 47 rfl) (fun r93 hr93 => ?_)
            refine X_if_eq (pc := 96) (tgt := 106) (td kX12_readsAll 48 rfl) (by decide) (fun c_96 => ?_) (fun c_96 => ?_)
            · refine X_aload_n (pc := 106) (td kX12_readsAll 52 rfl) rfl 0 rfl ?_
              refine X_ldc2 (v := (330800670 : Int64)) (pc := 107) (td kX12_readsAll 53 rfl) cn_X12_261 ?_
              refine X_callip (pc := 110) (As := [.long (330800670 : Int64)]) (st := []) (p_X12_isWord (330800670 : Int64) σ_65) sM_0 (x_X12_isWord (330800670 : Int64) σ_65) mkX12_isWord lk_X12_224 (by omega) rfl rfl (Nat.le_of_ble_eq_true rfl) (td kX12_readsAll 54 rfl) (fun r110 hr110 => ?_)
              refine X_if_eq (pc := 113) (tgt := 123) (td kX12_readsAll 55 rfl) (by decide) (fun c_113 => ?_) (fun c_113 => ?_)
              · refine X_aload_n (pc := 123) (td kX12_readsAll 59 rfl) rfl 0 rfl ?_
                refine X_ldc2 (v := (1888 : Int64)) (pc := 124) (td kX12_readsAll 60 rfl) cn_X12_269 ?_
                refine X_callip (pc := 127) (As := [.long (1888 : Int64)]) (st := []) (p_X12_isWord (1888 : Int64) σ_65) sM_0 (x_X12_isWord (1888 : Int64) σ_65) mkX12_isWord lk_X12_224 (by omega) rfl rfl (Nat.le_of_ble_eq_true rfl) (td kX12_readsAll 61 rfl) (fun r127 hr127 => ?_)
                refine X_if_eq (pc := 130) (tgt := 140) (td kX12_readsAll 62 rfl) (by decide) (fun c_130 => ?_) (fun c_130 => ?_)
                · refine X_aload_n (pc := 140) (td kX12_readsAll 66 rfl) rfl 0 rfl ?_
                  refine X_ldc2 (v := (1489744 : Int64)) (pc := 141) (td kX12_readsAll 67 rfl) cn_X12_259 ?_
                  refine X_callip (pc := 144) (As := [.long (1489744 : Int64)]) (st := []) (p_X12_isWord (1489744 : Int64) σ_65) sM_0 (x_X12_isWord (1489744 : Int64) σ_65) mkX12_isWord lk_X12_224 (by omega) rfl rfl (Nat.le_of_ble_eq_true rfl) (td kX12_readsAll 68 rfl) (fun r144 hr144 => ?_)
                  refine X_if_eq (pc := 147) (tgt := 157) (td kX12_readsAll 69 rfl) (by decide) (fun c_147 => ?_) (fun c_147 => ?_)
                  · refine X_aload_n (pc := 157) (td kX12_readsAll 73 rfl) rfl 0 rfl ?_
                    refine X_iconst (v := (1 : Int32)) (pc := 158) (td kX12_readsAll 74 rfl) (by decide) ?_
                    refine X_calli (pc := 159) (As := [.int (1 : Int32)]) (st := []) sM_0 (x_X12_fails (1 : Int32) σ_65) mkX12_fails lk_X12_232 (by omega) rfl rfl (Nat.le_of_ble_eq_true rfl) (td kX12_readsAll 75 rfl) (fun r159 σ159 _ hr159 => ?_)
                    exact h162 r159 σ159
                  · refine X_aload_n (pc := 150) (td kX12_readsAll 70 rfl) rfl 0 rfl ?_
                    refine X_calli (pc := 151) (As := []) (st := []) sM_0 (x_X12_readsBurns σ_65) mkX12_readsBurns lk_X12_354 (by omega) rfl rfl (Nat.le_of_ble_eq_true rfl) (td kX12_readsAll 71 rfl) (fun r151 σ151 _ hr151 => ?_)
                    refine X_goto (pc := 154) (tgt := 162) (td kX12_readsAll 72 rfl) (by decide) ?_
                    exact h162 r151 σ151
                · refine X_aload_n (pc := 133) (td kX12_readsAll 63 rfl) rfl 0 rfl ?_
                  refine X_calli (pc := 134) (As := []) (st := []) sM_0 (x_X12_readsBoy σ_65) mkX12_readsBoy lk_X12_351 (by omega) rfl rfl (Nat.le_of_ble_eq_true rfl) (td kX12_readsAll 64 rfl) (fun r134 σ134 _ hr134 => ?_)
                  refine X_goto (pc := 137) (tgt := 162) (td kX12_readsAll 65 rfl) (by decide) ?_
                  exact h162 r134 σ134
              · refine X_aload_n (pc := 116) (td kX12_readsAll 56 rfl) rfl 0 rfl ?_
                refine X_calli (pc := 117) (As := []) (st := []) sM_0 (x_X12_readsWalker σ_65) mkX12_readsWalker lk_X12_348 (by omega) rfl rfl (Nat.le_of_ble_eq_true rfl) (td kX12_readsAll 57 rfl) (fun r117 σ117 _ hr117 => ?_)
                refine X_goto (pc := 120) (tgt := 162) (td kX12_readsAll 58 rfl) (by decide) ?_
                exact h162 r117 σ117
            · refine X_aload_n (pc := 99) (td kX12_readsAll 49 rfl) rfl 0 rfl ?_
              refine X_calli (pc := 100) (As := []) (st := []) sM_0 (x_X12_readsLane σ_65) mkX12_readsLane lk_X12_345 (by omega) rfl rfl (Nat.le_of_ble_eq_true rfl) (td kX12_readsAll 50 rfl) (fun r100 σ100 _ hr100 => ?_)
              refine X_goto (pc := 103) (tgt := 162) (td kX12_readsAll 51 rfl) (by decide) ?_
              exact h162 r100 σ100
          · refine X_aload_n (pc := 82) (td kX12_readsAll 42 rfl) rfl 0 rfl ?_
            refine X_calli (pc := 83) (As := []) (st := []) sM_0 (x_X12_readsPlace σ_65) mkX12_readsPlace lk_X12_342 (by omega) rfl rfl (Nat.le_of_ble_eq_true rfl) (td kX12_readsAll 43 rfl) (fun r83 σ83 _ hr83 => ?_)
            refine X_goto (pc := 86) (tgt := 162) (td kX12_readsAll 44 rfl) (by decide) ?_
            exact h162 r83 σ83
  · refine X_sub [1, 0] rfl ?_
    refine lq2_ind (P := fun x1_2 σ_2 E => X (wsOf SHM) RX12 cX12_readsAll 2 (some .boolean) 5 0 2 [(0, .ref 0), (1, .int x1_2)] [] σ_2 E) (fun _ _ => X_none) (fun rec2 hrec2 x1_2 σ_2 => ?_) _ _ _
    unfold F_X12_readsAll_2
    refine X_iload_n (pc := 2) (td kX12_readsAll 2 rfl) rfl 1 rfl ?_
    refine X_bipush (v := (8 : Int32)) (pc := 3) (td kX12_readsAll 3 rfl) (by decide) ?_
    refine X_icmp_ge (pc := 5) (tgt := 31) (td kX12_readsAll 4 rfl) (by decide) (fun c_5 => ?_) (fun c_5 => ?_)
    · refine X_sub [0] rfl ?_
      exact h31 σ_2
    · refine X_aload_n (pc := 8) (td kX12_readsAll 5 rfl) rfl 0 rfl ?_
      refine X_getF (b := 2) (pc := 9) sM_0 rfl fk_X12_13 (td kX12_readsAll 6 rfl) ?_
      refine X_iload_n (pc := 12) (td kX12_readsAll 7 rfl) rfl 1 rfl ?_
      refine X_iload_n (pc := 13) (td kX12_readsAll 8 rfl) rfl 1 rfl ?_
      refine X_bipush (v := (7 : Int32)) (pc := 14) (td kX12_readsAll 9 rfl) (by decide) ?_
      refine X_jn (P := fun k => ∀ (y2_24 : Int32), X (wsOf SHM) RX12 cX12_readsAll 2 (some .boolean) 5 0 24 [(0, .ref 0), (1, .int x1_2)] [.int y2_24, .int x1_2, .ref 2] σ_2 (k y2_24)) (fun y2_24 => ?_) (fun k24 h24 => ?_)
      · refine X_iast (pc := 24) sM_2 (td kX12_readsAll 14 rfl) (fun σ24 => ?_)
        refine X_iinc (v := (x1_2 + (1 : Int32))) (L' := [(1, .int (x1_2 + (1 : Int32))), (0, .ref 0)]) (pc := 25) (td kX12_readsAll 15 rfl) 1 rfl rfl (by decide) rfl ?_
        refine X_goto (pc := 28) (tgt := 2) (td kX12_readsAll 16 rfl) (by decide) ?_
        refine X_sub [1, 0] rfl ?_
        exact hrec2 (x1_2 + (1 : Int32)) σ24
      · refine X_icmp_ne (pc := 16) (tgt := 23) (td kX12_readsAll 10 rfl) (by decide) (fun c_16 => ?_) (fun c_16 => ?_)
        · refine X_iconst (v := (0 : Int32)) (pc := 23) (td kX12_readsAll 13 rfl) (by decide) ?_
          exact h24 (0 : Int32)
        · refine X_iconst (v := (3 : Int32)) (pc := 19) (td kX12_readsAll 11 rfl) (by decide) ?_
          refine X_goto (pc := 20) (tgt := 24) (td kX12_readsAll 12 rfl) (by decide) ?_
          exact h24 (3 : Int32)
def F_X12_rests_61 (p1 : Int32) (p2 : Int32) (p3 : Int32) (p4 : Int32) (σ42 : Mm) (k151 : Int32 → Option (Int32 × Mm)) (rec61 : Int32 → Int32 → Option (Int32 × Mm)) (x5_61 : Int32) (x6_61 : Int32) : Option (Int32 × Mm) := (if x6_61 < (4 : Int32) then bn (x6_61 / (2 : Int32)) (fun v7_71 => bn (irm x6_61 (2 : Int32)) (fun v8_77 => cl (f_X12_getsBy p1 p2 p3 ((1 : Int32) - v7_71) v8_77 σ42) (fun r88 _ => cl (f_X12_getsBy p1 p2 p3 v7_71 v8_77 σ42) (fun r98 _ => jn (fun (x5_145 : Int32) => rec61 x5_145 (x6_61 + (1 : Int32))) (fun k145 => (if r98 < r88 then k145 x5_61 else cl (f_X12_getsBy p1 p2 p3 ((1 : Int32) - v8_77) v7_71 σ42) (fun r113 _ => cl (f_X12_getsBy p1 p2 p3 v8_77 v7_71 σ42) (fun r123 _ => (if r123 < r113 then k145 x5_61 else (if x5_61 = p4 then some (x6_61, σ42) else k145 (x5_61 + (1 : Int32)))))))))))) else k151 x5_61)
def J_X12_rests_42 (p1 : Int32) (p2 : Int32) (p3 : Int32) (p4 : Int32) (σ : Mm) (y1_42 : Int32) : Option (Int32 × Mm) := bn (pI σ 0 0 y1_42) (fun σ42 => (if (gI σ42 0 0) = (1 : Int32) then some ((0 : Int32), σ42) else jn (fun (x5_151 : Int32) => jn (fun (y1_163 : Int32) => bn (pI σ42 0 0 y1_163) (fun σ163 => (if p4 = (-1 : Int32) then some (x5_151, σ163) else some ((0 : Int32), σ163)))) (fun k163 => (if p4 = (-1 : Int32) then k163 (0 : Int32) else k163 (1 : Int32)))) (fun k151 => lq2 (F_X12_rests_61 p1 p2 p3 p4 σ42 k151) 1000000 (0 : Int32) (0 : Int32))))
def f_X12_rests (p1 : Int32) (p2 : Int32) (p3 : Int32) (p4 : Int32) (σ : Mm) : Option (Int32 × Mm) := cl (f_X12_within p1 (0 : Int32) (9 : Int32) σ) (fun r5 _ => jn (J_X12_rests_42 p1 p2 p3 p4 σ) (fun k42 => jn (k42 (1 : Int32)) (fun k41 => (if r5 = 0 then k41 else cl (f_X12_within p2 (0 : Int32) (9 : Int32) σ) (fun r15 _ => (if r15 = 0 then k41 else cl (f_X12_within p3 (0 : Int32) (9 : Int32) σ) (fun r25 _ => (if r25 = 0 then k41 else (if p4 < (-1 : Int32) then k41 else k42 (0 : Int32))))))))))
set_option maxHeartbeats 4000000 in
set_option maxRecDepth 100000 in
theorem x_X12_rests (p1 : Int32) (p2 : Int32) (p3 : Int32) (p4 : Int32) (σ : Mm) : Con (wsOf SHM) yX12_rests cX12_rests 9 (some .int) 2 [.ref 0, .int p1, .int p2, .int p3, .int p4] σ (f_X12_rests p1 p2 p3 p4 σ) := by
  refine Con.of_X (by decide +kernel) (Nat.le_of_ble_eq_true rfl) ?_
  unfold f_X12_rests
  show X (wsOf SHM) RX12 cX12_rests 9 (some .int) 2 0 0 [(0, .ref 0), (1, .int p1), (2, .int p2), (3, .int p3), (4, .int p4)] [] σ _
  refine X_aload_n (pc := 0) (td kX12_rests 0 rfl) rfl 0 rfl ?_
  refine X_iload_n (pc := 1) (td kX12_rests 1 rfl) rfl 1 rfl ?_
  refine X_iconst (v := (0 : Int32)) (pc := 2) (td kX12_rests 2 rfl) (by decide) ?_
  refine X_bipush (v := (9 : Int32)) (pc := 3) (td kX12_rests 3 rfl) (by decide) ?_
  refine X_callsip (pc := 5) (As := [.int p1, .int (0 : Int32), .int (9 : Int32)]) (st := [.ref 0]) (p_X12_within p1 (0 : Int32) (9 : Int32) σ) (x_X12_within p1 (0 : Int32) (9 : Int32) σ) mkX12_within lk_X12_287 (by omega) rfl rfl (Nat.le_of_ble_eq_true rfl) (td kX12_rests 4 rfl) (fun r5 hr5 => ?_)
  refine X_jn (P := fun k => ∀ (y1_42 : Int32), X (wsOf SHM) RX12 cX12_rests 9 (some .int) 2 0 42 [(0, .ref 0), (1, .int p1), (2, .int p2), (3, .int p3), (4, .int p4)] [.int y1_42, .ref 0] σ (k y1_42)) (fun y1_42 => ?_) (fun k42 h42 => ?_)
  · unfold J_X12_rests_42
    refine X_putI (pc := 42) sM_0 rfl fk_X12_169 rfl rfl (td kX12_rests 22 rfl) (fun σ42 => ?_)
    refine X_aload_n (pc := 45) (td kX12_rests 23 rfl) rfl 0 rfl ?_
    refine X_getI (pc := 46) sM_0 rfl fk_X12_169 (td kX12_rests 24 rfl) ?_
    refine X_iconst (v := (1 : Int32)) (pc := 49) (td kX12_rests 25 rfl) (by decide) ?_
    refine X_icmp_ne (pc := 50) (tgt := 55) (td kX12_rests 26 rfl) (by decide) (fun c_50 => ?_) (fun c_50 => ?_)
    · refine X_iconst (v := (0 : Int32)) (pc := 55) (td kX12_rests 29 rfl) (by decide) ?_
      refine X_istore (L' := [(5, .int (0 : Int32)), (0, .ref 0), (1, .int p1), (2, .int p2), (3, .int p3), (4, .int p4)]) (pc := 56) (td kX12_rests 30 rfl) (by decide) rfl ?_
      refine X_iconst (v := (0 : Int32)) (pc := 58) (td kX12_rests 31 rfl) (by decide) ?_
      refine X_istore (L' := [(6, .int (0 : Int32)), (5, .int (0 : Int32)), (0, .ref 0), (1, .int p1), (2, .int p2), (3, .int p3), (4, .int p4)]) (pc := 59) (td kX12_rests 32 rfl) (by decide) rfl ?_
      refine X_jn (P := fun k => ∀ (x5_151 : Int32), X (wsOf SHM) RX12 cX12_rests 9 (some .int) 2 0 151 [(0, .ref 0), (4, .int p4), (5, .int x5_151)] [] σ42 (k x5_151)) (fun x5_151 => ?_) (fun k151 h151 => ?_)
      · refine X_aload_n (pc := 151) (td kX12_rests 83 rfl) rfl 0 rfl ?_
        refine X_iload (pc := 152) (td kX12_rests 84 rfl) 1 rfl ?_
        refine X_iconst (v := (-1 : Int32)) (pc := 154) (td kX12_rests 85 rfl) (by decide) ?_
        refine X_jn (P := fun k => ∀ (y1_163 : Int32), X (wsOf SHM) RX12 cX12_rests 9 (some .int) 2 0 163 [(4, .int p4), (5, .int x5_151)] [.int y1_163, .ref 0] σ42 (k y1_163)) (fun y1_163 => ?_) (fun k163 h163 => ?_)
        · refine X_putI (pc := 163) sM_0 rfl fk_X12_169 rfl rfl (td kX12_rests 90 rfl) (fun σ163 => ?_)
          refine X_iload (pc := 166) (td kX12_rests 91 rfl) 0 rfl ?_
          refine X_iconst (v := (-1 : Int32)) (pc := 168) (td kX12_rests 92 rfl) (by decide) ?_
          refine X_icmp_ne (pc := 169) (tgt := 177) (td kX12_rests 93 rfl) (by decide) (fun c_169 => ?_) (fun c_169 => ?_)
          · refine X_iconst (v := (0 : Int32)) (pc := 177) (td kX12_rests 96 rfl) (by decide) ?_
            exact X_ret (pc := 178) (td kX12_rests 97 rfl) rfl
          · refine X_iload (pc := 172) (td kX12_rests 94 rfl) 1 rfl ?_
            refine X_goto (pc := 174) (tgt := 178) (td kX12_rests 95 rfl) (by decide) ?_
            exact X_ret (pc := 178) (td kX12_rests 97 rfl) rfl
        · refine X_icmp_ne (pc := 155) (tgt := 162) (td kX12_rests 86 rfl) (by decide) (fun c_155 => ?_) (fun c_155 => ?_)
          · refine X_iconst (v := (1 : Int32)) (pc := 162) (td kX12_rests 89 rfl) (by decide) ?_
            refine X_sub [1, 2] rfl ?_
            exact h163 (1 : Int32)
          · refine X_iconst (v := (0 : Int32)) (pc := 158) (td kX12_rests 87 rfl) (by decide) ?_
            refine X_goto (pc := 159) (tgt := 163) (td kX12_rests 88 rfl) (by decide) ?_
            refine X_sub [1, 2] rfl ?_
            exact h163 (0 : Int32)
      · refine X_sub [2, 3, 4, 5, 6, 1, 0] rfl ?_
        refine lq2_ind (P := fun x5_61 x6_61 E => X (wsOf SHM) RX12 cX12_rests 9 (some .int) 2 0 61 [(0, .ref 0), (1, .int p1), (2, .int p2), (3, .int p3), (4, .int p4), (5, .int x5_61), (6, .int x6_61)] [] σ42 E) (fun _ _ => X_none) (fun rec61 hrec61 x5_61 x6_61 => ?_) _ _ _
        unfold F_X12_rests_61
        refine X_iload (pc := 61) (td kX12_rests 33 rfl) 6 rfl ?_
        refine X_iconst (v := (4 : Int32)) (pc := 63) (td kX12_rests 34 rfl) (by decide) ?_
        refine X_icmp_ge (pc := 64) (tgt := 151) (td kX12_rests 35 rfl) (by decide) (fun c_64 => ?_) (fun c_64 => ?_)
        · refine X_sub [0, 4, 5] rfl ?_
          exact h151 x5_61
        · refine X_iload (pc := 67) (td kX12_rests 36 rfl) 6 rfl ?_
          refine X_iconst (v := (2 : Int32)) (pc := 69) (td kX12_rests 37 rfl) (by decide) ?_
          refine X_idiv (pc := 70) (td kX12_rests 38 rfl) (by decide) ?_
          refine X_bi (fun v7_71 => ?_)
          refine X_istore (L' := [(7, .int v7_71), (0, .ref 0), (1, .int p1), (2, .int p2), (3, .int p3), (4, .int p4), (5, .int x5_61), (6, .int x6_61)]) (pc := 71) (td kX12_rests 39 rfl) (by decide) rfl ?_
          refine X_iload (pc := 73) (td kX12_rests 40 rfl) 7 rfl ?_
          refine X_iconst (v := (2 : Int32)) (pc := 75) (td kX12_rests 41 rfl) (by decide) ?_
          refine X_irem2 (pc := 76) (td kX12_rests 42 rfl) (by decide) ?_
          refine X_bi (fun v8_77 => ?_)
          refine X_istore (L' := [(8, .int v8_77), (7, .int v7_71), (0, .ref 0), (1, .int p1), (2, .int p2), (3, .int p3), (4, .int p4), (5, .int x5_61), (6, .int x6_61)]) (pc := 77) (td kX12_rests 43 rfl) (by decide) rfl ?_
          refine X_iload_n (pc := 79) (td kX12_rests 44 rfl) rfl 3 rfl ?_
          refine X_iload_n (pc := 80) (td kX12_rests 45 rfl) rfl 4 rfl ?_
          refine X_iload_n (pc := 81) (td kX12_rests 46 rfl) rfl 5 rfl ?_
          refine X_iconst (v := (1 : Int32)) (pc := 82) (td kX12_rests 47 rfl) (by decide) ?_
          refine X_iload (pc := 83) (td kX12_rests 48 rfl) 1 rfl ?_
          refine X_isub (pc := 85) (td kX12_rests 49 rfl) ?_
          refine X_iload (pc := 86) (td kX12_rests 50 rfl) 0 rfl ?_
          refine X_callsip (pc := 88) (As := [.int p1, .int p2, .int p3, .int ((1 : Int32) - v7_71), .int v8_77]) (st := []) (p_X12_getsBy p1 p2 p3 ((1 : Int32) - v7_71) v8_77 σ42) (x_X12_getsBy p1 p2 p3 ((1 : Int32) - v7_71) v8_77 σ42) mkX12_getsBy lk_X12_502 (by omega) rfl rfl (Nat.le_of_ble_eq_true rfl) (td kX12_rests 51 rfl) (fun r88 hr88 => ?_)
          refine X_iload_n (pc := 91) (td kX12_rests 52 rfl) rfl 3 rfl ?_
          refine X_iload_n (pc := 92) (td kX12_rests 53 rfl) rfl 4 rfl ?_
          refine X_iload_n (pc := 93) (td kX12_rests 54 rfl) rfl 5 rfl ?_
          refine X_iload (pc := 94) (td kX12_rests 55 rfl) 1 rfl ?_
          refine X_iload (pc := 96) (td kX12_rests 56 rfl) 0 rfl ?_
          refine X_callsip (pc := 98) (As := [.int p1, .int p2, .int p3, .int v7_71, .int v8_77]) (st := [.int r88]) (p_X12_getsBy p1 p2 p3 v7_71 v8_77 σ42) (x_X12_getsBy p1 p2 p3 v7_71 v8_77 σ42) mkX12_getsBy lk_X12_502 (by omega) rfl rfl (Nat.le_of_ble_eq_true rfl) (td kX12_rests 57 rfl) (fun r98 hr98 => ?_)
          refine X_jn (P := fun k => ∀ (x5_145 : Int32), X (wsOf SHM) RX12 cX12_rests 9 (some .int) 2 0 145 [(0, .ref 0), (1, .int p1), (2, .int p2), (3, .int p3), (4, .int p4), (5, .int x5_145), (6, .int x6_61)] [] σ42 (k x5_145)) (fun x5_145 => ?_) (fun k145 h145 => ?_)
          · refine X_iinc (v := (x6_61 + (1 : Int32))) (L' := [(6, .int (x6_61 + (1 : Int32))), (0, .ref 0), (1, .int p1), (2, .int p2), (3, .int p3), (4, .int p4), (5, .int x5_145)]) (pc := 145) (td kX12_rests 81 rfl) 6 rfl rfl (by decide) rfl ?_
            refine X_goto (pc := 148) (tgt := 61) (td kX12_rests 82 rfl) (by decide) ?_
            refine X_sub [1, 2, 3, 4, 5, 6, 0] rfl ?_
            exact hrec61 x5_145 (x6_61 + (1 : Int32))
          · refine X_icmp_gt (pc := 101) (tgt := 145) (td kX12_rests 58 rfl) (by decide) (fun c_101 => ?_) (fun c_101 => ?_)
            · refine X_sub [2, 3, 4, 5, 6, 7, 8] rfl ?_
              exact h145 x5_61
            · refine X_iload_n (pc := 104) (td kX12_rests 59 rfl) rfl 3 rfl ?_
              refine X_iload_n (pc := 105) (td kX12_rests 60 rfl) rfl 4 rfl ?_
              refine X_iload_n (pc := 106) (td kX12_rests 61 rfl) rfl 5 rfl ?_
              refine X_iconst (v := (1 : Int32)) (pc := 107) (td kX12_rests 62 rfl) (by decide) ?_
              refine X_iload (pc := 108) (td kX12_rests 63 rfl) 0 rfl ?_
              refine X_isub (pc := 110) (td kX12_rests 64 rfl) ?_
              refine X_iload (pc := 111) (td kX12_rests 65 rfl) 1 rfl ?_
              refine X_callsip (pc := 113) (As := [.int p1, .int p2, .int p3, .int ((1 : Int32) - v8_77), .int v7_71]) (st := []) (p_X12_getsBy p1 p2 p3 ((1 : Int32) - v8_77) v7_71 σ42) (x_X12_getsBy p1 p2 p3 ((1 : Int32) - v8_77) v7_71 σ42) mkX12_getsBy lk_X12_502 (by omega) rfl rfl (Nat.le_of_ble_eq_true rfl) (td kX12_rests 66 rfl) (fun r113 hr113 => ?_)
              refine X_iload_n (pc := 116) (td kX12_rests 67 rfl) rfl 3 rfl ?_
              refine X_iload_n (pc := 117) (td kX12_rests 68 rfl) rfl 4 rfl ?_
              refine X_iload_n (pc := 118) (td kX12_rests 69 rfl) rfl 5 rfl ?_
              refine X_iload (pc := 119) (td kX12_rests 70 rfl) 0 rfl ?_
              refine X_iload (pc := 121) (td kX12_rests 71 rfl) 1 rfl ?_
              refine X_callsip (pc := 123) (As := [.int p1, .int p2, .int p3, .int v8_77, .int v7_71]) (st := [.int r113]) (p_X12_getsBy p1 p2 p3 v8_77 v7_71 σ42) (x_X12_getsBy p1 p2 p3 v8_77 v7_71 σ42) mkX12_getsBy lk_X12_502 (by omega) rfl rfl (Nat.le_of_ble_eq_true rfl) (td kX12_rests 72 rfl) (fun r123 hr123 => ?_)
              refine X_icmp_le (pc := 126) (tgt := 132) (td kX12_rests 73 rfl) (by decide) (fun c_126 => ?_) (fun c_126 => ?_)
              · refine X_iload (pc := 132) (td kX12_rests 75 rfl) 7 rfl ?_
                refine X_iload (pc := 134) (td kX12_rests 76 rfl) 6 rfl ?_
                refine X_icmp_ne (pc := 136) (tgt := 142) (td kX12_rests 77 rfl) (by decide) (fun c_136 => ?_) (fun c_136 => ?_)
                · refine X_iinc (v := (x5_61 + (1 : Int32))) (L' := [(5, .int (x5_61 + (1 : Int32))), (8, .int v8_77), (7, .int v7_71), (0, .ref 0), (1, .int p1), (2, .int p2), (3, .int p3), (4, .int p4), (6, .int x6_61)]) (pc := 142) (td kX12_rests 80 rfl) 7 rfl rfl (by decide) rfl ?_
                  refine X_sub [3, 4, 5, 6, 7, 0, 8] rfl ?_
                  exact h145 (x5_61 + (1 : Int32))
                · refine X_iload (pc := 139) (td kX12_rests 78 rfl) 8 rfl ?_
                  exact X_ret (pc := 141) (td kX12_rests 79 rfl) rfl
              · refine X_goto (pc := 129) (tgt := 145) (td kX12_rests 74 rfl) (by decide) ?_
                refine X_sub [2, 3, 4, 5, 6, 7, 8] rfl ?_
                exact h145 x5_61
    · refine X_iconst (v := (0 : Int32)) (pc := 53) (td kX12_rests 27 rfl) (by decide) ?_
      exact X_ret (pc := 54) (td kX12_rests 28 rfl) rfl
  · refine X_jn (P := fun k => X (wsOf SHM) RX12 cX12_rests 9 (some .int) 2 0 41 [(0, .ref 0), (1, .int p1), (2, .int p2), (3, .int p3), (4, .int p4)] [.ref 0] σ k) ?_ (fun k41 h41 => ?_)
    · refine X_iconst (v := (1 : Int32)) (pc := 41) (td kX12_rests 21 rfl) (by decide) ?_
      exact h42 (1 : Int32)
    · refine X_if_eq (pc := 8) (tgt := 41) (td kX12_rests 5 rfl) (by decide) (fun c_8 => ?_) (fun c_8 => ?_)
      · exact h41
      · refine X_iload_n (pc := 11) (td kX12_rests 6 rfl) rfl 2 rfl ?_
        refine X_iconst (v := (0 : Int32)) (pc := 12) (td kX12_rests 7 rfl) (by decide) ?_
        refine X_bipush (v := (9 : Int32)) (pc := 13) (td kX12_rests 8 rfl) (by decide) ?_
        refine X_callsip (pc := 15) (As := [.int p2, .int (0 : Int32), .int (9 : Int32)]) (st := [.ref 0]) (p_X12_within p2 (0 : Int32) (9 : Int32) σ) (x_X12_within p2 (0 : Int32) (9 : Int32) σ) mkX12_within lk_X12_287 (by omega) rfl rfl (Nat.le_of_ble_eq_true rfl) (td kX12_rests 9 rfl) (fun r15 hr15 => ?_)
        refine X_if_eq (pc := 18) (tgt := 41) (td kX12_rests 10 rfl) (by decide) (fun c_18 => ?_) (fun c_18 => ?_)
        · exact h41
        · refine X_iload_n (pc := 21) (td kX12_rests 11 rfl) rfl 3 rfl ?_
          refine X_iconst (v := (0 : Int32)) (pc := 22) (td kX12_rests 12 rfl) (by decide) ?_
          refine X_bipush (v := (9 : Int32)) (pc := 23) (td kX12_rests 13 rfl) (by decide) ?_
          refine X_callsip (pc := 25) (As := [.int p3, .int (0 : Int32), .int (9 : Int32)]) (st := [.ref 0]) (p_X12_within p3 (0 : Int32) (9 : Int32) σ) (x_X12_within p3 (0 : Int32) (9 : Int32) σ) mkX12_within lk_X12_287 (by omega) rfl rfl (Nat.le_of_ble_eq_true rfl) (td kX12_rests 14 rfl) (fun r25 hr25 => ?_)
          refine X_if_eq (pc := 28) (tgt := 41) (td kX12_rests 15 rfl) (by decide) (fun c_28 => ?_) (fun c_28 => ?_)
          · exact h41
          · refine X_iload (pc := 31) (td kX12_rests 16 rfl) 4 rfl ?_
            refine X_iconst (v := (-1 : Int32)) (pc := 33) (td kX12_rests 17 rfl) (by decide) ?_
            refine X_icmp_lt (pc := 34) (tgt := 41) (td kX12_rests 18 rfl) (by decide) (fun c_34 => ?_) (fun c_34 => ?_)
            · exact h41
            · refine X_iconst (v := (0 : Int32)) (pc := 37) (td kX12_rests 19 rfl) (by decide) ?_
              refine X_goto (pc := 38) (tgt := 42) (td kX12_rests 20 rfl) (by decide) ?_
              exact h42 (0 : Int32)
def f_X12_send (p1 : Int32) (p2 : Int32) (σ : Mm) : Option (Int32 × Mm) := bn (pI σ 0 0 (0 : Int32)) (fun σ2 => cl (f_X12_isPlace p1 σ2) (fun r7 _ => jn (some ((-1 : Int32), σ2)) (fun k31 => (if r7 = 0 then k31 else cl (f_X12_isPlace p2 σ2) (fun r15 _ => (if r15 = 0 then k31 else cl (f_X12_laneOf (0 : Int32) p1 p2 σ2) (fun r25 _ => (if r25 < 0 then k31 else cl (f_X12_keeps σ2) (fun _ σ34 => cl (f_X12_laneOf (0 : Int32) p1 p2 σ34) (fun r42 _ => cl (f_X12_sends r42 σ34) (fun _ σ45 => cl (f_X12_laneOf (0 : Int32) p1 p2 σ45) (fun r57 _ => bn ((3 : Int32) + r57) (fun i_61 => ck (inb i_61 41) (some ((gI σ45 36 i_61.toNatClampNeg), σ45)))))))))))))))
set_option maxHeartbeats 4000000 in
set_option maxRecDepth 100000 in
theorem x_X12_send (p1 : Int32) (p2 : Int32) (σ : Mm) : Con (wsOf SHM) yX12_send cX12_send 3 (some .int) 6 [.ref 0, .int p1, .int p2] σ (f_X12_send p1 p2 σ) := by
  refine Con.of_X (by decide +kernel) (Nat.le_of_ble_eq_true rfl) ?_
  unfold f_X12_send
  show X (wsOf SHM) RX12 cX12_send 3 (some .int) 6 0 0 [(0, .ref 0), (1, .int p1), (2, .int p2)] [] σ _
  refine X_aload_n (pc := 0) (td kX12_send 0 rfl) rfl 0 rfl ?_
  refine X_iconst (v := (0 : Int32)) (pc := 1) (td kX12_send 1 rfl) (by decide) ?_
  refine X_putI (pc := 2) sM_0 rfl fk_X12_169 rfl rfl (td kX12_send 2 rfl) (fun σ2 => ?_)
  refine X_aload_n (pc := 5) (td kX12_send 3 rfl) rfl 0 rfl ?_
  refine X_iload_n (pc := 6) (td kX12_send 4 rfl) rfl 1 rfl ?_
  refine X_callip (pc := 7) (As := [.int p1]) (st := []) (p_X12_isPlace p1 σ2) sM_0 (x_X12_isPlace p1 σ2) mkX12_isPlace lk_X12_426 (by omega) rfl rfl (Nat.le_of_ble_eq_true rfl) (td kX12_send 5 rfl) (fun r7 hr7 => ?_)
  refine X_jn (P := fun k => X (wsOf SHM) RX12 cX12_send 3 (some .int) 6 0 31 [] [] σ2 k) ?_ (fun k31 h31 => ?_)
  · refine X_iconst (v := (-1 : Int32)) (pc := 31) (td kX12_send 17 rfl) (by decide) ?_
    exact X_ret (pc := 32) (td kX12_send 18 rfl) rfl
  · refine X_if_eq (pc := 10) (tgt := 31) (td kX12_send 6 rfl) (by decide) (fun c_10 => ?_) (fun c_10 => ?_)
    · refine X_sub [] rfl ?_
      exact h31
    · refine X_aload_n (pc := 13) (td kX12_send 7 rfl) rfl 0 rfl ?_
      refine X_iload_n (pc := 14) (td kX12_send 8 rfl) rfl 2 rfl ?_
      refine X_callip (pc := 15) (As := [.int p2]) (st := []) (p_X12_isPlace p2 σ2) sM_0 (x_X12_isPlace p2 σ2) mkX12_isPlace lk_X12_426 (by omega) rfl rfl (Nat.le_of_ble_eq_true rfl) (td kX12_send 9 rfl) (fun r15 hr15 => ?_)
      refine X_if_eq (pc := 18) (tgt := 31) (td kX12_send 10 rfl) (by decide) (fun c_18 => ?_) (fun c_18 => ?_)
      · refine X_sub [] rfl ?_
        exact h31
      · refine X_aload_n (pc := 21) (td kX12_send 11 rfl) rfl 0 rfl ?_
        refine X_iconst (v := (0 : Int32)) (pc := 22) (td kX12_send 12 rfl) (by decide) ?_
        refine X_iload_n (pc := 23) (td kX12_send 13 rfl) rfl 1 rfl ?_
        refine X_iload_n (pc := 24) (td kX12_send 14 rfl) rfl 2 rfl ?_
        refine X_callip (pc := 25) (As := [.int (0 : Int32), .int p1, .int p2]) (st := []) (p_X12_laneOf (0 : Int32) p1 p2 σ2) sM_0 (x_X12_laneOf (0 : Int32) p1 p2 σ2) mkX12_laneOf lk_X12_321 (by omega) rfl rfl (Nat.le_of_ble_eq_true rfl) (td kX12_send 15 rfl) (fun r25 hr25 => ?_)
        refine X_if_ge (pc := 28) (tgt := 33) (td kX12_send 16 rfl) (by decide) (fun c_28 => ?_) (fun c_28 => ?_)
        · refine X_aload_n (pc := 33) (td kX12_send 19 rfl) rfl 0 rfl ?_
          refine X_callv (pc := 34) (As := []) (st := []) sM_0 (x_X12_keeps σ2) mkX12_keeps lk_X12_433 (by omega) rfl rfl (Nat.le_of_ble_eq_true rfl) (td kX12_send 20 rfl) (fun _ σ34 _ => ?_)
          refine X_aload_n (pc := 37) (td kX12_send 21 rfl) rfl 0 rfl ?_
          refine X_aload_n (pc := 38) (td kX12_send 22 rfl) rfl 0 rfl ?_
          refine X_iconst (v := (0 : Int32)) (pc := 39) (td kX12_send 23 rfl) (by decide) ?_
          refine X_iload_n (pc := 40) (td kX12_send 24 rfl) rfl 1 rfl ?_
          refine X_iload_n (pc := 41) (td kX12_send 25 rfl) rfl 2 rfl ?_
          refine X_callip (pc := 42) (As := [.int (0 : Int32), .int p1, .int p2]) (st := [.ref 0]) (p_X12_laneOf (0 : Int32) p1 p2 σ34) sM_0 (x_X12_laneOf (0 : Int32) p1 p2 σ34) mkX12_laneOf lk_X12_321 (by omega) rfl rfl (Nat.le_of_ble_eq_true rfl) (td kX12_send 26 rfl) (fun r42 hr42 => ?_)
          refine X_callv (pc := 45) (As := [.int r42]) (st := []) sM_0 (x_X12_sends r42 σ34) mkX12_sends lk_X12_439 (by omega) rfl rfl (Nat.le_of_ble_eq_true rfl) (td kX12_send 27 rfl) (fun _ σ45 _ => ?_)
          refine X_aload_n (pc := 48) (td kX12_send 28 rfl) rfl 0 rfl ?_
          refine X_getF (b := 36) (pc := 49) sM_0 rfl fk_X12_117 (td kX12_send 29 rfl) ?_
          refine X_iconst (v := (3 : Int32)) (pc := 52) (td kX12_send 30 rfl) (by decide) ?_
          refine X_aload_n (pc := 53) (td kX12_send 31 rfl) rfl 0 rfl ?_
          refine X_iconst (v := (0 : Int32)) (pc := 54) (td kX12_send 32 rfl) (by decide) ?_
          refine X_iload_n (pc := 55) (td kX12_send 33 rfl) rfl 1 rfl ?_
          refine X_iload_n (pc := 56) (td kX12_send 34 rfl) rfl 2 rfl ?_
          refine X_callip (pc := 57) (As := [.int (0 : Int32), .int p1, .int p2]) (st := [.int (3 : Int32), .ref 36]) (p_X12_laneOf (0 : Int32) p1 p2 σ45) sM_0 (x_X12_laneOf (0 : Int32) p1 p2 σ45) mkX12_laneOf lk_X12_321 (by omega) rfl rfl (Nat.le_of_ble_eq_true rfl) (td kX12_send 35 rfl) (fun r57 hr57 => ?_)
          refine X_iadd (pc := 60) (td kX12_send 36 rfl) ?_
          refine X_bi (fun i_61 => ?_)
          refine X_iald (pc := 61) sM_36 (td kX12_send 37 rfl) ?_
          exact X_ret (pc := 62) (td kX12_send 38 rfl) rfl
        · refine X_sub [] rfl ?_
          exact h31
def J_X12_share_14 (p1 : Int32) (σ : Mm) (y1_14 : Int32) : Option (Int32 × Mm) := bn (pI σ 0 0 y1_14) (fun σ14 => (if (gI σ14 0 0) = (1 : Int32) then some ((0 : Int32), σ14) else cl (f_X12_tries σ14) (fun _ σ28 => bn (gI σ28 0 62) (fun v2_35 => bn (pI σ28 0 57 ((63 : Int32) &&& (((1 : Int32) <<< (p1 &&& 31)) ^^^ (-1 : Int32)))) (fun σ45 => cl (f_X12_tries σ45) (fun _ σ49 => bn (pI σ49 0 57 (63 : Int32)) (fun σ55 => some ((v2_35 - (gI σ55 0 62)), σ55))))))))
def f_X12_share (p1 : Int32) (σ : Mm) : Option (Int32 × Mm) := cl (f_X12_isWalker p1 σ) (fun r3 _ => jn (J_X12_share_14 p1 σ) (fun k14 => (if r3 = 0 then k14 (1 : Int32) else k14 (0 : Int32))))
set_option maxHeartbeats 4000000 in
set_option maxRecDepth 100000 in
theorem x_X12_share (p1 : Int32) (σ : Mm) : Con (wsOf SHM) yX12_share cX12_share 3 (some .int) 8 [.ref 0, .int p1] σ (f_X12_share p1 σ) := by
  refine Con.of_X (by decide +kernel) (Nat.le_of_ble_eq_true rfl) ?_
  unfold f_X12_share
  show X (wsOf SHM) RX12 cX12_share 3 (some .int) 8 0 0 [(0, .ref 0), (1, .int p1)] [] σ _
  refine X_aload_n (pc := 0) (td kX12_share 0 rfl) rfl 0 rfl ?_
  refine X_aload_n (pc := 1) (td kX12_share 1 rfl) rfl 0 rfl ?_
  refine X_iload_n (pc := 2) (td kX12_share 2 rfl) rfl 1 rfl ?_
  refine X_callip (pc := 3) (As := [.int p1]) (st := [.ref 0]) (p_X12_isWalker p1 σ) sM_0 (x_X12_isWalker p1 σ) mkX12_isWalker lk_X12_423 (by omega) rfl rfl (Nat.le_of_ble_eq_true rfl) (td kX12_share 3 rfl) (fun r3 hr3 => ?_)
  refine X_jn (P := fun k => ∀ (y1_14 : Int32), X (wsOf SHM) RX12 cX12_share 3 (some .int) 8 0 14 [(0, .ref 0), (1, .int p1)] [.int y1_14, .ref 0] σ (k y1_14)) (fun y1_14 => ?_) (fun k14 h14 => ?_)
  · unfold J_X12_share_14
    refine X_putI (pc := 14) sM_0 rfl fk_X12_169 rfl rfl (td kX12_share 8 rfl) (fun σ14 => ?_)
    refine X_aload_n (pc := 17) (td kX12_share 9 rfl) rfl 0 rfl ?_
    refine X_getI (pc := 18) sM_0 rfl fk_X12_169 (td kX12_share 10 rfl) ?_
    refine X_iconst (v := (1 : Int32)) (pc := 21) (td kX12_share 11 rfl) (by decide) ?_
    refine X_icmp_ne (pc := 22) (tgt := 27) (td kX12_share 12 rfl) (by decide) (fun c_22 => ?_) (fun c_22 => ?_)
    · refine X_aload_n (pc := 27) (td kX12_share 15 rfl) rfl 0 rfl ?_
      refine X_callv (pc := 28) (As := []) (st := []) sM_0 (x_X12_tries σ14) mkX12_tries lk_X12_478 (by omega) rfl rfl (Nat.le_of_ble_eq_true rfl) (td kX12_share 16 rfl) (fun _ σ28 _ => ?_)
      refine X_aload_n (pc := 31) (td kX12_share 17 rfl) rfl 0 rfl ?_
      refine X_getI (pc := 32) sM_0 rfl fk_X12_460 (td kX12_share 18 rfl) ?_
      refine X_bi (fun v2_35 => ?_)
      refine X_istore_n (L' := [(2, .int v2_35), (0, .ref 0), (1, .int p1)]) (pc := 35) (td kX12_share 19 rfl) rfl (by decide) rfl ?_
      refine X_aload_n (pc := 36) (td kX12_share 20 rfl) rfl 1 rfl ?_
      refine X_bipush (v := (63 : Int32)) (pc := 37) (td kX12_share 21 rfl) (by decide) ?_
      refine X_iconst (v := (1 : Int32)) (pc := 39) (td kX12_share 22 rfl) (by decide) ?_
      refine X_iload_n (pc := 40) (td kX12_share 23 rfl) rfl 2 rfl ?_
      refine X_ishl (pc := 41) (td kX12_share 24 rfl) ?_
      refine X_iconst (v := (-1 : Int32)) (pc := 42) (td kX12_share 25 rfl) (by decide) ?_
      refine X_ixor (pc := 43) (td kX12_share 26 rfl) ?_
      refine X_iand (pc := 44) (td kX12_share 27 rfl) ?_
      refine X_putI (pc := 45) sM_0 rfl fk_X12_135 rfl rfl (td kX12_share 28 rfl) (fun σ45 => ?_)
      refine X_aload_n (pc := 48) (td kX12_share 29 rfl) rfl 1 rfl ?_
      refine X_callv (pc := 49) (As := []) (st := []) sM_0 (x_X12_tries σ45) mkX12_tries lk_X12_478 (by omega) rfl rfl (Nat.le_of_ble_eq_true rfl) (td kX12_share 30 rfl) (fun _ σ49 _ => ?_)
      refine X_aload_n (pc := 52) (td kX12_share 31 rfl) rfl 1 rfl ?_
      refine X_bipush (v := (63 : Int32)) (pc := 53) (td kX12_share 32 rfl) (by decide) ?_
      refine X_putI (pc := 55) sM_0 rfl fk_X12_135 rfl rfl (td kX12_share 33 rfl) (fun σ55 => ?_)
      refine X_iload_n (pc := 58) (td kX12_share 34 rfl) rfl 0 rfl ?_
      refine X_aload_n (pc := 59) (td kX12_share 35 rfl) rfl 1 rfl ?_
      refine X_getI (pc := 60) sM_0 rfl fk_X12_460 (td kX12_share 36 rfl) ?_
      refine X_isub (pc := 63) (td kX12_share 37 rfl) ?_
      exact X_ret (pc := 64) (td kX12_share 38 rfl) rfl
    · refine X_iconst (v := (0 : Int32)) (pc := 25) (td kX12_share 13 rfl) (by decide) ?_
      exact X_ret (pc := 26) (td kX12_share 14 rfl) rfl
  · refine X_if_eq (pc := 6) (tgt := 13) (td kX12_share 4 rfl) (by decide) (fun c_6 => ?_) (fun c_6 => ?_)
    · refine X_iconst (v := (1 : Int32)) (pc := 13) (td kX12_share 7 rfl) (by decide) ?_
      exact h14 (1 : Int32)
    · refine X_iconst (v := (0 : Int32)) (pc := 9) (td kX12_share 5 rfl) (by decide) ?_
      refine X_goto (pc := 10) (tgt := 14) (td kX12_share 6 rfl) (by decide) ?_
      exact h14 (0 : Int32)
def F_X12_thief_15 (σ6 : Mm) (k78 : Int32 → Option (Int32 × Mm)) (rec15 : Int32 → Int32 → Int32 → Option (Int32 × Mm)) (x1_15 : Int32) (x2_15 : Int32) (x3_15 : Int32) : Option (Int32 × Mm) := ck (inb (2 : Int32) 8) ((if x3_15 < (gI σ6 2 (2 : Int32).toNatClampNeg) then ck (inb x3_15 6) (jn (fun (x1_72 : Int32) (x2_72 : Int32) => rec15 x1_72 x2_72 (x3_15 + (1 : Int32))) (fun k72 => (if 0 < (gI σ6 45 x3_15.toNatClampNeg) then ck (inb x3_15 6) (bn (gI σ6 45 x3_15.toNatClampNeg) (fun i_44 => ck (inb i_44 100) (cl (f_X12_bits (gI σ6 46 i_44.toNatClampNeg) σ6) (fun r45 _ => (if x2_15 < r45 then ck (inb x3_15 6) (bn (gI σ6 45 x3_15.toNatClampNeg) (fun i_67 => ck (inb i_67 100) (cl (f_X12_bits (gI σ6 46 i_67.toNatClampNeg) σ6) (fun r68 _ => k72 x3_15 r68)))) else k72 x1_15 x2_15))))) else k72 x1_15 x2_15))) else k78 x1_15))
def f_X12_thief (σ : Mm) : Option (Int32 × Mm) := bn (pI σ 0 0 (0 : Int32)) (fun σ2 => cl (f_X12_tries σ2) (fun _ σ6 => jn (fun (x1_78 : Int32) => some (x1_78, σ6)) (fun k78 => lq3 (F_X12_thief_15 σ6 k78) 1000000 (-1 : Int32) (-1 : Int32) (0 : Int32))))
set_option maxHeartbeats 4000000 in
set_option maxRecDepth 100000 in
theorem x_X12_thief (σ : Mm) : Con (wsOf SHM) yX12_thief cX12_thief 4 (some .int) 8 [.ref 0] σ (f_X12_thief σ) := by
  refine Con.of_X (by decide +kernel) (Nat.le_of_ble_eq_true rfl) ?_
  unfold f_X12_thief
  show X (wsOf SHM) RX12 cX12_thief 4 (some .int) 8 0 0 [(0, .ref 0)] [] σ _
  refine X_aload_n (pc := 0) (td kX12_thief 0 rfl) rfl 0 rfl ?_
  refine X_iconst (v := (0 : Int32)) (pc := 1) (td kX12_thief 1 rfl) (by decide) ?_
  refine X_putI (pc := 2) sM_0 rfl fk_X12_169 rfl rfl (td kX12_thief 2 rfl) (fun σ2 => ?_)
  refine X_aload_n (pc := 5) (td kX12_thief 3 rfl) rfl 0 rfl ?_
  refine X_callv (pc := 6) (As := []) (st := []) sM_0 (x_X12_tries σ2) mkX12_tries lk_X12_478 (by omega) rfl rfl (Nat.le_of_ble_eq_true rfl) (td kX12_thief 4 rfl) (fun _ σ6 _ => ?_)
  refine X_iconst (v := (-1 : Int32)) (pc := 9) (td kX12_thief 5 rfl) (by decide) ?_
  refine X_istore_n (L' := [(1, .int (-1 : Int32)), (0, .ref 0)]) (pc := 10) (td kX12_thief 6 rfl) rfl (by decide) rfl ?_
  refine X_iconst (v := (-1 : Int32)) (pc := 11) (td kX12_thief 7 rfl) (by decide) ?_
  refine X_istore_n (L' := [(2, .int (-1 : Int32)), (1, .int (-1 : Int32)), (0, .ref 0)]) (pc := 12) (td kX12_thief 8 rfl) rfl (by decide) rfl ?_
  refine X_iconst (v := (0 : Int32)) (pc := 13) (td kX12_thief 9 rfl) (by decide) ?_
  refine X_istore_n (L' := [(3, .int (0 : Int32)), (2, .int (-1 : Int32)), (1, .int (-1 : Int32)), (0, .ref 0)]) (pc := 14) (td kX12_thief 10 rfl) rfl (by decide) rfl ?_
  refine X_jn (P := fun k => ∀ (x1_78 : Int32), X (wsOf SHM) RX12 cX12_thief 4 (some .int) 8 0 78 [(1, .int x1_78)] [] σ6 (k x1_78)) (fun x1_78 => ?_) (fun k78 h78 => ?_)
  · refine X_iload_n (pc := 78) (td kX12_thief 46 rfl) rfl 0 rfl ?_
    exact X_ret (pc := 79) (td kX12_thief 47 rfl) rfl
  · refine X_sub [3, 2, 1, 0] rfl ?_
    refine lq3_ind (P := fun x1_15 x2_15 x3_15 E => X (wsOf SHM) RX12 cX12_thief 4 (some .int) 8 0 15 [(0, .ref 0), (1, .int x1_15), (2, .int x2_15), (3, .int x3_15)] [] σ6 E) (fun _ _ _ => X_none) (fun rec15 hrec15 x1_15 x2_15 x3_15 => ?_) _ _ _ _
    unfold F_X12_thief_15
    refine X_iload_n (pc := 15) (td kX12_thief 11 rfl) rfl 3 rfl ?_
    refine X_aload_n (pc := 16) (td kX12_thief 12 rfl) rfl 0 rfl ?_
    refine X_getF (b := 2) (pc := 17) sM_0 rfl fk_X12_13 (td kX12_thief 13 rfl) ?_
    refine X_iconst (v := (2 : Int32)) (pc := 20) (td kX12_thief 14 rfl) (by decide) ?_
    refine X_iald (pc := 21) sM_2 (td kX12_thief 15 rfl) ?_
    refine X_icmp_ge (pc := 22) (tgt := 78) (td kX12_thief 16 rfl) (by decide) (fun c_22 => ?_) (fun c_22 => ?_)
    · refine X_sub [1] rfl ?_
      exact h78 x1_15
    · refine X_aload_n (pc := 25) (td kX12_thief 17 rfl) rfl 0 rfl ?_
      refine X_getF (b := 45) (pc := 26) sM_0 rfl fk_X12_148 (td kX12_thief 18 rfl) ?_
      refine X_iload_n (pc := 29) (td kX12_thief 19 rfl) rfl 3 rfl ?_
      refine X_iald (pc := 30) sM_45 (td kX12_thief 20 rfl) ?_
      refine X_jn (P := fun k => ∀ (x1_72 : Int32) (x2_72 : Int32), X (wsOf SHM) RX12 cX12_thief 4 (some .int) 8 0 72 [(0, .ref 0), (1, .int x1_72), (2, .int x2_72), (3, .int x3_15)] [] σ6 (k x1_72 x2_72)) (fun x1_72 x2_72 => ?_) (fun k72 h72 => ?_)
      · refine X_iinc (v := (x3_15 + (1 : Int32))) (L' := [(3, .int (x3_15 + (1 : Int32))), (0, .ref 0), (1, .int x1_72), (2, .int x2_72)]) (pc := 72) (td kX12_thief 44 rfl) 3 rfl rfl (by decide) rfl ?_
        refine X_goto (pc := 75) (tgt := 15) (td kX12_thief 45 rfl) (by decide) ?_
        refine X_sub [1, 2, 3, 0] rfl ?_
        exact hrec15 x1_72 x2_72 (x3_15 + (1 : Int32))
      · refine X_if_le (pc := 31) (tgt := 72) (td kX12_thief 21 rfl) (by decide) (fun c_31 => ?_) (fun c_31 => ?_)
        · exact h72 x1_15 x2_15
        · refine X_aload_n (pc := 34) (td kX12_thief 22 rfl) rfl 0 rfl ?_
          refine X_getF (b := 46) (pc := 35) sM_0 rfl fk_X12_151 (td kX12_thief 23 rfl) ?_
          refine X_aload_n (pc := 38) (td kX12_thief 24 rfl) rfl 0 rfl ?_
          refine X_getF (b := 45) (pc := 39) sM_0 rfl fk_X12_148 (td kX12_thief 25 rfl) ?_
          refine X_iload_n (pc := 42) (td kX12_thief 26 rfl) rfl 3 rfl ?_
          refine X_iald (pc := 43) sM_45 (td kX12_thief 27 rfl) ?_
          refine X_bi (fun i_44 => ?_)
          refine X_iald (pc := 44) sM_46 (td kX12_thief 28 rfl) ?_
          refine X_callsip (pc := 45) (As := [.int (gI σ6 46 i_44.toNatClampNeg)]) (st := []) (p_X12_bits (gI σ6 46 i_44.toNatClampNeg) σ6) (x_X12_bits (gI σ6 46 i_44.toNatClampNeg) σ6) mkX12_bits lk_X12_472 (by omega) rfl rfl (Nat.le_of_ble_eq_true rfl) (td kX12_thief 29 rfl) (fun r45 hr45 => ?_)
          refine X_iload_n (pc := 48) (td kX12_thief 30 rfl) rfl 2 rfl ?_
          refine X_icmp_gt (pc := 49) (tgt := 55) (td kX12_thief 31 rfl) (by decide) (fun c_49 => ?_) (fun c_49 => ?_)
          · refine X_iload_n (pc := 55) (td kX12_thief 33 rfl) rfl 3 rfl ?_
            refine X_istore_n (L' := [(1, .int x3_15), (0, .ref 0), (2, .int x2_15), (3, .int x3_15)]) (pc := 56) (td kX12_thief 34 rfl) rfl (by decide) rfl ?_
            refine X_aload_n (pc := 57) (td kX12_thief 35 rfl) rfl 1 rfl ?_
            refine X_getF (b := 46) (pc := 58) sM_0 rfl fk_X12_151 (td kX12_thief 36 rfl) ?_
            refine X_aload_n (pc := 61) (td kX12_thief 37 rfl) rfl 1 rfl ?_
            refine X_getF (b := 45) (pc := 62) sM_0 rfl fk_X12_148 (td kX12_thief 38 rfl) ?_
            refine X_iload_n (pc := 65) (td kX12_thief 39 rfl) rfl 3 rfl ?_
            refine X_iald (pc := 66) sM_45 (td kX12_thief 40 rfl) ?_
            refine X_bi (fun i_67 => ?_)
            refine X_iald (pc := 67) sM_46 (td kX12_thief 41 rfl) ?_
            refine X_callsip (pc := 68) (As := [.int (gI σ6 46 i_67.toNatClampNeg)]) (st := []) (p_X12_bits (gI σ6 46 i_67.toNatClampNeg) σ6) (x_X12_bits (gI σ6 46 i_67.toNatClampNeg) σ6) mkX12_bits lk_X12_472 (by omega) rfl rfl (Nat.le_of_ble_eq_true rfl) (td kX12_thief 42 rfl) (fun r68 hr68 => ?_)
            refine X_istore_n (L' := [(2, .int r68), (1, .int x3_15), (0, .ref 0), (3, .int x3_15)]) (pc := 71) (td kX12_thief 43 rfl) rfl (by decide) rfl ?_
            refine X_sub [2, 1, 0, 3] rfl ?_
            exact h72 x3_15 r68
          · refine X_goto (pc := 52) (tgt := 72) (td kX12_thief 32 rfl) (by decide) ?_
            exact h72 x1_15 x2_15
def f_X12_thrown (σ : Mm) : Option (Int32 × Mm) := some ((gI σ 0 0), σ)
set_option maxHeartbeats 4000000 in
set_option maxRecDepth 100000 in
theorem x_X12_thrown (σ : Mm) : Con (wsOf SHM) yX12_thrown cX12_thrown 1 (some .int) 1 [.ref 0] σ (f_X12_thrown σ) := by
  refine Con.of_X (by decide +kernel) (Nat.le_of_ble_eq_true rfl) ?_
  unfold f_X12_thrown
  show X (wsOf SHM) RX12 cX12_thrown 1 (some .int) 1 0 0 [(0, .ref 0)] [] σ _
  refine X_aload_n (pc := 0) (td kX12_thrown 0 rfl) rfl 0 rfl ?_
  refine X_getI (pc := 1) sM_0 rfl fk_X12_169 (td kX12_thrown 1 rfl) ?_
  exact X_ret (pc := 4) (td kX12_thrown 2 rfl) rfl
set_option maxHeartbeats 4000000 in
theorem p_X12_thrown (σ : Mm) : Pu σ (f_X12_thrown σ) := by
  unfold f_X12_thrown
  exact Pu_some
def F_X12_town_50 (k68 : Mm → Option (Int32 × Mm)) (rec50 : Int32 → Mm → Option (Int32 × Mm)) (x1_50 : Int32) (σ_50 : Mm) : Option (Int32 × Mm) := (if x1_50 < (4 : Int32) then ck (inb x1_50 4) (bn (pI σ_50 41 x1_50.toNatClampNeg (vp_nar .boolean (0 : Int32))) (fun σ61 => rec50 (x1_50 + (1 : Int32)) σ61)) else k68 σ_50)
def f_X12_town (σ : Mm) : Option (Int32 × Mm) := bn (pI σ 0 0 (0 : Int32)) (fun σ2 => cl (f_X12_readsAll σ2) (fun r6 σ6 => (if r6 = 0 then some ((gI σ6 0 9), σ6) else cl (f_X12_lays σ6) (fun _ σ18 => cl (f_X12_lays0 σ18) (fun _ σ22 => cl (f_X12_fresh σ22) (fun _ σ26 => ck (inb (0 : Int32) 6) (bn (pI σ26 28 (0 : Int32).toNatClampNeg (0 : Int32)) (fun σ35 => ck (inb (0 : Int32) 5) (bn (pI σ35 32 (0 : Int32).toNatClampNeg (0 : Int32)) (fun σ42 => bn (pI σ42 0 55 (0 : Int32)) (fun σ45 => jn (fun (σ_68 : Mm) => some ((0 : Int32), σ_68)) (fun k68 => lq2 (F_X12_town_50 k68) 1000000 (0 : Int32) σ45))))))))))))
set_option maxHeartbeats 4000000 in
set_option maxRecDepth 100000 in
theorem x_X12_town (σ : Mm) : Con (wsOf SHM) yX12_town cX12_town 2 (some .int) 6 [.ref 0] σ (f_X12_town σ) := by
  refine Con.of_X (by decide +kernel) (Nat.le_of_ble_eq_true rfl) ?_
  unfold f_X12_town
  show X (wsOf SHM) RX12 cX12_town 2 (some .int) 6 0 0 [(0, .ref 0)] [] σ _
  refine X_aload_n (pc := 0) (td kX12_town 0 rfl) rfl 0 rfl ?_
  refine X_iconst (v := (0 : Int32)) (pc := 1) (td kX12_town 1 rfl) (by decide) ?_
  refine X_putI (pc := 2) sM_0 rfl fk_X12_169 rfl rfl (td kX12_town 2 rfl) (fun σ2 => ?_)
  refine X_aload_n (pc := 5) (td kX12_town 3 rfl) rfl 0 rfl ?_
  refine X_calli (pc := 6) (As := []) (st := []) sM_0 (x_X12_readsAll σ2) mkX12_readsAll lk_X12_371 (by omega) rfl rfl (Nat.le_of_ble_eq_true rfl) (td kX12_town 4 rfl) (fun r6 σ6 _ hr6 => ?_)
  refine X_if_ne (pc := 9) (tgt := 17) (td kX12_town 5 rfl) (by decide) (fun c_9 => ?_) (fun c_9 => ?_)
  · refine X_aload_n (pc := 17) (td kX12_town 9 rfl) rfl 0 rfl ?_
    refine X_callv (pc := 18) (As := []) (st := []) sM_0 (x_X12_lays σ6) mkX12_lays lk_X12_374 (by omega) rfl rfl (Nat.le_of_ble_eq_true rfl) (td kX12_town 10 rfl) (fun _ σ18 _ => ?_)
    refine X_aload_n (pc := 21) (td kX12_town 11 rfl) rfl 0 rfl ?_
    refine X_callv (pc := 22) (As := []) (st := []) sM_0 (x_X12_lays0 σ18) mkX12_lays0 lk_X12_163 (by omega) rfl rfl (Nat.le_of_ble_eq_true rfl) (td kX12_town 12 rfl) (fun _ σ22 _ => ?_)
    refine X_aload_n (pc := 25) (td kX12_town 13 rfl) rfl 0 rfl ?_
    refine X_callv (pc := 26) (As := []) (st := []) sM_0 (x_X12_fresh σ22) mkX12_fresh lk_X12_166 (by omega) rfl rfl (Nat.le_of_ble_eq_true rfl) (td kX12_town 14 rfl) (fun _ σ26 _ => ?_)
    refine X_aload_n (pc := 29) (td kX12_town 15 rfl) rfl 0 rfl ?_
    refine X_getF (b := 28) (pc := 30) sM_0 rfl fk_X12_93 (td kX12_town 16 rfl) ?_
    refine X_iconst (v := (0 : Int32)) (pc := 33) (td kX12_town 17 rfl) (by decide) ?_
    refine X_iconst (v := (0 : Int32)) (pc := 34) (td kX12_town 18 rfl) (by decide) ?_
    refine X_iast (pc := 35) sM_28 (td kX12_town 19 rfl) (fun σ35 => ?_)
    refine X_aload_n (pc := 36) (td kX12_town 20 rfl) rfl 0 rfl ?_
    refine X_getF (b := 32) (pc := 37) sM_0 rfl fk_X12_105 (td kX12_town 21 rfl) ?_
    refine X_iconst (v := (0 : Int32)) (pc := 40) (td kX12_town 22 rfl) (by decide) ?_
    refine X_iconst (v := (0 : Int32)) (pc := 41) (td kX12_town 23 rfl) (by decide) ?_
    refine X_iast (pc := 42) sM_32 (td kX12_town 24 rfl) (fun σ42 => ?_)
    refine X_aload_n (pc := 43) (td kX12_town 25 rfl) rfl 0 rfl ?_
    refine X_iconst (v := (0 : Int32)) (pc := 44) (td kX12_town 26 rfl) (by decide) ?_
    refine X_putI (pc := 45) sM_0 rfl fk_X12_377 rfl rfl (td kX12_town 27 rfl) (fun σ45 => ?_)
    refine X_iconst (v := (0 : Int32)) (pc := 48) (td kX12_town 28 rfl) (by decide) ?_
    refine X_istore_n (L' := [(1, .int (0 : Int32)), (0, .ref 0)]) (pc := 49) (td kX12_town 29 rfl) rfl (by decide) rfl ?_
    refine X_jn (P := fun k => ∀ (σ_68 : Mm), X (wsOf SHM) RX12 cX12_town 2 (some .int) 6 0 68 [] [] σ_68 (k σ_68)) (fun σ_68 => ?_) (fun k68 h68 => ?_)
    · refine X_iconst (v := (0 : Int32)) (pc := 68) (td kX12_town 40 rfl) (by decide) ?_
      exact X_ret (pc := 69) (td kX12_town 41 rfl) rfl
    · refine X_sub [1, 0] rfl ?_
      refine lq2_ind (P := fun x1_50 σ_50 E => X (wsOf SHM) RX12 cX12_town 2 (some .int) 6 0 50 [(0, .ref 0), (1, .int x1_50)] [] σ_50 E) (fun _ _ => X_none) (fun rec50 hrec50 x1_50 σ_50 => ?_) _ _ _
      unfold F_X12_town_50
      refine X_iload_n (pc := 50) (td kX12_town 30 rfl) rfl 1 rfl ?_
      refine X_iconst (v := (4 : Int32)) (pc := 51) (td kX12_town 31 rfl) (by decide) ?_
      refine X_icmp_ge (pc := 52) (tgt := 68) (td kX12_town 32 rfl) (by decide) (fun c_52 => ?_) (fun c_52 => ?_)
      · refine X_sub [] rfl ?_
        exact h68 σ_50
      · refine X_aload_n (pc := 55) (td kX12_town 33 rfl) rfl 0 rfl ?_
        refine X_getF (b := 41) (pc := 56) sM_0 rfl fk_X12_132 (td kX12_town 34 rfl) ?_
        refine X_iload_n (pc := 59) (td kX12_town 35 rfl) rfl 1 rfl ?_
        refine X_iconst (v := (0 : Int32)) (pc := 60) (td kX12_town 36 rfl) (by decide) ?_
        refine X_zast (pc := 61) sM_41 (td kX12_town 37 rfl) (fun σ61 => ?_)
        refine X_iinc (v := (x1_50 + (1 : Int32))) (L' := [(1, .int (x1_50 + (1 : Int32))), (0, .ref 0)]) (pc := 62) (td kX12_town 38 rfl) 1 rfl rfl (by decide) rfl ?_
        refine X_goto (pc := 65) (tgt := 50) (td kX12_town 39 rfl) (by decide) ?_
        refine X_sub [1, 0] rfl ?_
        exact hrec50 (x1_50 + (1 : Int32)) σ61
  · refine X_aload_n (pc := 12) (td kX12_town 6 rfl) rfl 0 rfl ?_
    refine X_getI (pc := 13) sM_0 rfl fk_X12_204 (td kX12_town 7 rfl) ?_
    exact X_ret (pc := 16) (td kX12_town 8 rfl) rfl
def f_X12_undo (σ : Mm) : Option (Int32 × Mm) := bn (pI σ 0 0 (0 : Int32)) (fun σ2 => (if (gI σ2 0 55) = 0 then some ((0 : Int32), σ2) else bn (pI σ2 0 55 ((gI σ2 0 55) - (1 : Int32))) (fun σ21 => cl (f_X12_copies 40 ((41 : Int32) * (gI σ21 0 55)) 36 (0 : Int32) σ21) (fun _ σ40 => some ((1 : Int32), σ40)))))
set_option maxHeartbeats 4000000 in
set_option maxRecDepth 100000 in
theorem x_X12_undo (σ : Mm) : Con (wsOf SHM) yX12_undo cX12_undo 1 (some .boolean) 2 [.ref 0] σ (f_X12_undo σ) := by
  refine Con.of_X (by decide +kernel) (Nat.le_of_ble_eq_true rfl) ?_
  unfold f_X12_undo
  show X (wsOf SHM) RX12 cX12_undo 1 (some .boolean) 2 0 0 [(0, .ref 0)] [] σ _
  refine X_aload_n (pc := 0) (td kX12_undo 0 rfl) rfl 0 rfl ?_
  refine X_iconst (v := (0 : Int32)) (pc := 1) (td kX12_undo 1 rfl) (by decide) ?_
  refine X_putI (pc := 2) sM_0 rfl fk_X12_169 rfl rfl (td kX12_undo 2 rfl) (fun σ2 => ?_)
  refine X_aload_n (pc := 5) (td kX12_undo 3 rfl) rfl 0 rfl ?_
  refine X_getI (pc := 6) sM_0 rfl fk_X12_377 (td kX12_undo 4 rfl) ?_
  refine X_if_ne (pc := 9) (tgt := 14) (td kX12_undo 5 rfl) (by decide) (fun c_9 => ?_) (fun c_9 => ?_)
  · refine X_aload_n (pc := 14) (td kX12_undo 8 rfl) rfl 0 rfl ?_
    refine X_dup (pc := 15) (td kX12_undo 9 rfl) rfl ?_
    refine X_getI (pc := 16) sM_0 rfl fk_X12_377 (td kX12_undo 10 rfl) ?_
    refine X_iconst (v := (1 : Int32)) (pc := 19) (td kX12_undo 11 rfl) (by decide) ?_
    refine X_isub (pc := 20) (td kX12_undo 12 rfl) ?_
    refine X_putI (pc := 21) sM_0 rfl fk_X12_377 rfl rfl (td kX12_undo 13 rfl) (fun σ21 => ?_)
    refine X_aload_n (pc := 24) (td kX12_undo 14 rfl) rfl 0 rfl ?_
    refine X_getF (b := 40) (pc := 25) sM_0 rfl fk_X12_129 (td kX12_undo 15 rfl) ?_
    refine X_bipush (v := (41 : Int32)) (pc := 28) (td kX12_undo 16 rfl) (by decide) ?_
    refine X_aload_n (pc := 30) (td kX12_undo 17 rfl) rfl 0 rfl ?_
    refine X_getI (pc := 31) sM_0 rfl fk_X12_377 (td kX12_undo 18 rfl) ?_
    refine X_imul (pc := 34) (td kX12_undo 19 rfl) ?_
    refine X_aload_n (pc := 35) (td kX12_undo 20 rfl) rfl 0 rfl ?_
    refine X_getF (b := 36) (pc := 36) sM_0 rfl fk_X12_117 (td kX12_undo 21 rfl) ?_
    refine X_iconst (v := (0 : Int32)) (pc := 39) (td kX12_undo 22 rfl) (by decide) ?_
    refine X_callsv (pc := 40) (As := [.ref 40, .int ((41 : Int32) * (gI σ21 0 55)), .ref 36, .int (0 : Int32)]) (st := []) (x_X12_copies 40 ((41 : Int32) * (gI σ21 0 55)) 36 (0 : Int32) σ21) mkX12_copies lk_X12_429 (by omega) rfl rfl (Nat.le_of_ble_eq_true rfl) (td kX12_undo 23 rfl) (fun _ σ40 _ => ?_)
    refine X_iconst (v := (1 : Int32)) (pc := 43) (td kX12_undo 24 rfl) (by decide) ?_
    exact X_ret (pc := 44) (td kX12_undo 25 rfl) rfl
  · refine X_iconst (v := (0 : Int32)) (pc := 12) (td kX12_undo 6 rfl) (by decide) ?_
    exact X_ret (pc := 13) (td kX12_undo 7 rfl) rfl
def f_X12_waits (p1 : Int32) (σ : Mm) : Option (Int32 × Mm) := bn (pI σ 0 0 (0 : Int32)) (fun σ2 => cl (f_X12_isWalker p1 σ2) (fun r7 _ => jn (some ((-1 : Int32), σ2)) (fun k21 => (if r7 = 0 then k21 else cl (f_X12_isHome p1 σ2) (fun r15 _ => (if r15 = 0 then cl (f_X12_keeps σ2) (fun _ σ24 => cl (f_X12_waitsMore p1 σ24) (fun _ σ29 => bn ((23 : Int32) + p1) (fun i_40 => ck (inb i_40 41) (some ((gI σ29 36 i_40.toNatClampNeg), σ29))))) else k21))))))
set_option maxHeartbeats 4000000 in
set_option maxRecDepth 100000 in
theorem x_X12_waits (p1 : Int32) (σ : Mm) : Con (wsOf SHM) yX12_waits cX12_waits 2 (some .int) 3 [.ref 0, .int p1] σ (f_X12_waits p1 σ) := by
  refine Con.of_X (by decide +kernel) (Nat.le_of_ble_eq_true rfl) ?_
  unfold f_X12_waits
  show X (wsOf SHM) RX12 cX12_waits 2 (some .int) 3 0 0 [(0, .ref 0), (1, .int p1)] [] σ _
  refine X_aload_n (pc := 0) (td kX12_waits 0 rfl) rfl 0 rfl ?_
  refine X_iconst (v := (0 : Int32)) (pc := 1) (td kX12_waits 1 rfl) (by decide) ?_
  refine X_putI (pc := 2) sM_0 rfl fk_X12_169 rfl rfl (td kX12_waits 2 rfl) (fun σ2 => ?_)
  refine X_aload_n (pc := 5) (td kX12_waits 3 rfl) rfl 0 rfl ?_
  refine X_iload_n (pc := 6) (td kX12_waits 4 rfl) rfl 1 rfl ?_
  refine X_callip (pc := 7) (As := [.int p1]) (st := []) (p_X12_isWalker p1 σ2) sM_0 (x_X12_isWalker p1 σ2) mkX12_isWalker lk_X12_423 (by omega) rfl rfl (Nat.le_of_ble_eq_true rfl) (td kX12_waits 5 rfl) (fun r7 hr7 => ?_)
  refine X_jn (P := fun k => X (wsOf SHM) RX12 cX12_waits 2 (some .int) 3 0 21 [] [] σ2 k) ?_ (fun k21 h21 => ?_)
  · refine X_iconst (v := (-1 : Int32)) (pc := 21) (td kX12_waits 11 rfl) (by decide) ?_
    exact X_ret (pc := 22) (td kX12_waits 12 rfl) rfl
  · refine X_if_eq (pc := 10) (tgt := 21) (td kX12_waits 6 rfl) (by decide) (fun c_10 => ?_) (fun c_10 => ?_)
    · refine X_sub [] rfl ?_
      exact h21
    · refine X_aload_n (pc := 13) (td kX12_waits 7 rfl) rfl 0 rfl ?_
      refine X_iload_n (pc := 14) (td kX12_waits 8 rfl) rfl 1 rfl ?_
      refine X_callip (pc := 15) (As := [.int p1]) (st := []) (p_X12_isHome p1 σ2) sM_0 (x_X12_isHome p1 σ2) mkX12_isHome lk_X12_387 (by omega) rfl rfl (Nat.le_of_ble_eq_true rfl) (td kX12_waits 9 rfl) (fun r15 hr15 => ?_)
      refine X_if_eq (pc := 18) (tgt := 23) (td kX12_waits 10 rfl) (by decide) (fun c_18 => ?_) (fun c_18 => ?_)
      · refine X_aload_n (pc := 23) (td kX12_waits 13 rfl) rfl 0 rfl ?_
        refine X_callv (pc := 24) (As := []) (st := []) sM_0 (x_X12_keeps σ2) mkX12_keeps lk_X12_433 (by omega) rfl rfl (Nat.le_of_ble_eq_true rfl) (td kX12_waits 14 rfl) (fun _ σ24 _ => ?_)
        refine X_aload_n (pc := 27) (td kX12_waits 15 rfl) rfl 0 rfl ?_
        refine X_iload_n (pc := 28) (td kX12_waits 16 rfl) rfl 1 rfl ?_
        refine X_callv (pc := 29) (As := [.int p1]) (st := []) sM_0 (x_X12_waitsMore p1 σ24) mkX12_waitsMore lk_X12_442 (by omega) rfl rfl (Nat.le_of_ble_eq_true rfl) (td kX12_waits 17 rfl) (fun _ σ29 _ => ?_)
        refine X_aload_n (pc := 32) (td kX12_waits 18 rfl) rfl 0 rfl ?_
        refine X_getF (b := 36) (pc := 33) sM_0 rfl fk_X12_117 (td kX12_waits 19 rfl) ?_
        refine X_bipush (v := (23 : Int32)) (pc := 36) (td kX12_waits 20 rfl) (by decide) ?_
        refine X_iload_n (pc := 38) (td kX12_waits 21 rfl) rfl 1 rfl ?_
        refine X_iadd (pc := 39) (td kX12_waits 22 rfl) ?_
        refine X_bi (fun i_40 => ?_)
        refine X_iald (pc := 40) sM_36 (td kX12_waits 23 rfl) ?_
        exact X_ret (pc := 41) (td kX12_waits 24 rfl) rfl
      · refine X_sub [] rfl ?_
        exact h21
def f_X12_walker (p1 : Int32) (p2 : Int32) (σ : Mm) : Option (Int32 × Mm) := bn (pI σ 0 0 (0 : Int32)) (fun σ2 => cl (f_X12_isWalker p1 σ2) (fun r7 _ => jn (some ((-1 : Int32), σ2)) (fun k22 => (if r7 = 0 then k22 else cl (f_X12_within p2 (0 : Int32) (5 : Int32) σ2) (fun r16 _ => (if r16 = 0 then k22 else (if p2 < (3 : Int32) then (if p2 = 0 then ck (inb p1 12) (some ((gI σ2 8 p1.toNatClampNeg), σ2)) else (if p2 = (1 : Int32) then bn ((11 : Int32) + p1) (fun i_55 => ck (inb i_55 41) (some ((gI σ2 36 i_55.toNatClampNeg), σ2))) else bn ((17 : Int32) + p1) (fun i_67 => ck (inb i_67 41) (some ((gI σ2 36 i_67.toNatClampNeg), σ2))))) else (if p2 = (3 : Int32) then bn ((23 : Int32) + p1) (fun i_82 => ck (inb i_82 41) (some ((gI σ2 36 i_82.toNatClampNeg), σ2))) else (if p2 = (4 : Int32) then cl (f_X12_isHome p1 σ2) (fun r93 _ => (if r93 = 0 then some ((0 : Int32), σ2) else some ((1 : Int32), σ2))) else cl (f_X12_isOut p1 σ2) (fun r109 _ => (if r109 = 0 then some ((0 : Int32), σ2) else some ((1 : Int32), σ2))))))))))))
set_option maxHeartbeats 4000000 in
set_option maxRecDepth 100000 in
theorem x_X12_walker (p1 : Int32) (p2 : Int32) (σ : Mm) : Con (wsOf SHM) yX12_walker cX12_walker 3 (some .int) 3 [.ref 0, .int p1, .int p2] σ (f_X12_walker p1 p2 σ) := by
  refine Con.of_X (by decide +kernel) (Nat.le_of_ble_eq_true rfl) ?_
  unfold f_X12_walker
  show X (wsOf SHM) RX12 cX12_walker 3 (some .int) 3 0 0 [(0, .ref 0), (1, .int p1), (2, .int p2)] [] σ _
  refine X_aload_n (pc := 0) (td kX12_walker 0 rfl) rfl 0 rfl ?_
  refine X_iconst (v := (0 : Int32)) (pc := 1) (td kX12_walker 1 rfl) (by decide) ?_
  refine X_putI (pc := 2) sM_0 rfl fk_X12_169 rfl rfl (td kX12_walker 2 rfl) (fun σ2 => ?_)
  refine X_aload_n (pc := 5) (td kX12_walker 3 rfl) rfl 0 rfl ?_
  refine X_iload_n (pc := 6) (td kX12_walker 4 rfl) rfl 1 rfl ?_
  refine X_callip (pc := 7) (As := [.int p1]) (st := []) (p_X12_isWalker p1 σ2) sM_0 (x_X12_isWalker p1 σ2) mkX12_isWalker lk_X12_423 (by omega) rfl rfl (Nat.le_of_ble_eq_true rfl) (td kX12_walker 5 rfl) (fun r7 hr7 => ?_)
  refine X_jn (P := fun k => X (wsOf SHM) RX12 cX12_walker 3 (some .int) 3 0 22 [] [] σ2 k) ?_ (fun k22 h22 => ?_)
  · refine X_iconst (v := (-1 : Int32)) (pc := 22) (td kX12_walker 12 rfl) (by decide) ?_
    exact X_ret (pc := 23) (td kX12_walker 13 rfl) rfl
  · refine X_if_eq (pc := 10) (tgt := 22) (td kX12_walker 6 rfl) (by decide) (fun c_10 => ?_) (fun c_10 => ?_)
    · refine X_sub [] rfl ?_
      exact h22
    · refine X_iload_n (pc := 13) (td kX12_walker 7 rfl) rfl 2 rfl ?_
      refine X_iconst (v := (0 : Int32)) (pc := 14) (td kX12_walker 8 rfl) (by decide) ?_
      refine X_iconst (v := (5 : Int32)) (pc := 15) (td kX12_walker 9 rfl) (by decide) ?_
      refine X_callsip (pc := 16) (As := [.int p2, .int (0 : Int32), .int (5 : Int32)]) (st := []) (p_X12_within p2 (0 : Int32) (5 : Int32) σ2) (x_X12_within p2 (0 : Int32) (5 : Int32) σ2) mkX12_within lk_X12_287 (by omega) rfl rfl (Nat.le_of_ble_eq_true rfl) (td kX12_walker 10 rfl) (fun r16 hr16 => ?_)
      refine X_if_ne (pc := 19) (tgt := 24) (td kX12_walker 11 rfl) (by decide) (fun c_19 => ?_) (fun c_19 => ?_)
      · refine X_iload_n (pc := 24) (td kX12_walker 14 rfl) rfl 2 rfl ?_
        refine X_iconst (v := (3 : Int32)) (pc := 25) (td kX12_walker 15 rfl) (by decide) ?_
        refine X_icmp_ge (pc := 26) (tgt := 69) (td kX12_walker 16 rfl) (by decide) (fun c_26 => ?_) (fun c_26 => ?_)
        · refine X_iload_n (pc := 69) (td kX12_walker 41 rfl) rfl 2 rfl ?_
          refine X_iconst (v := (3 : Int32)) (pc := 70) (td kX12_walker 42 rfl) (by decide) ?_
          refine X_icmp_ne (pc := 71) (tgt := 86) (td kX12_walker 43 rfl) (by decide) (fun c_71 => ?_) (fun c_71 => ?_)
          · refine X_iload_n (pc := 86) (td kX12_walker 51 rfl) rfl 2 rfl ?_
            refine X_iconst (v := (4 : Int32)) (pc := 87) (td kX12_walker 52 rfl) (by decide) ?_
            refine X_icmp_ne (pc := 88) (tgt := 107) (td kX12_walker 53 rfl) (by decide) (fun c_88 => ?_) (fun c_88 => ?_)
            · refine X_aload_n (pc := 107) (td kX12_walker 62 rfl) rfl 0 rfl ?_
              refine X_iload_n (pc := 108) (td kX12_walker 63 rfl) rfl 1 rfl ?_
              refine X_callip (pc := 109) (As := [.int p1]) (st := []) (p_X12_isOut p1 σ2) sM_0 (x_X12_isOut p1 σ2) mkX12_isOut lk_X12_408 (by omega) rfl rfl (Nat.le_of_ble_eq_true rfl) (td kX12_walker 64 rfl) (fun r109 hr109 => ?_)
              refine X_if_eq (pc := 112) (tgt := 119) (td kX12_walker 65 rfl) (by decide) (fun c_112 => ?_) (fun c_112 => ?_)
              · refine X_iconst (v := (0 : Int32)) (pc := 119) (td kX12_walker 68 rfl) (by decide) ?_
                exact X_ret (pc := 120) (td kX12_walker 69 rfl) rfl
              · refine X_iconst (v := (1 : Int32)) (pc := 115) (td kX12_walker 66 rfl) (by decide) ?_
                refine X_goto (pc := 116) (tgt := 120) (td kX12_walker 67 rfl) (by decide) ?_
                exact X_ret (pc := 120) (td kX12_walker 69 rfl) rfl
            · refine X_aload_n (pc := 91) (td kX12_walker 54 rfl) rfl 0 rfl ?_
              refine X_iload_n (pc := 92) (td kX12_walker 55 rfl) rfl 1 rfl ?_
              refine X_callip (pc := 93) (As := [.int p1]) (st := []) (p_X12_isHome p1 σ2) sM_0 (x_X12_isHome p1 σ2) mkX12_isHome lk_X12_387 (by omega) rfl rfl (Nat.le_of_ble_eq_true rfl) (td kX12_walker 56 rfl) (fun r93 hr93 => ?_)
              refine X_if_eq (pc := 96) (tgt := 103) (td kX12_walker 57 rfl) (by decide) (fun c_96 => ?_) (fun c_96 => ?_)
              · refine X_iconst (v := (0 : Int32)) (pc := 103) (td kX12_walker 60 rfl) (by decide) ?_
                refine X_goto (pc := 104) (tgt := 120) (td kX12_walker 61 rfl) (by decide) ?_
                exact X_ret (pc := 120) (td kX12_walker 69 rfl) rfl
              · refine X_iconst (v := (1 : Int32)) (pc := 99) (td kX12_walker 58 rfl) (by decide) ?_
                refine X_goto (pc := 100) (tgt := 120) (td kX12_walker 59 rfl) (by decide) ?_
                exact X_ret (pc := 120) (td kX12_walker 69 rfl) rfl
          · refine X_aload_n (pc := 74) (td kX12_walker 44 rfl) rfl 0 rfl ?_
            refine X_getF (b := 36) (pc := 75) sM_0 rfl fk_X12_117 (td kX12_walker 45 rfl) ?_
            refine X_bipush (v := (23 : Int32)) (pc := 78) (td kX12_walker 46 rfl) (by decide) ?_
            refine X_iload_n (pc := 80) (td kX12_walker 47 rfl) rfl 1 rfl ?_
            refine X_iadd (pc := 81) (td kX12_walker 48 rfl) ?_
            refine X_bi (fun i_82 => ?_)
            refine X_iald (pc := 82) sM_36 (td kX12_walker 49 rfl) ?_
            refine X_goto (pc := 83) (tgt := 120) (td kX12_walker 50 rfl) (by decide) ?_
            exact X_ret (pc := 120) (td kX12_walker 69 rfl) rfl
        · refine X_iload_n (pc := 29) (td kX12_walker 17 rfl) rfl 2 rfl ?_
          refine X_if_ne (pc := 30) (tgt := 42) (td kX12_walker 18 rfl) (by decide) (fun c_30 => ?_) (fun c_30 => ?_)
          · refine X_iload_n (pc := 42) (td kX12_walker 24 rfl) rfl 2 rfl ?_
            refine X_iconst (v := (1 : Int32)) (pc := 43) (td kX12_walker 25 rfl) (by decide) ?_
            refine X_icmp_ne (pc := 44) (tgt := 59) (td kX12_walker 26 rfl) (by decide) (fun c_44 => ?_) (fun c_44 => ?_)
            · refine X_aload_n (pc := 59) (td kX12_walker 34 rfl) rfl 0 rfl ?_
              refine X_getF (b := 36) (pc := 60) sM_0 rfl fk_X12_117 (td kX12_walker 35 rfl) ?_
              refine X_bipush (v := (17 : Int32)) (pc := 63) (td kX12_walker 36 rfl) (by decide) ?_
              refine X_iload_n (pc := 65) (td kX12_walker 37 rfl) rfl 1 rfl ?_
              refine X_iadd (pc := 66) (td kX12_walker 38 rfl) ?_
              refine X_bi (fun i_67 => ?_)
              refine X_iald (pc := 67) sM_36 (td kX12_walker 39 rfl) ?_
              exact X_ret (pc := 68) (td kX12_walker 40 rfl) rfl
            · refine X_aload_n (pc := 47) (td kX12_walker 27 rfl) rfl 0 rfl ?_
              refine X_getF (b := 36) (pc := 48) sM_0 rfl fk_X12_117 (td kX12_walker 28 rfl) ?_
              refine X_bipush (v := (11 : Int32)) (pc := 51) (td kX12_walker 29 rfl) (by decide) ?_
              refine X_iload_n (pc := 53) (td kX12_walker 30 rfl) rfl 1 rfl ?_
              refine X_iadd (pc := 54) (td kX12_walker 31 rfl) ?_
              refine X_bi (fun i_55 => ?_)
              refine X_iald (pc := 55) sM_36 (td kX12_walker 32 rfl) ?_
              refine X_goto (pc := 56) (tgt := 68) (td kX12_walker 33 rfl) (by decide) ?_
              exact X_ret (pc := 68) (td kX12_walker 40 rfl) rfl
          · refine X_aload_n (pc := 33) (td kX12_walker 19 rfl) rfl 0 rfl ?_
            refine X_getF (b := 8) (pc := 34) sM_0 rfl fk_X12_32 (td kX12_walker 20 rfl) ?_
            refine X_iload_n (pc := 37) (td kX12_walker 21 rfl) rfl 1 rfl ?_
            refine X_iald (pc := 38) sM_8 (td kX12_walker 22 rfl) ?_
            refine X_goto (pc := 39) (tgt := 68) (td kX12_walker 23 rfl) (by decide) ?_
            exact X_ret (pc := 68) (td kX12_walker 40 rfl) rfl
      · refine X_sub [] rfl ?_
        exact h22
def f_X12_watch (p1 : Int32) (p2 : Int32) (p3 : Int32) (σ : Mm) : Option (Int32 × Mm) := bn (pI σ 0 0 (0 : Int32)) (fun σ2 => cl (f_X12_isLane p1 σ2) (fun r7 _ => jn (some ((0 : Int32), σ2)) (fun k34 => (if r7 = 0 then k34 else cl (f_X12_within p2 (0 : Int32) (30 : Int32) σ2) (fun r17 _ => (if r17 = 0 then k34 else ck (inb (0 : Int32) 5) ((if (gI σ2 32 (0 : Int32).toNatClampNeg) = (6 : Int32) then k34 else ck (inb (0 : Int32) 5) (ck (inb (gI σ2 32 (0 : Int32).toNatClampNeg) 30) (bn (pI σ2 33 (gI σ2 32 (0 : Int32).toNatClampNeg).toNatClampNeg p1) (fun σ47 => ck (inb (0 : Int32) 5) (ck (inb (gI σ47 32 (0 : Int32).toNatClampNeg) 30) (bn (pI σ47 34 (gI σ47 32 (0 : Int32).toNatClampNeg).toNatClampNeg p2) (fun σ59 => ck (inb (0 : Int32) 5) (ck (inb (gI σ59 32 (0 : Int32).toNatClampNeg) 30) (bn (pI σ59 35 (gI σ59 32 (0 : Int32).toNatClampNeg).toNatClampNeg (vp_nar .boolean p3)) (fun σ71 => ck (inb (0 : Int32) 5) (ck (inb (0 : Int32) 5) (bn (pI σ71 32 (0 : Int32).toNatClampNeg ((gI σ71 32 (0 : Int32).toNatClampNeg) + (1 : Int32))) (fun σ81 => some ((1 : Int32), σ81)))))))))))))))))))))
set_option maxHeartbeats 4000000 in
set_option maxRecDepth 100000 in
theorem x_X12_watch (p1 : Int32) (p2 : Int32) (p3 : Int32) (σ : Mm) : Con (wsOf SHM) yX12_watch cX12_watch 4 (some .boolean) 2 [.ref 0, .int p1, .int p2, .int p3] σ (f_X12_watch p1 p2 p3 σ) := by
  refine Con.of_X (by decide +kernel) (Nat.le_of_ble_eq_true rfl) ?_
  unfold f_X12_watch
  show X (wsOf SHM) RX12 cX12_watch 4 (some .boolean) 2 0 0 [(0, .ref 0), (1, .int p1), (2, .int p2), (3, .int p3)] [] σ _
  refine X_aload_n (pc := 0) (td kX12_watch 0 rfl) rfl 0 rfl ?_
  refine X_iconst (v := (0 : Int32)) (pc := 1) (td kX12_watch 1 rfl) (by decide) ?_
  refine X_putI (pc := 2) sM_0 rfl fk_X12_169 rfl rfl (td kX12_watch 2 rfl) (fun σ2 => ?_)
  refine X_aload_n (pc := 5) (td kX12_watch 3 rfl) rfl 0 rfl ?_
  refine X_iload_n (pc := 6) (td kX12_watch 4 rfl) rfl 1 rfl ?_
  refine X_callip (pc := 7) (As := [.int p1]) (st := []) (p_X12_isLane p1 σ2) sM_0 (x_X12_isLane p1 σ2) mkX12_isLane lk_X12_420 (by omega) rfl rfl (Nat.le_of_ble_eq_true rfl) (td kX12_watch 5 rfl) (fun r7 hr7 => ?_)
  refine X_jn (P := fun k => X (wsOf SHM) RX12 cX12_watch 4 (some .boolean) 2 0 34 [] [] σ2 k) ?_ (fun k34 h34 => ?_)
  · refine X_iconst (v := (0 : Int32)) (pc := 34) (td kX12_watch 18 rfl) (by decide) ?_
    exact X_ret (pc := 35) (td kX12_watch 19 rfl) rfl
  · refine X_if_eq (pc := 10) (tgt := 34) (td kX12_watch 6 rfl) (by decide) (fun c_10 => ?_) (fun c_10 => ?_)
    · refine X_sub [] rfl ?_
      exact h34
    · refine X_iload_n (pc := 13) (td kX12_watch 7 rfl) rfl 2 rfl ?_
      refine X_iconst (v := (0 : Int32)) (pc := 14) (td kX12_watch 8 rfl) (by decide) ?_
      refine X_bipush (v := (30 : Int32)) (pc := 15) (td kX12_watch 9 rfl) (by decide) ?_
      refine X_callsip (pc := 17) (As := [.int p2, .int (0 : Int32), .int (30 : Int32)]) (st := []) (p_X12_within p2 (0 : Int32) (30 : Int32) σ2) (x_X12_within p2 (0 : Int32) (30 : Int32) σ2) mkX12_within lk_X12_287 (by omega) rfl rfl (Nat.le_of_ble_eq_true rfl) (td kX12_watch 10 rfl) (fun r17 hr17 => ?_)
      refine X_if_eq (pc := 20) (tgt := 34) (td kX12_watch 11 rfl) (by decide) (fun c_20 => ?_) (fun c_20 => ?_)
      · refine X_sub [] rfl ?_
        exact h34
      · refine X_aload_n (pc := 23) (td kX12_watch 12 rfl) rfl 0 rfl ?_
        refine X_getF (b := 32) (pc := 24) sM_0 rfl fk_X12_105 (td kX12_watch 13 rfl) ?_
        refine X_iconst (v := (0 : Int32)) (pc := 27) (td kX12_watch 14 rfl) (by decide) ?_
        refine X_iald (pc := 28) sM_32 (td kX12_watch 15 rfl) ?_
        refine X_bipush (v := (6 : Int32)) (pc := 29) (td kX12_watch 16 rfl) (by decide) ?_
        refine X_icmp_ne (pc := 31) (tgt := 36) (td kX12_watch 17 rfl) (by decide) (fun c_31 => ?_) (fun c_31 => ?_)
        · refine X_aload_n (pc := 36) (td kX12_watch 20 rfl) rfl 0 rfl ?_
          refine X_getF (b := 33) (pc := 37) sM_0 rfl fk_X12_108 (td kX12_watch 21 rfl) ?_
          refine X_aload_n (pc := 40) (td kX12_watch 22 rfl) rfl 0 rfl ?_
          refine X_getF (b := 32) (pc := 41) sM_0 rfl fk_X12_105 (td kX12_watch 23 rfl) ?_
          refine X_iconst (v := (0 : Int32)) (pc := 44) (td kX12_watch 24 rfl) (by decide) ?_
          refine X_iald (pc := 45) sM_32 (td kX12_watch 25 rfl) ?_
          refine X_iload_n (pc := 46) (td kX12_watch 26 rfl) rfl 1 rfl ?_
          refine X_iast (pc := 47) sM_33 (td kX12_watch 27 rfl) (fun σ47 => ?_)
          refine X_aload_n (pc := 48) (td kX12_watch 28 rfl) rfl 0 rfl ?_
          refine X_getF (b := 34) (pc := 49) sM_0 rfl fk_X12_111 (td kX12_watch 29 rfl) ?_
          refine X_aload_n (pc := 52) (td kX12_watch 30 rfl) rfl 0 rfl ?_
          refine X_getF (b := 32) (pc := 53) sM_0 rfl fk_X12_105 (td kX12_watch 31 rfl) ?_
          refine X_iconst (v := (0 : Int32)) (pc := 56) (td kX12_watch 32 rfl) (by decide) ?_
          refine X_iald (pc := 57) sM_32 (td kX12_watch 33 rfl) ?_
          refine X_iload_n (pc := 58) (td kX12_watch 34 rfl) rfl 2 rfl ?_
          refine X_iast (pc := 59) sM_34 (td kX12_watch 35 rfl) (fun σ59 => ?_)
          refine X_aload_n (pc := 60) (td kX12_watch 36 rfl) rfl 0 rfl ?_
          refine X_getF (b := 35) (pc := 61) sM_0 rfl fk_X12_114 (td kX12_watch 37 rfl) ?_
          refine X_aload_n (pc := 64) (td kX12_watch 38 rfl) rfl 0 rfl ?_
          refine X_getF (b := 32) (pc := 65) sM_0 rfl fk_X12_105 (td kX12_watch 39 rfl) ?_
          refine X_iconst (v := (0 : Int32)) (pc := 68) (td kX12_watch 40 rfl) (by decide) ?_
          refine X_iald (pc := 69) sM_32 (td kX12_watch 41 rfl) ?_
          refine X_iload_n (pc := 70) (td kX12_watch 42 rfl) rfl 3 rfl ?_
          refine X_zast (pc := 71) sM_35 (td kX12_watch 43 rfl) (fun σ71 => ?_)
          refine X_aload_n (pc := 72) (td kX12_watch 44 rfl) rfl 0 rfl ?_
          refine X_getF (b := 32) (pc := 73) sM_0 rfl fk_X12_105 (td kX12_watch 45 rfl) ?_
          refine X_iconst (v := (0 : Int32)) (pc := 76) (td kX12_watch 46 rfl) (by decide) ?_
          refine X_dup2 (pc := 77) (td kX12_watch 47 rfl) rfl rfl ?_
          refine X_iald (pc := 78) sM_32 (td kX12_watch 48 rfl) ?_
          refine X_iconst (v := (1 : Int32)) (pc := 79) (td kX12_watch 49 rfl) (by decide) ?_
          refine X_iadd (pc := 80) (td kX12_watch 50 rfl) ?_
          refine X_iast (pc := 81) sM_32 (td kX12_watch 51 rfl) (fun σ81 => ?_)
          refine X_iconst (v := (1 : Int32)) (pc := 82) (td kX12_watch 52 rfl) (by decide) ?_
          exact X_ret (pc := 83) (td kX12_watch 53 rfl) rfl
        · refine X_sub [] rfl ?_
          exact h34
def f_X12_way (p1 : Int32) (p2 : Int32) (σ : Mm) : Option (Int32 × Mm) := bn (pI σ 0 0 (0 : Int32)) (fun σ2 => cl (f_X12_isPlace p1 σ2) (fun r7 _ => jn (some ((-1 : Int32), σ2)) (fun k51 => (if r7 = 0 then k51 else cl (f_X12_isPlace p2 σ2) (fun r15 _ => (if r15 = 0 then k51 else bn (((6 : Int32) * p1) + p2) (fun i_31 => ck (inb i_31 36) ((if (gI σ2 27 i_31.toNatClampNeg) < (99 : Int32) then bn (((6 : Int32) * p1) + p2) (fun i_47 => ck (inb i_47 36) (some ((gI σ2 27 i_47.toNatClampNeg), σ2))) else k51)))))))))
set_option maxHeartbeats 4000000 in
set_option maxRecDepth 100000 in
theorem x_X12_way (p1 : Int32) (p2 : Int32) (σ : Mm) : Con (wsOf SHM) yX12_way cX12_way 3 (some .int) 2 [.ref 0, .int p1, .int p2] σ (f_X12_way p1 p2 σ) := by
  refine Con.of_X (by decide +kernel) (Nat.le_of_ble_eq_true rfl) ?_
  unfold f_X12_way
  show X (wsOf SHM) RX12 cX12_way 3 (some .int) 2 0 0 [(0, .ref 0), (1, .int p1), (2, .int p2)] [] σ _
  refine X_aload_n (pc := 0) (td kX12_way 0 rfl) rfl 0 rfl ?_
  refine X_iconst (v := (0 : Int32)) (pc := 1) (td kX12_way 1 rfl) (by decide) ?_
  refine X_putI (pc := 2) sM_0 rfl fk_X12_169 rfl rfl (td kX12_way 2 rfl) (fun σ2 => ?_)
  refine X_aload_n (pc := 5) (td kX12_way 3 rfl) rfl 0 rfl ?_
  refine X_iload_n (pc := 6) (td kX12_way 4 rfl) rfl 1 rfl ?_
  refine X_callip (pc := 7) (As := [.int p1]) (st := []) (p_X12_isPlace p1 σ2) sM_0 (x_X12_isPlace p1 σ2) mkX12_isPlace lk_X12_426 (by omega) rfl rfl (Nat.le_of_ble_eq_true rfl) (td kX12_way 5 rfl) (fun r7 hr7 => ?_)
  refine X_jn (P := fun k => X (wsOf SHM) RX12 cX12_way 3 (some .int) 2 0 51 [] [] σ2 k) ?_ (fun k51 h51 => ?_)
  · refine X_iconst (v := (-1 : Int32)) (pc := 51) (td kX12_way 30 rfl) (by decide) ?_
    exact X_ret (pc := 52) (td kX12_way 31 rfl) rfl
  · refine X_if_eq (pc := 10) (tgt := 51) (td kX12_way 6 rfl) (by decide) (fun c_10 => ?_) (fun c_10 => ?_)
    · refine X_sub [] rfl ?_
      exact h51
    · refine X_aload_n (pc := 13) (td kX12_way 7 rfl) rfl 0 rfl ?_
      refine X_iload_n (pc := 14) (td kX12_way 8 rfl) rfl 2 rfl ?_
      refine X_callip (pc := 15) (As := [.int p2]) (st := []) (p_X12_isPlace p2 σ2) sM_0 (x_X12_isPlace p2 σ2) mkX12_isPlace lk_X12_426 (by omega) rfl rfl (Nat.le_of_ble_eq_true rfl) (td kX12_way 9 rfl) (fun r15 hr15 => ?_)
      refine X_if_eq (pc := 18) (tgt := 51) (td kX12_way 10 rfl) (by decide) (fun c_18 => ?_) (fun c_18 => ?_)
      · refine X_sub [] rfl ?_
        exact h51
      · refine X_aload_n (pc := 21) (td kX12_way 11 rfl) rfl 0 rfl ?_
        refine X_getF (b := 27) (pc := 22) sM_0 rfl fk_X12_90 (td kX12_way 12 rfl) ?_
        refine X_bipush (v := (6 : Int32)) (pc := 25) (td kX12_way 13 rfl) (by decide) ?_
        refine X_iload_n (pc := 27) (td kX12_way 14 rfl) rfl 1 rfl ?_
        refine X_imul (pc := 28) (td kX12_way 15 rfl) ?_
        refine X_iload_n (pc := 29) (td kX12_way 16 rfl) rfl 2 rfl ?_
        refine X_iadd (pc := 30) (td kX12_way 17 rfl) ?_
        refine X_bi (fun i_31 => ?_)
        refine X_iald (pc := 31) sM_27 (td kX12_way 18 rfl) ?_
        refine X_bipush (v := (99 : Int32)) (pc := 32) (td kX12_way 19 rfl) (by decide) ?_
        refine X_icmp_ge (pc := 34) (tgt := 51) (td kX12_way 20 rfl) (by decide) (fun c_34 => ?_) (fun c_34 => ?_)
        · refine X_sub [] rfl ?_
          exact h51
        · refine X_aload_n (pc := 37) (td kX12_way 21 rfl) rfl 0 rfl ?_
          refine X_getF (b := 27) (pc := 38) sM_0 rfl fk_X12_90 (td kX12_way 22 rfl) ?_
          refine X_bipush (v := (6 : Int32)) (pc := 41) (td kX12_way 23 rfl) (by decide) ?_
          refine X_iload_n (pc := 43) (td kX12_way 24 rfl) rfl 1 rfl ?_
          refine X_imul (pc := 44) (td kX12_way 25 rfl) ?_
          refine X_iload_n (pc := 45) (td kX12_way 26 rfl) rfl 2 rfl ?_
          refine X_iadd (pc := 46) (td kX12_way 27 rfl) ?_
          refine X_bi (fun i_47 => ?_)
          refine X_iald (pc := 47) sM_27 (td kX12_way 28 rfl) ?_
          refine X_goto (pc := 48) (tgt := 52) (td kX12_way 29 rfl) (by decide) ?_
          exact X_ret (pc := 52) (td kX12_way 31 rfl) rfl
