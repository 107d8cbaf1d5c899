def f_X9_firstLane (a0 : Nat) (p1 : Int32) (p2 : Int32) (σ : Mm) : Option (Int32 × Mm) := ck (isTown a0) (jn (fun (y0_29 : Int32) => (if y0_29 = 0 then some ((-1 : Int32), σ) else bn ((p1 * (6 : Int32)) + p2) (fun i_44 => ck (inb i_44 36) (some ((gI σ (a0 + 14) i_44.toNatClampNeg), σ))))) (fun k29 => jn (k29 (0 : Int32)) (fun k28 => (if p1 < 0 then k28 else (if p1 < (gI σ a0 0) then (if p2 < 0 then k28 else (if p2 < (gI σ a0 0) then k29 (1 : Int32) else k28)) else k28)))))
set_option maxHeartbeats 4000000 in
set_option maxRecDepth 100000 in
theorem x_X9_firstLane (a0 : Nat) (p1 : Int32) (p2 : Int32) (σ : Mm) : Con (wsOf SHC) yX9_firstLane cX9_firstLane 4 (some .int) 1 [.ref a0, .int p1, .int p2] σ (f_X9_firstLane a0 p1 p2 σ) := by
  refine Con.of_X (by decide +kernel) (Nat.le_of_ble_eq_true rfl) ?_
  unfold f_X9_firstLane
  show X (wsOf SHC) RX9 cX9_firstLane 4 (some .int) 1 0 0 [(0, .ref a0), (1, .int p1), (2, .int p2)] [] σ _
  refine X_ck (fun a0_h => ?_)
  obtain ⟨a0_s0, a0_s1, a0_s2, a0_s3, a0_s4, a0_s5, a0_s6, a0_s7, a0_s8, a0_s9, a0_s10, a0_s11, a0_s12, a0_s13, a0_s14⟩ := knTown a0_h
  refine X_iload_n (pc := 0) (td kX9_firstLane 0 rfl) rfl 1 rfl ?_
  refine X_jn (P := fun k => ∀ (y0_29 : Int32), X (wsOf SHC) RX9 cX9_firstLane 4 (some .int) 1 0 29 [(0, .ref a0), (1, .int p1), (2, .int p2)] [.int y0_29] σ (k y0_29)) (fun y0_29 => ?_) (fun k29 h29 => ?_)
  · refine X_istore_n (L' := [(3, .int y0_29), (0, .ref a0), (1, .int p1), (2, .int p2)]) (pc := 29) (td kX9_firstLane 15 rfl) rfl (by decide) rfl ?_
    refine X_iload_n (pc := 30) (td kX9_firstLane 16 rfl) rfl 0 rfl ?_
    refine X_if_eq (pc := 31) (tgt := 48) (td kX9_firstLane 17 rfl) (by decide) (fun c_31 => ?_) (fun c_31 => ?_)
    · refine X_iconst (v := (-1 : Int32)) (pc := 48) (td kX9_firstLane 27 rfl) (by decide) ?_
      exact X_ret (pc := 49) (td kX9_firstLane 28 rfl) rfl
    · refine X_aload_n (pc := 34) (td kX9_firstLane 18 rfl) rfl 1 rfl ?_
      refine X_getF (b := (a0 + 14)) (pc := 35) a0_s0 rfl fk_X9_54 (td kX9_firstLane 19 rfl) ?_
      refine X_iload_n (pc := 38) (td kX9_firstLane 20 rfl) rfl 2 rfl ?_
      refine X_bipush (v := (6 : Int32)) (pc := 39) (td kX9_firstLane 21 rfl) (by decide) ?_
      refine X_imul (pc := 41) (td kX9_firstLane 22 rfl) ?_
      refine X_iload_n (pc := 42) (td kX9_firstLane 23 rfl) rfl 3 rfl ?_
      refine X_iadd (pc := 43) (td kX9_firstLane 24 rfl) ?_
      refine X_bi (fun i_44 => ?_)
      refine X_iald (pc := 44) a0_s14 (td kX9_firstLane 25 rfl) ?_
      refine X_goto (pc := 45) (tgt := 49) (td kX9_firstLane 26 rfl) (by decide) ?_
      exact X_ret (pc := 49) (td kX9_firstLane 28 rfl) rfl
  · refine X_jn (P := fun k => X (wsOf SHC) RX9 cX9_firstLane 4 (some .int) 1 0 28 [(0, .ref a0), (1, .int p1), (2, .int p2)] [] σ k) ?_ (fun k28 h28 => ?_)
    · refine X_iconst (v := (0 : Int32)) (pc := 28) (td kX9_firstLane 14 rfl) (by decide) ?_
      exact h29 (0 : Int32)
    · refine X_if_lt (pc := 1) (tgt := 28) (td kX9_firstLane 1 rfl) (by decide) (fun c_1 => ?_) (fun c_1 => ?_)
      · exact h28
      · refine X_iload_n (pc := 4) (td kX9_firstLane 2 rfl) rfl 1 rfl ?_
        refine X_aload_n (pc := 5) (td kX9_firstLane 3 rfl) rfl 0 rfl ?_
        refine X_getI (pc := 6) a0_s0 rfl fk_X9_57 (td kX9_firstLane 4 rfl) ?_
        refine X_icmp_ge (pc := 9) (tgt := 28) (td kX9_firstLane 5 rfl) (by decide) (fun c_9 => ?_) (fun c_9 => ?_)
        · exact h28
        · refine X_iload_n (pc := 12) (td kX9_firstLane 6 rfl) rfl 2 rfl ?_
          refine X_if_lt (pc := 13) (tgt := 28) (td kX9_firstLane 7 rfl) (by decide) (fun c_13 => ?_) (fun c_13 => ?_)
          · exact h28
          · refine X_iload_n (pc := 16) (td kX9_firstLane 8 rfl) rfl 2 rfl ?_
            refine X_aload_n (pc := 17) (td kX9_firstLane 9 rfl) rfl 0 rfl ?_
            refine X_getI (pc := 18) a0_s0 rfl fk_X9_57 (td kX9_firstLane 10 rfl) ?_
            refine X_icmp_ge (pc := 21) (tgt := 28) (td kX9_firstLane 11 rfl) (by decide) (fun c_21 => ?_) (fun c_21 => ?_)
            · exact h28
            · refine X_iconst (v := (1 : Int32)) (pc := 24) (td kX9_firstLane 12 rfl) (by decide) ?_
              refine X_goto (pc := 25) (tgt := 29) (td kX9_firstLane 13 rfl) (by decide) ?_
              exact h29 (1 : Int32)
set_option maxHeartbeats 4000000 in
theorem p_X9_firstLane (a0 : Nat) (p1 : Int32) (p2 : Int32) (σ : Mm) : Pu σ (f_X9_firstLane a0 p1 p2 σ) := by
  unfold f_X9_firstLane
  refine Pu_ck ?_
  refine Pu_jn (fun k => ∀ (y0_29 : Int32), Pu σ (k y0_29)) (fun y0_29 => ?_) (fun k29 h29 => ?_)
  · refine Pu_if ?_ ?_
    · exact Pu_some
    · refine Pu_bn (fun _ => ?_)
      refine Pu_ck ?_
      exact Pu_some
  · refine Pu_jn (fun k => Pu σ (k)) ?_ (fun k28 h28 => ?_)
    · exact h29 _
    · refine Pu_if ?_ ?_
      · exact h28
      · refine Pu_if ?_ ?_
        · refine Pu_if ?_ ?_
          · exact h28
          · refine Pu_if ?_ ?_
            · exact h29 _
            · exact h28
        · exact h28
def f_X9_hasLane (a0 : Nat) (p1 : Int32) (σ : Mm) : Option (Int32 × Mm) := ck (isTown a0) (jn (some ((0 : Int32), σ)) (fun k16 => (if p1 < 0 then k16 else (if p1 < (gI σ a0 1) then some ((1 : Int32), σ) else k16))))
set_option maxHeartbeats 4000000 in
set_option maxRecDepth 100000 in
theorem x_X9_hasLane (a0 : Nat) (p1 : Int32) (σ : Mm) : Con (wsOf SHC) yX9_hasLane cX9_hasLane 2 (some .boolean) 1 [.ref a0, .int p1] σ (f_X9_hasLane a0 p1 σ) := by
  refine Con.of_X (by decide +kernel) (Nat.le_of_ble_eq_true rfl) ?_
  unfold f_X9_hasLane
  show X (wsOf SHC) RX9 cX9_hasLane 2 (some .boolean) 1 0 0 [(0, .ref a0), (1, .int p1)] [] σ _
  refine X_ck (fun a0_h => ?_)
  obtain ⟨a0_s0, a0_s1, a0_s2, a0_s3, a0_s4, a0_s5, a0_s6, a0_s7, a0_s8, a0_s9, a0_s10, a0_s11, a0_s12, a0_s13, a0_s14⟩ := knTown a0_h
  refine X_iload_n (pc := 0) (td kX9_hasLane 0 rfl) rfl 1 rfl ?_
  refine X_jn (P := fun k => X (wsOf SHC) RX9 cX9_hasLane 2 (some .boolean) 1 0 16 [] [] σ k) ?_ (fun k16 h16 => ?_)
  · refine X_iconst (v := (0 : Int32)) (pc := 16) (td kX9_hasLane 8 rfl) (by decide) ?_
    exact X_ret (pc := 17) (td kX9_hasLane 9 rfl) rfl
  · refine X_if_lt (pc := 1) (tgt := 16) (td kX9_hasLane 1 rfl) (by decide) (fun c_1 => ?_) (fun c_1 => ?_)
    · refine X_sub [] rfl ?_
      exact h16
    · refine X_iload_n (pc := 4) (td kX9_hasLane 2 rfl) rfl 1 rfl ?_
      refine X_aload_n (pc := 5) (td kX9_hasLane 3 rfl) rfl 0 rfl ?_
      refine X_getI (pc := 6) a0_s0 rfl fk_X9_60 (td kX9_hasLane 4 rfl) ?_
      refine X_icmp_ge (pc := 9) (tgt := 16) (td kX9_hasLane 5 rfl) (by decide) (fun c_9 => ?_) (fun c_9 => ?_)
      · refine X_sub [] rfl ?_
        exact h16
      · refine X_iconst (v := (1 : Int32)) (pc := 12) (td kX9_hasLane 6 rfl) (by decide) ?_
        refine X_goto (pc := 13) (tgt := 17) (td kX9_hasLane 7 rfl) (by decide) ?_
        exact X_ret (pc := 17) (td kX9_hasLane 9 rfl) rfl
set_option maxHeartbeats 4000000 in
theorem p_X9_hasLane (a0 : Nat) (p1 : Int32) (σ : Mm) : Pu σ (f_X9_hasLane a0 p1 σ) := by
  unfold f_X9_hasLane
  refine Pu_ck ?_
  refine Pu_jn (fun k => Pu σ (k)) ?_ (fun k16 h16 => ?_)
  · exact Pu_some
  · refine Pu_if ?_ ?_
    · exact h16
    · refine Pu_if ?_ ?_
      · exact Pu_some
      · exact h16
def f_X9_otherEnd (a0 : Nat) (p1 : Int32) (p2 : Int32) (σ : Mm) : Option (Int32 × Mm) := ck (isTown a0) (cl (f_X9_hasLane a0 p1 σ) (fun r2 _ => (if r2 = 0 then some (p2, σ) else ck (inb p1 8) ((if (gI σ (a0 + 5) p1.toNatClampNeg) = p2 then ck (inb p1 8) (some ((gI σ (a0 + 6) p1.toNatClampNeg), σ)) else ck (inb p1 8) (some ((gI σ (a0 + 5) p1.toNatClampNeg), σ)))))))
set_option maxHeartbeats 4000000 in
set_option maxRecDepth 100000 in
theorem x_X9_otherEnd (a0 : Nat) (p1 : Int32) (p2 : Int32) (σ : Mm) : Con (wsOf SHC) yX9_otherEnd cX9_otherEnd 3 (some .int) 2 [.ref a0, .int p1, .int p2] σ (f_X9_otherEnd a0 p1 p2 σ) := by
  refine Con.of_X (by decide +kernel) (Nat.le_of_ble_eq_true rfl) ?_
  unfold f_X9_otherEnd
  show X (wsOf SHC) RX9 cX9_otherEnd 3 (some .int) 2 0 0 [(0, .ref a0), (1, .int p1), (2, .int p2)] [] σ _
  refine X_ck (fun a0_h => ?_)
  obtain ⟨a0_s0, a0_s1, a0_s2, a0_s3, a0_s4, a0_s5, a0_s6, a0_s7, a0_s8, a0_s9, a0_s10, a0_s11, a0_s12, a0_s13, a0_s14⟩ := knTown a0_h
  refine X_aload_n (pc := 0) (td kX9_otherEnd 0 rfl) rfl 0 rfl ?_
  refine X_iload_n (pc := 1) (td kX9_otherEnd 1 rfl) rfl 1 rfl ?_
  refine X_callip (pc := 2) (As := [.int p1]) (st := []) (p_X9_hasLane a0 p1 σ) a0_s0 (x_X9_hasLane a0 p1 σ) mkX9_hasLane lk_X9_73 (by omega) rfl rfl (Nat.le_of_ble_eq_true rfl) (td kX9_otherEnd 2 rfl) (fun r2 hr2 => ?_)
  refine X_if_ne (pc := 5) (tgt := 10) (td kX9_otherEnd 3 rfl) (by decide) (fun c_5 => ?_) (fun c_5 => ?_)
  · refine X_aload_n (pc := 10) (td kX9_otherEnd 6 rfl) rfl 0 rfl ?_
    refine X_getF (b := (a0 + 5)) (pc := 11) a0_s0 rfl fk_X9_26 (td kX9_otherEnd 7 rfl) ?_
    refine X_iload_n (pc := 14) (td kX9_otherEnd 8 rfl) rfl 1 rfl ?_
    refine X_iald (pc := 15) a0_s5 (td kX9_otherEnd 9 rfl) ?_
    refine X_iload_n (pc := 16) (td kX9_otherEnd 10 rfl) rfl 2 rfl ?_
    refine X_icmp_ne (pc := 17) (tgt := 29) (td kX9_otherEnd 11 rfl) (by decide) (fun c_17 => ?_) (fun c_17 => ?_)
    · refine X_aload_n (pc := 29) (td kX9_otherEnd 17 rfl) rfl 0 rfl ?_
      refine X_getF (b := (a0 + 5)) (pc := 30) a0_s0 rfl fk_X9_26 (td kX9_otherEnd 18 rfl) ?_
      refine X_iload_n (pc := 33) (td kX9_otherEnd 19 rfl) rfl 1 rfl ?_
      refine X_iald (pc := 34) a0_s5 (td kX9_otherEnd 20 rfl) ?_
      exact X_ret (pc := 35) (td kX9_otherEnd 21 rfl) rfl
    · refine X_aload_n (pc := 20) (td kX9_otherEnd 12 rfl) rfl 0 rfl ?_
      refine X_getF (b := (a0 + 6)) (pc := 21) a0_s0 rfl fk_X9_30 (td kX9_otherEnd 13 rfl) ?_
      refine X_iload_n (pc := 24) (td kX9_otherEnd 14 rfl) rfl 1 rfl ?_
      refine X_iald (pc := 25) a0_s6 (td kX9_otherEnd 15 rfl) ?_
      refine X_goto (pc := 26) (tgt := 35) (td kX9_otherEnd 16 rfl) (by decide) ?_
      exact X_ret (pc := 35) (td kX9_otherEnd 21 rfl) rfl
  · refine X_iload_n (pc := 8) (td kX9_otherEnd 4 rfl) rfl 2 rfl ?_
    exact X_ret (pc := 9) (td kX9_otherEnd 5 rfl) rfl
set_option maxHeartbeats 4000000 in
theorem p_X9_otherEnd (a0 : Nat) (p1 : Int32) (p2 : Int32) (σ : Mm) : Pu σ (f_X9_otherEnd a0 p1 p2 σ) := by
  unfold f_X9_otherEnd
  refine Pu_ck ?_
  refine Pu_cl (fun _ _ => ?_)
  refine Pu_if ?_ ?_
  · exact Pu_some
  · refine Pu_ck ?_
    refine Pu_if ?_ ?_
    · refine Pu_ck ?_
      exact Pu_some
    · refine Pu_ck ?_
      exact Pu_some
def f_X9_hasWalker (a0 : Nat) (p1 : Int32) (σ : Mm) : Option (Int32 × Mm) := ck (isTown a0) (jn (some ((0 : Int32), σ)) (fun k16 => (if p1 < 0 then k16 else (if p1 < (gI σ a0 2) then some ((1 : Int32), σ) else k16))))
set_option maxHeartbeats 4000000 in
set_option maxRecDepth 100000 in
theorem x_X9_hasWalker (a0 : Nat) (p1 : Int32) (σ : Mm) : Con (wsOf SHC) yX9_hasWalker cX9_hasWalker 2 (some .boolean) 1 [.ref a0, .int p1] σ (f_X9_hasWalker a0 p1 σ) := by
  refine Con.of_X (by decide +kernel) (Nat.le_of_ble_eq_true rfl) ?_
  unfold f_X9_hasWalker
  show X (wsOf SHC) RX9 cX9_hasWalker 2 (some .boolean) 1 0 0 [(0, .ref a0), (1, .int p1)] [] σ _
  refine X_ck (fun a0_h => ?_)
  obtain ⟨a0_s0, a0_s1, a0_s2, a0_s3, a0_s4, a0_s5, a0_s6, a0_s7, a0_s8, a0_s9, a0_s10, a0_s11, a0_s12, a0_s13, a0_s14⟩ := knTown a0_h
  refine X_iload_n (pc := 0) (td kX9_hasWalker 0 rfl) rfl 1 rfl ?_
  refine X_jn (P := fun k => X (wsOf SHC) RX9 cX9_hasWalker 2 (some .boolean) 1 0 16 [] [] σ k) ?_ (fun k16 h16 => ?_)
  · refine X_iconst (v := (0 : Int32)) (pc := 16) (td kX9_hasWalker 8 rfl) (by decide) ?_
    exact X_ret (pc := 17) (td kX9_hasWalker 9 rfl) rfl
  · refine X_if_lt (pc := 1) (tgt := 16) (td kX9_hasWalker 1 rfl) (by decide) (fun c_1 => ?_) (fun c_1 => ?_)
    · refine X_sub [] rfl ?_
      exact h16
    · refine X_iload_n (pc := 4) (td kX9_hasWalker 2 rfl) rfl 1 rfl ?_
      refine X_aload_n (pc := 5) (td kX9_hasWalker 3 rfl) rfl 0 rfl ?_
      refine X_getI (pc := 6) a0_s0 rfl fk_X9_63 (td kX9_hasWalker 4 rfl) ?_
      refine X_icmp_ge (pc := 9) (tgt := 16) (td kX9_hasWalker 5 rfl) (by decide) (fun c_9 => ?_) (fun c_9 => ?_)
      · refine X_sub [] rfl ?_
        exact h16
      · refine X_iconst (v := (1 : Int32)) (pc := 12) (td kX9_hasWalker 6 rfl) (by decide) ?_
        refine X_goto (pc := 13) (tgt := 17) (td kX9_hasWalker 7 rfl) (by decide) ?_
        exact X_ret (pc := 17) (td kX9_hasWalker 9 rfl) rfl
set_option maxHeartbeats 4000000 in
theorem p_X9_hasWalker (a0 : Nat) (p1 : Int32) (σ : Mm) : Pu σ (f_X9_hasWalker a0 p1 σ) := by
  unfold f_X9_hasWalker
  refine Pu_ck ?_
  refine Pu_jn (fun k => Pu σ (k)) ?_ (fun k16 h16 => ?_)
  · exact Pu_some
  · refine Pu_if ?_ ?_
    · exact h16
    · refine Pu_if ?_ ?_
      · exact Pu_some
      · exact h16
def F_X9_laneBetween_2 (a0 : Nat) (p1 : Int32) (p2 : Int32) (σ : Mm) (k58 : Option (Int32 × Mm)) (rec2 : Int32 → Option (Int32 × Mm)) (x3_2 : Int32) : Option (Int32 × Mm) := (if x3_2 < (gI σ a0 1) then ck (inb x3_2 8) (jn (some (x3_2, σ)) (fun k50 => jn (ck (inb x3_2 8) (jn (rec2 (x3_2 + (1 : Int32))) (fun k52 => (if (gI σ (a0 + 5) x3_2.toNatClampNeg) = p2 then ck (inb x3_2 8) ((if (gI σ (a0 + 6) x3_2.toNatClampNeg) = p1 then k50 else k52)) else k52)))) (fun k30 => (if (gI σ (a0 + 5) x3_2.toNatClampNeg) = p1 then ck (inb x3_2 8) ((if (gI σ (a0 + 6) x3_2.toNatClampNeg) = p2 then k50 else k30)) else k30)))) else k58)
def f_X9_laneBetween (a0 : Nat) (p1 : Int32) (p2 : Int32) (σ : Mm) : Option (Int32 × Mm) := ck (isTown a0) (jn (some ((-1 : Int32), σ)) (fun k58 => lq1 (F_X9_laneBetween_2 a0 p1 p2 σ k58) 1000000 (0 : Int32)))
set_option maxHeartbeats 4000000 in
set_option maxRecDepth 100000 in
theorem x_X9_laneBetween (a0 : Nat) (p1 : Int32) (p2 : Int32) (σ : Mm) : Con (wsOf SHC) yX9_laneBetween cX9_laneBetween 4 (some .int) 1 [.ref a0, .int p1, .int p2] σ (f_X9_laneBetween a0 p1 p2 σ) := by
  refine Con.of_X (by decide +kernel) (Nat.le_of_ble_eq_true rfl) ?_
  unfold f_X9_laneBetween
  show X (wsOf SHC) RX9 cX9_laneBetween 4 (some .int) 1 0 0 [(0, .ref a0), (1, .int p1), (2, .int p2)] [] σ _
  refine X_ck (fun a0_h => ?_)
  obtain ⟨a0_s0, a0_s1, a0_s2, a0_s3, a0_s4, a0_s5, a0_s6, a0_s7, a0_s8, a0_s9, a0_s10, a0_s11, a0_s12, a0_s13, a0_s14⟩ := knTown a0_h
  refine X_iconst (v := (0 : Int32)) (pc := 0) (td kX9_laneBetween 0 rfl) (by decide) ?_
  refine X_istore_n (L' := [(3, .int (0 : Int32)), (0, .ref a0), (1, .int p1), (2, .int p2)]) (pc := 1) (td kX9_laneBetween 1 rfl) rfl (by decide) rfl ?_
  refine X_jn (P := fun k => X (wsOf SHC) RX9 cX9_laneBetween 4 (some .int) 1 0 58 [] [] σ k) ?_ (fun k58 h58 => ?_)
  · refine X_iconst (v := (-1 : Int32)) (pc := 58) (td kX9_laneBetween 34 rfl) (by decide) ?_
    exact X_ret (pc := 59) (td kX9_laneBetween 35 rfl) rfl
  · refine X_sub [1, 2, 3, 0] rfl ?_
    refine lq1_ind (P := fun x3_2 E => X (wsOf SHC) RX9 cX9_laneBetween 4 (some .int) 1 0 2 [(0, .ref a0), (1, .int p1), (2, .int p2), (3, .int x3_2)] [] σ E) (fun _ => X_none) (fun rec2 hrec2 x3_2 => ?_) _ _
    unfold F_X9_laneBetween_2
    refine X_iload_n (pc := 2) (td kX9_laneBetween 2 rfl) rfl 3 rfl ?_
    refine X_aload_n (pc := 3) (td kX9_laneBetween 3 rfl) rfl 0 rfl ?_
    refine X_getI (pc := 4) a0_s0 rfl fk_X9_60 (td kX9_laneBetween 4 rfl) ?_
    refine X_icmp_ge (pc := 7) (tgt := 58) (td kX9_laneBetween 5 rfl) (by decide) (fun c_7 => ?_) (fun c_7 => ?_)
    · refine X_sub [] rfl ?_
      exact h58
    · refine X_aload_n (pc := 10) (td kX9_laneBetween 6 rfl) rfl 0 rfl ?_
      refine X_getF (b := (a0 + 5)) (pc := 11) a0_s0 rfl fk_X9_26 (td kX9_laneBetween 7 rfl) ?_
      refine X_iload_n (pc := 14) (td kX9_laneBetween 8 rfl) rfl 3 rfl ?_
      refine X_iald (pc := 15) a0_s5 (td kX9_laneBetween 9 rfl) ?_
      refine X_iload_n (pc := 16) (td kX9_laneBetween 10 rfl) rfl 1 rfl ?_
      refine X_jn (P := fun k => X (wsOf SHC) RX9 cX9_laneBetween 4 (some .int) 1 0 50 [(3, .int x3_2)] [] σ k) ?_ (fun k50 h50 => ?_)
      · refine X_iload_n (pc := 50) (td kX9_laneBetween 30 rfl) rfl 0 rfl ?_
        exact X_ret (pc := 51) (td kX9_laneBetween 31 rfl) rfl
      · refine X_jn (P := fun k => X (wsOf SHC) RX9 cX9_laneBetween 4 (some .int) 1 0 30 [(0, .ref a0), (1, .int p1), (2, .int p2), (3, .int x3_2)] [] σ k) ?_ (fun k30 h30 => ?_)
        · refine X_aload_n (pc := 30) (td kX9_laneBetween 18 rfl) rfl 0 rfl ?_
          refine X_getF (b := (a0 + 5)) (pc := 31) a0_s0 rfl fk_X9_26 (td kX9_laneBetween 19 rfl) ?_
          refine X_iload_n (pc := 34) (td kX9_laneBetween 20 rfl) rfl 3 rfl ?_
          refine X_iald (pc := 35) a0_s5 (td kX9_laneBetween 21 rfl) ?_
          refine X_iload_n (pc := 36) (td kX9_laneBetween 22 rfl) rfl 2 rfl ?_
          refine X_jn (P := fun k => X (wsOf SHC) RX9 cX9_laneBetween 4 (some .int) 1 0 52 [(0, .ref a0), (1, .int p1), (2, .int p2), (3, .int x3_2)] [] σ k) ?_ (fun k52 h52 => ?_)
          · refine X_iinc (v := (x3_2 + (1 : Int32))) (L' := [(3, .int (x3_2 + (1 : Int32))), (0, .ref a0), (1, .int p1), (2, .int p2)]) (pc := 52) (td kX9_laneBetween 32 rfl) 3 rfl rfl (by decide) rfl ?_
            refine X_goto (pc := 55) (tgt := 2) (td kX9_laneBetween 33 rfl) (by decide) ?_
            refine X_sub [1, 2, 3, 0] rfl ?_
            exact hrec2 (x3_2 + (1 : Int32))
          · refine X_icmp_ne (pc := 37) (tgt := 52) (td kX9_laneBetween 23 rfl) (by decide) (fun c_37 => ?_) (fun c_37 => ?_)
            · exact h52
            · refine X_aload_n (pc := 40) (td kX9_laneBetween 24 rfl) rfl 0 rfl ?_
              refine X_getF (b := (a0 + 6)) (pc := 41) a0_s0 rfl fk_X9_30 (td kX9_laneBetween 25 rfl) ?_
              refine X_iload_n (pc := 44) (td kX9_laneBetween 26 rfl) rfl 3 rfl ?_
              refine X_iald (pc := 45) a0_s6 (td kX9_laneBetween 27 rfl) ?_
              refine X_iload_n (pc := 46) (td kX9_laneBetween 28 rfl) rfl 1 rfl ?_
              refine X_icmp_ne (pc := 47) (tgt := 52) (td kX9_laneBetween 29 rfl) (by decide) (fun c_47 => ?_) (fun c_47 => ?_)
              · exact h52
              · refine X_sub [3] rfl ?_
                exact h50
        · refine X_icmp_ne (pc := 17) (tgt := 30) (td kX9_laneBetween 11 rfl) (by decide) (fun c_17 => ?_) (fun c_17 => ?_)
          · exact h30
          · refine X_aload_n (pc := 20) (td kX9_laneBetween 12 rfl) rfl 0 rfl ?_
            refine X_getF (b := (a0 + 6)) (pc := 21) a0_s0 rfl fk_X9_30 (td kX9_laneBetween 13 rfl) ?_
            refine X_iload_n (pc := 24) (td kX9_laneBetween 14 rfl) rfl 3 rfl ?_
            refine X_iald (pc := 25) a0_s6 (td kX9_laneBetween 15 rfl) ?_
            refine X_iload_n (pc := 26) (td kX9_laneBetween 16 rfl) rfl 2 rfl ?_
            refine X_icmp_eq (pc := 27) (tgt := 50) (td kX9_laneBetween 17 rfl) (by decide) (fun c_27 => ?_) (fun c_27 => ?_)
            · refine X_sub [3] rfl ?_
              exact h50
            · exact h30
set_option maxHeartbeats 4000000 in
theorem p_X9_laneBetween (a0 : Nat) (p1 : Int32) (p2 : Int32) (σ : Mm) : Pu σ (f_X9_laneBetween a0 p1 p2 σ) := by
  unfold f_X9_laneBetween
  refine Pu_ck ?_
  refine Pu_jn (fun k => Pu σ (k)) ?_ (fun k58 h58 => ?_)
  · exact Pu_some
  · refine lq1_ind (P := fun _ E => Pu σ E) (fun _ => Pu_none) (fun rec2 hrec2 x3_2 => ?_) _ _
    unfold F_X9_laneBetween_2
    refine Pu_if ?_ ?_
    · refine Pu_ck ?_
      refine Pu_jn (fun k => Pu σ (k)) ?_ (fun k50 h50 => ?_)
      · exact Pu_some
      · refine Pu_jn (fun k => Pu σ (k)) ?_ (fun k30 h30 => ?_)
        · refine Pu_ck ?_
          refine Pu_jn (fun k => Pu σ (k)) ?_ (fun k52 h52 => ?_)
          · exact hrec2 _
          · refine Pu_if ?_ ?_
            · refine Pu_ck ?_
              refine Pu_if ?_ ?_
              · exact h50
              · exact h52
            · exact h52
        · refine Pu_if ?_ ?_
          · refine Pu_ck ?_
            refine Pu_if ?_ ?_
            · exact h50
            · exact h30
          · exact h30
    · exact h58
def F_X9_placeNamed_2 (a0 : Nat) (p1 : Int64) (σ : Mm) (k29 : Option (Int32 × Mm)) (rec2 : Int32 → Option (Int32 × Mm)) (x3_2 : Int32) : Option (Int32 × Mm) := (if x3_2 < (gI σ a0 0) then ck (inb x3_2 6) ((if (lg_cmp (gL σ (a0 + 4) x3_2.toNatClampNeg) p1) = 0 then some (x3_2, σ) else rec2 (x3_2 + (1 : Int32)))) else k29)
def f_X9_placeNamed (a0 : Nat) (p1 : Int64) (σ : Mm) : Option (Int32 × Mm) := ck (isTown a0) (jn (some ((-1 : Int32), σ)) (fun k29 => lq1 (F_X9_placeNamed_2 a0 p1 σ k29) 1000000 (0 : Int32)))
set_option maxHeartbeats 4000000 in
set_option maxRecDepth 100000 in
theorem x_X9_placeNamed (a0 : Nat) (p1 : Int64) (σ : Mm) : Con (wsOf SHC) yX9_placeNamed cX9_placeNamed 4 (some .int) 1 [.ref a0, .long p1] σ (f_X9_placeNamed a0 p1 σ) := by
  refine Con.of_X (by decide +kernel) (Nat.le_of_ble_eq_true rfl) ?_
  unfold f_X9_placeNamed
  show X (wsOf SHC) RX9 cX9_placeNamed 4 (some .int) 1 0 0 [(0, .ref a0), (1, .long p1)] [] σ _
  refine X_ck (fun a0_h => ?_)
  obtain ⟨a0_s0, a0_s1, a0_s2, a0_s3, a0_s4, a0_s5, a0_s6, a0_s7, a0_s8, a0_s9, a0_s10, a0_s11, a0_s12, a0_s13, a0_s14⟩ := knTown a0_h
  refine X_iconst (v := (0 : Int32)) (pc := 0) (td kX9_placeNamed 0 rfl) (by decide) ?_
  refine X_istore_n (L' := [(3, .int (0 : Int32)), (0, .ref a0), (1, .long p1)]) (pc := 1) (td kX9_placeNamed 1 rfl) rfl (by decide) rfl ?_
  refine X_jn (P := fun k => X (wsOf SHC) RX9 cX9_placeNamed 4 (some .int) 1 0 29 [] [] σ k) ?_ (fun k29 h29 => ?_)
  · refine X_iconst (v := (-1 : Int32)) (pc := 29) (td kX9_placeNamed 17 rfl) (by decide) ?_
    exact X_ret (pc := 30) (td kX9_placeNamed 18 rfl) rfl
  · refine X_sub [1, 2, 0] rfl ?_
    refine lq1_ind (P := fun x3_2 E => X (wsOf SHC) RX9 cX9_placeNamed 4 (some .int) 1 0 2 [(0, .ref a0), (1, .long p1), (3, .int x3_2)] [] σ E) (fun _ => X_none) (fun rec2 hrec2 x3_2 => ?_) _ _
    unfold F_X9_placeNamed_2
    refine X_iload_n (pc := 2) (td kX9_placeNamed 2 rfl) rfl 2 rfl ?_
    refine X_aload_n (pc := 3) (td kX9_placeNamed 3 rfl) rfl 0 rfl ?_
    refine X_getI (pc := 4) a0_s0 rfl fk_X9_57 (td kX9_placeNamed 4 rfl) ?_
    refine X_icmp_ge (pc := 7) (tgt := 29) (td kX9_placeNamed 5 rfl) (by decide) (fun c_7 => ?_) (fun c_7 => ?_)
    · refine X_sub [] rfl ?_
      exact h29
    · refine X_aload_n (pc := 10) (td kX9_placeNamed 6 rfl) rfl 0 rfl ?_
      refine X_getF (b := (a0 + 4)) (pc := 11) a0_s0 rfl fk_X9_22 (td kX9_placeNamed 7 rfl) ?_
      refine X_iload_n (pc := 14) (td kX9_placeNamed 8 rfl) rfl 2 rfl ?_
      refine X_lald (pc := 15) a0_s4 (td kX9_placeNamed 9 rfl) ?_
      refine X_lload_n (pc := 16) (td kX9_placeNamed 10 rfl) rfl 1 rfl ?_
      refine X_lcmp (pc := 17) (td kX9_placeNamed 11 rfl) ?_
      refine X_if_ne (pc := 18) (tgt := 23) (td kX9_placeNamed 12 rfl) (by decide) (fun c_18 => ?_) (fun c_18 => ?_)
      · refine X_iinc (v := (x3_2 + (1 : Int32))) (L' := [(3, .int (x3_2 + (1 : Int32))), (0, .ref a0), (1, .long p1)]) (pc := 23) (td kX9_placeNamed 15 rfl) 2 rfl rfl (by decide) rfl ?_
        refine X_goto (pc := 26) (tgt := 2) (td kX9_placeNamed 16 rfl) (by decide) ?_
        refine X_sub [1, 2, 0] rfl ?_
        exact hrec2 (x3_2 + (1 : Int32))
      · refine X_iload_n (pc := 21) (td kX9_placeNamed 13 rfl) rfl 2 rfl ?_
        exact X_ret (pc := 22) (td kX9_placeNamed 14 rfl) rfl
set_option maxHeartbeats 4000000 in
theorem p_X9_placeNamed (a0 : Nat) (p1 : Int64) (σ : Mm) : Pu σ (f_X9_placeNamed a0 p1 σ) := by
  unfold f_X9_placeNamed
  refine Pu_ck ?_
  refine Pu_jn (fun k => Pu σ (k)) ?_ (fun k29 h29 => ?_)
  · exact Pu_some
  · refine lq1_ind (P := fun _ E => Pu σ E) (fun _ => Pu_none) (fun rec2 hrec2 x3_2 => ?_) _ _
    unfold F_X9_placeNamed_2
    refine Pu_if ?_ ?_
    · refine Pu_ck ?_
      refine Pu_if ?_ ?_
      · exact Pu_some
      · exact hrec2 _
    · exact h29
def F_X9_walkerNamed_2 (a0 : Nat) (p1 : Int64) (σ : Mm) (k29 : Option (Int32 × Mm)) (rec2 : Int32 → Option (Int32 × Mm)) (x3_2 : Int32) : Option (Int32 × Mm) := (if x3_2 < (gI σ a0 2) then ck (inb x3_2 6) ((if (lg_cmp (gL σ (a0 + 8) x3_2.toNatClampNeg) p1) = 0 then some (x3_2, σ) else rec2 (x3_2 + (1 : Int32)))) else k29)
def f_X9_walkerNamed (a0 : Nat) (p1 : Int64) (σ : Mm) : Option (Int32 × Mm) := ck (isTown a0) (jn (some ((-1 : Int32), σ)) (fun k29 => lq1 (F_X9_walkerNamed_2 a0 p1 σ k29) 1000000 (0 : Int32)))
set_option maxHeartbeats 4000000 in
set_option maxRecDepth 100000 in
theorem x_X9_walkerNamed (a0 : Nat) (p1 : Int64) (σ : Mm) : Con (wsOf SHC) yX9_walkerNamed cX9_walkerNamed 4 (some .int) 1 [.ref a0, .long p1] σ (f_X9_walkerNamed a0 p1 σ) := by
  refine Con.of_X (by decide +kernel) (Nat.le_of_ble_eq_true rfl) ?_
  unfold f_X9_walkerNamed
  show X (wsOf SHC) RX9 cX9_walkerNamed 4 (some .int) 1 0 0 [(0, .ref a0), (1, .long p1)] [] σ _
  refine X_ck (fun a0_h => ?_)
  obtain ⟨a0_s0, a0_s1, a0_s2, a0_s3, a0_s4, a0_s5, a0_s6, a0_s7, a0_s8, a0_s9, a0_s10, a0_s11, a0_s12, a0_s13, a0_s14⟩ := knTown a0_h
  refine X_iconst (v := (0 : Int32)) (pc := 0) (td kX9_walkerNamed 0 rfl) (by decide) ?_
  refine X_istore_n (L' := [(3, .int (0 : Int32)), (0, .ref a0), (1, .long p1)]) (pc := 1) (td kX9_walkerNamed 1 rfl) rfl (by decide) rfl ?_
  refine X_jn (P := fun k => X (wsOf SHC) RX9 cX9_walkerNamed 4 (some .int) 1 0 29 [] [] σ k) ?_ (fun k29 h29 => ?_)
  · refine X_iconst (v := (-1 : Int32)) (pc := 29) (td kX9_walkerNamed 17 rfl) (by decide) ?_
    exact X_ret (pc := 30) (td kX9_walkerNamed 18 rfl) rfl
  · refine X_sub [1, 2, 0] rfl ?_
    refine lq1_ind (P := fun x3_2 E => X (wsOf SHC) RX9 cX9_walkerNamed 4 (some .int) 1 0 2 [(0, .ref a0), (1, .long p1), (3, .int x3_2)] [] σ E) (fun _ => X_none) (fun rec2 hrec2 x3_2 => ?_) _ _
    unfold F_X9_walkerNamed_2
    refine X_iload_n (pc := 2) (td kX9_walkerNamed 2 rfl) rfl 2 rfl ?_
    refine X_aload_n (pc := 3) (td kX9_walkerNamed 3 rfl) rfl 0 rfl ?_
    refine X_getI (pc := 4) a0_s0 rfl fk_X9_63 (td kX9_walkerNamed 4 rfl) ?_
    refine X_icmp_ge (pc := 7) (tgt := 29) (td kX9_walkerNamed 5 rfl) (by decide) (fun c_7 => ?_) (fun c_7 => ?_)
    · refine X_sub [] rfl ?_
      exact h29
    · refine X_aload_n (pc := 10) (td kX9_walkerNamed 6 rfl) rfl 0 rfl ?_
      refine X_getF (b := (a0 + 8)) (pc := 11) a0_s0 rfl fk_X9_36 (td kX9_walkerNamed 7 rfl) ?_
      refine X_iload_n (pc := 14) (td kX9_walkerNamed 8 rfl) rfl 2 rfl ?_
      refine X_lald (pc := 15) a0_s8 (td kX9_walkerNamed 9 rfl) ?_
      refine X_lload_n (pc := 16) (td kX9_walkerNamed 10 rfl) rfl 1 rfl ?_
      refine X_lcmp (pc := 17) (td kX9_walkerNamed 11 rfl) ?_
      refine X_if_ne (pc := 18) (tgt := 23) (td kX9_walkerNamed 12 rfl) (by decide) (fun c_18 => ?_) (fun c_18 => ?_)
      · refine X_iinc (v := (x3_2 + (1 : Int32))) (L' := [(3, .int (x3_2 + (1 : Int32))), (0, .ref a0), (1, .long p1)]) (pc := 23) (td kX9_walkerNamed 15 rfl) 2 rfl rfl (by decide) rfl ?_
        refine X_goto (pc := 26) (tgt := 2) (td kX9_walkerNamed 16 rfl) (by decide) ?_
        refine X_sub [1, 2, 0] rfl ?_
        exact hrec2 (x3_2 + (1 : Int32))
      · refine X_iload_n (pc := 21) (td kX9_walkerNamed 13 rfl) rfl 2 rfl ?_
        exact X_ret (pc := 22) (td kX9_walkerNamed 14 rfl) rfl
set_option maxHeartbeats 4000000 in
theorem p_X9_walkerNamed (a0 : Nat) (p1 : Int64) (σ : Mm) : Pu σ (f_X9_walkerNamed a0 p1 σ) := by
  unfold f_X9_walkerNamed
  refine Pu_ck ?_
  refine Pu_jn (fun k => Pu σ (k)) ?_ (fun k29 h29 => ?_)
  · exact Pu_some
  · refine lq1_ind (P := fun _ E => Pu σ E) (fun _ => Pu_none) (fun rec2 hrec2 x3_2 => ?_) _ _
    unfold F_X9_walkerNamed_2
    refine Pu_if ?_ ?_
    · refine Pu_ck ?_
      refine Pu_if ?_ ?_
      · exact Pu_some
      · exact hrec2 _
    · exact h29
def f_X9_addLane (a0 : Nat) (p1 : Int32) (p2 : Int32) (p3 : Int32) (σ : Mm) : Option (Int32 × Mm) := ck (isTown a0) ((if (gI σ a0 1) < (8 : Int32) then ck (inb (gI σ a0 1) 8) (bn (pI σ (a0 + 5) (gI σ a0 1).toNatClampNeg p1) (fun σ18 => ck (inb (gI σ18 a0 1) 8) (bn (pI σ18 (a0 + 6) (gI σ18 a0 1).toNatClampNeg p2) (fun σ28 => ck (inb (gI σ28 a0 1) 8) (bn (pI σ28 (a0 + 7) (gI σ28 a0 1).toNatClampNeg p3) (fun σ38 => bn (pI σ38 a0 1 ((gI σ38 a0 1) + (1 : Int32))) (fun σ46 => some (0, σ46)))))))) else some (0, σ)))
set_option maxHeartbeats 4000000 in
set_option maxRecDepth 100000 in
theorem x_X9_addLane (a0 : Nat) (p1 : Int32) (p2 : Int32) (p3 : Int32) (σ : Mm) : Con (wsOf SHC) yX9_addLane cX9_addLane 4 none 1 [.ref a0, .int p1, .int p2, .int p3] σ (f_X9_addLane a0 p1 p2 p3 σ) := by
  refine Con.of_X (by decide +kernel) (Nat.le_of_ble_eq_true rfl) ?_
  unfold f_X9_addLane
  show X (wsOf SHC) RX9 cX9_addLane 4 none 1 0 0 [(0, .ref a0), (1, .int p1), (2, .int p2), (3, .int p3)] [] σ _
  refine X_ck (fun a0_h => ?_)
  obtain ⟨a0_s0, a0_s1, a0_s2, a0_s3, a0_s4, a0_s5, a0_s6, a0_s7, a0_s8, a0_s9, a0_s10, a0_s11, a0_s12, a0_s13, a0_s14⟩ := knTown a0_h
  refine X_aload_n (pc := 0) (td kX9_addLane 0 rfl) rfl 0 rfl ?_
  refine X_getI (pc := 1) a0_s0 rfl fk_X9_60 (td kX9_addLane 1 rfl) ?_
  refine X_bipush (v := (8 : Int32)) (pc := 4) (td kX9_addLane 2 rfl) (by decide) ?_
  refine X_icmp_ge (pc := 6) (tgt := 49) (td kX9_addLane 3 rfl) (by decide) (fun c_6 => ?_) (fun c_6 => ?_)
  · exact X_retv (pc := 49) (td kX9_addLane 28 rfl)
  · refine X_aload_n (pc := 9) (td kX9_addLane 4 rfl) rfl 0 rfl ?_
    refine X_getF (b := (a0 + 5)) (pc := 10) a0_s0 rfl fk_X9_26 (td kX9_addLane 5 rfl) ?_
    refine X_aload_n (pc := 13) (td kX9_addLane 6 rfl) rfl 0 rfl ?_
    refine X_getI (pc := 14) a0_s0 rfl fk_X9_60 (td kX9_addLane 7 rfl) ?_
    refine X_iload_n (pc := 17) (td kX9_addLane 8 rfl) rfl 1 rfl ?_
    refine X_iast (pc := 18) a0_s5 (td kX9_addLane 9 rfl) (fun σ18 => ?_)
    refine X_aload_n (pc := 19) (td kX9_addLane 10 rfl) rfl 0 rfl ?_
    refine X_getF (b := (a0 + 6)) (pc := 20) a0_s0 rfl fk_X9_30 (td kX9_addLane 11 rfl) ?_
    refine X_aload_n (pc := 23) (td kX9_addLane 12 rfl) rfl 0 rfl ?_
    refine X_getI (pc := 24) a0_s0 rfl fk_X9_60 (td kX9_addLane 13 rfl) ?_
    refine X_iload_n (pc := 27) (td kX9_addLane 14 rfl) rfl 2 rfl ?_
    refine X_iast (pc := 28) a0_s6 (td kX9_addLane 15 rfl) (fun σ28 => ?_)
    refine X_aload_n (pc := 29) (td kX9_addLane 16 rfl) rfl 0 rfl ?_
    refine X_getF (b := (a0 + 7)) (pc := 30) a0_s0 rfl fk_X9_33 (td kX9_addLane 17 rfl) ?_
    refine X_aload_n (pc := 33) (td kX9_addLane 18 rfl) rfl 0 rfl ?_
    refine X_getI (pc := 34) a0_s0 rfl fk_X9_60 (td kX9_addLane 19 rfl) ?_
    refine X_iload_n (pc := 37) (td kX9_addLane 20 rfl) rfl 3 rfl ?_
    refine X_iast (pc := 38) a0_s7 (td kX9_addLane 21 rfl) (fun σ38 => ?_)
    refine X_aload_n (pc := 39) (td kX9_addLane 22 rfl) rfl 0 rfl ?_
    refine X_dup (pc := 40) (td kX9_addLane 23 rfl) rfl ?_
    refine X_getI (pc := 41) a0_s0 rfl fk_X9_60 (td kX9_addLane 24 rfl) ?_
    refine X_iconst (v := (1 : Int32)) (pc := 44) (td kX9_addLane 25 rfl) (by decide) ?_
    refine X_iadd (pc := 45) (td kX9_addLane 26 rfl) ?_
    refine X_putI (pc := 46) a0_s0 rfl fk_X9_60 rfl rfl (td kX9_addLane 27 rfl) (fun σ46 => ?_)
    exact X_retv (pc := 49) (td kX9_addLane 28 rfl)
def f_X9_addPlace (a0 : Nat) (p1 : Int64) (σ : Mm) : Option (Int32 × Mm) := ck (isTown a0) ((if (gI σ a0 0) < (6 : Int32) then ck (inb (gI σ a0 0) 6) (bn (pL σ (a0 + 4) (gI σ a0 0).toNatClampNeg p1) (fun σ18 => bn (pI σ18 a0 0 ((gI σ18 a0 0) + (1 : Int32))) (fun σ26 => some (0, σ26)))) else some (0, σ)))
set_option maxHeartbeats 4000000 in
set_option maxRecDepth 100000 in
theorem x_X9_addPlace (a0 : Nat) (p1 : Int64) (σ : Mm) : Con (wsOf SHC) yX9_addPlace cX9_addPlace 3 none 1 [.ref a0, .long p1] σ (f_X9_addPlace a0 p1 σ) := by
  refine Con.of_X (by decide +kernel) (Nat.le_of_ble_eq_true rfl) ?_
  unfold f_X9_addPlace
  show X (wsOf SHC) RX9 cX9_addPlace 3 none 1 0 0 [(0, .ref a0), (1, .long p1)] [] σ _
  refine X_ck (fun a0_h => ?_)
  obtain ⟨a0_s0, a0_s1, a0_s2, a0_s3, a0_s4, a0_s5, a0_s6, a0_s7, a0_s8, a0_s9, a0_s10, a0_s11, a0_s12, a0_s13, a0_s14⟩ := knTown a0_h
  refine X_aload_n (pc := 0) (td kX9_addPlace 0 rfl) rfl 0 rfl ?_
  refine X_getI (pc := 1) a0_s0 rfl fk_X9_57 (td kX9_addPlace 1 rfl) ?_
  refine X_bipush (v := (6 : Int32)) (pc := 4) (td kX9_addPlace 2 rfl) (by decide) ?_
  refine X_icmp_ge (pc := 6) (tgt := 29) (td kX9_addPlace 3 rfl) (by decide) (fun c_6 => ?_) (fun c_6 => ?_)
  · exact X_retv (pc := 29) (td kX9_addPlace 16 rfl)
  · refine X_aload_n (pc := 9) (td kX9_addPlace 4 rfl) rfl 0 rfl ?_
    refine X_getF (b := (a0 + 4)) (pc := 10) a0_s0 rfl fk_X9_22 (td kX9_addPlace 5 rfl) ?_
    refine X_aload_n (pc := 13) (td kX9_addPlace 6 rfl) rfl 0 rfl ?_
    refine X_getI (pc := 14) a0_s0 rfl fk_X9_57 (td kX9_addPlace 7 rfl) ?_
    refine X_lload_n (pc := 17) (td kX9_addPlace 8 rfl) rfl 1 rfl ?_
    refine X_last (pc := 18) a0_s4 (td kX9_addPlace 9 rfl) (fun σ18 => ?_)
    refine X_aload_n (pc := 19) (td kX9_addPlace 10 rfl) rfl 0 rfl ?_
    refine X_dup (pc := 20) (td kX9_addPlace 11 rfl) rfl ?_
    refine X_getI (pc := 21) a0_s0 rfl fk_X9_57 (td kX9_addPlace 12 rfl) ?_
    refine X_iconst (v := (1 : Int32)) (pc := 24) (td kX9_addPlace 13 rfl) (by decide) ?_
    refine X_iadd (pc := 25) (td kX9_addPlace 14 rfl) ?_
    refine X_putI (pc := 26) a0_s0 rfl fk_X9_57 rfl rfl (td kX9_addPlace 15 rfl) (fun σ26 => ?_)
    exact X_retv (pc := 29) (td kX9_addPlace 16 rfl)
def f_X9_addWalker (a0 : Nat) (p1 : Int64) (p2 : Int32) (p3 : Int32) (p4 : Int32) (p5 : Int32) (σ : Mm) : Option (Int32 × Mm) := ck (isTown a0) ((if (gI σ a0 2) < (6 : Int32) then ck (inb (gI σ a0 2) 6) (bn (pL σ (a0 + 8) (gI σ a0 2).toNatClampNeg p1) (fun σ18 => ck (inb (gI σ18 a0 2) 6) (bn (pI σ18 (a0 + 9) (gI σ18 a0 2).toNatClampNeg p2) (fun σ28 => ck (inb (gI σ28 a0 2) 6) (bn (pI σ28 (a0 + 10) (gI σ28 a0 2).toNatClampNeg p3) (fun σ39 => ck (inb (gI σ39 a0 2) 6) (bn (pI σ39 (a0 + 11) (gI σ39 a0 2).toNatClampNeg p4) (fun σ50 => ck (inb (gI σ50 a0 2) 6) (bn (pI σ50 (a0 + 12) (gI σ50 a0 2).toNatClampNeg p5) (fun σ61 => bn (pI σ61 a0 2 ((gI σ61 a0 2) + (1 : Int32))) (fun σ69 => some (0, σ69)))))))))))) else some (0, σ)))
set_option maxHeartbeats 4000000 in
set_option maxRecDepth 100000 in
theorem x_X9_addWalker (a0 : Nat) (p1 : Int64) (p2 : Int32) (p3 : Int32) (p4 : Int32) (p5 : Int32) (σ : Mm) : Con (wsOf SHC) yX9_addWalker cX9_addWalker 7 none 1 [.ref a0, .long p1, .int p2, .int p3, .int p4, .int p5] σ (f_X9_addWalker a0 p1 p2 p3 p4 p5 σ) := by
  refine Con.of_X (by decide +kernel) (Nat.le_of_ble_eq_true rfl) ?_
  unfold f_X9_addWalker
  show X (wsOf SHC) RX9 cX9_addWalker 7 none 1 0 0 [(0, .ref a0), (1, .long p1), (3, .int p2), (4, .int p3), (5, .int p4), (6, .int p5)] [] σ _
  refine X_ck (fun a0_h => ?_)
  obtain ⟨a0_s0, a0_s1, a0_s2, a0_s3, a0_s4, a0_s5, a0_s6, a0_s7, a0_s8, a0_s9, a0_s10, a0_s11, a0_s12, a0_s13, a0_s14⟩ := knTown a0_h
  refine X_aload_n (pc := 0) (td kX9_addWalker 0 rfl) rfl 0 rfl ?_
  refine X_getI (pc := 1) a0_s0 rfl fk_X9_63 (td kX9_addWalker 1 rfl) ?_
  refine X_bipush (v := (6 : Int32)) (pc := 4) (td kX9_addWalker 2 rfl) (by decide) ?_
  refine X_icmp_ge (pc := 6) (tgt := 72) (td kX9_addWalker 3 rfl) (by decide) (fun c_6 => ?_) (fun c_6 => ?_)
  · exact X_retv (pc := 72) (td kX9_addWalker 40 rfl)
  · refine X_aload_n (pc := 9) (td kX9_addWalker 4 rfl) rfl 0 rfl ?_
    refine X_getF (b := (a0 + 8)) (pc := 10) a0_s0 rfl fk_X9_36 (td kX9_addWalker 5 rfl) ?_
    refine X_aload_n (pc := 13) (td kX9_addWalker 6 rfl) rfl 0 rfl ?_
    refine X_getI (pc := 14) a0_s0 rfl fk_X9_63 (td kX9_addWalker 7 rfl) ?_
    refine X_lload_n (pc := 17) (td kX9_addWalker 8 rfl) rfl 1 rfl ?_
    refine X_last (pc := 18) a0_s8 (td kX9_addWalker 9 rfl) (fun σ18 => ?_)
    refine X_aload_n (pc := 19) (td kX9_addWalker 10 rfl) rfl 0 rfl ?_
    refine X_getF (b := (a0 + 9)) (pc := 20) a0_s0 rfl fk_X9_39 (td kX9_addWalker 11 rfl) ?_
    refine X_aload_n (pc := 23) (td kX9_addWalker 12 rfl) rfl 0 rfl ?_
    refine X_getI (pc := 24) a0_s0 rfl fk_X9_63 (td kX9_addWalker 13 rfl) ?_
    refine X_iload_n (pc := 27) (td kX9_addWalker 14 rfl) rfl 2 rfl ?_
    refine X_iast (pc := 28) a0_s9 (td kX9_addWalker 15 rfl) (fun σ28 => ?_)
    refine X_aload_n (pc := 29) (td kX9_addWalker 16 rfl) rfl 0 rfl ?_
    refine X_getF (b := (a0 + 10)) (pc := 30) a0_s0 rfl fk_X9_42 (td kX9_addWalker 17 rfl) ?_
    refine X_aload_n (pc := 33) (td kX9_addWalker 18 rfl) rfl 0 rfl ?_
    refine X_getI (pc := 34) a0_s0 rfl fk_X9_63 (td kX9_addWalker 19 rfl) ?_
    refine X_iload (pc := 37) (td kX9_addWalker 20 rfl) 3 rfl ?_
    refine X_iast (pc := 39) a0_s10 (td kX9_addWalker 21 rfl) (fun σ39 => ?_)
    refine X_aload_n (pc := 40) (td kX9_addWalker 22 rfl) rfl 0 rfl ?_
    refine X_getF (b := (a0 + 11)) (pc := 41) a0_s0 rfl fk_X9_45 (td kX9_addWalker 23 rfl) ?_
    refine X_aload_n (pc := 44) (td kX9_addWalker 24 rfl) rfl 0 rfl ?_
    refine X_getI (pc := 45) a0_s0 rfl fk_X9_63 (td kX9_addWalker 25 rfl) ?_
    refine X_iload (pc := 48) (td kX9_addWalker 26 rfl) 4 rfl ?_
    refine X_iast (pc := 50) a0_s11 (td kX9_addWalker 27 rfl) (fun σ50 => ?_)
    refine X_aload_n (pc := 51) (td kX9_addWalker 28 rfl) rfl 0 rfl ?_
    refine X_getF (b := (a0 + 12)) (pc := 52) a0_s0 rfl fk_X9_48 (td kX9_addWalker 29 rfl) ?_
    refine X_aload_n (pc := 55) (td kX9_addWalker 30 rfl) rfl 0 rfl ?_
    refine X_getI (pc := 56) a0_s0 rfl fk_X9_63 (td kX9_addWalker 31 rfl) ?_
    refine X_iload (pc := 59) (td kX9_addWalker 32 rfl) 5 rfl ?_
    refine X_iast (pc := 61) a0_s12 (td kX9_addWalker 33 rfl) (fun σ61 => ?_)
    refine X_aload_n (pc := 62) (td kX9_addWalker 34 rfl) rfl 0 rfl ?_
    refine X_dup (pc := 63) (td kX9_addWalker 35 rfl) rfl ?_
    refine X_getI (pc := 64) a0_s0 rfl fk_X9_63 (td kX9_addWalker 36 rfl) ?_
    refine X_iconst (v := (1 : Int32)) (pc := 67) (td kX9_addWalker 37 rfl) (by decide) ?_
    refine X_iadd (pc := 68) (td kX9_addWalker 38 rfl) ?_
    refine X_putI (pc := 69) a0_s0 rfl fk_X9_63 rfl rfl (td kX9_addWalker 39 rfl) (fun σ69 => ?_)
    exact X_retv (pc := 72) (td kX9_addWalker 40 rfl)
def f_X9_empty (a0 : Nat) (σ : Mm) : Option (Int32 × Mm) := ck (isTown a0) (bn (pI σ a0 0 (0 : Int32)) (fun σ2 => bn (pI σ2 a0 1 (0 : Int32)) (fun σ7 => bn (pI σ7 a0 2 (0 : Int32)) (fun σ12 => bn (pI σ12 a0 3 (3 : Int32)) (fun σ17 => bn (pI σ17 a0 4 (0 : Int32)) (fun σ22 => bn (pI σ22 (a0 + 1) 2 (0 : Int32)) (fun σ30 => some (0, σ30))))))))
set_option maxHeartbeats 4000000 in
set_option maxRecDepth 100000 in
theorem x_X9_empty (a0 : Nat) (σ : Mm) : Con (wsOf SHC) yX9_empty cX9_empty 1 none 1 [.ref a0] σ (f_X9_empty a0 σ) := by
  refine Con.of_X (by decide +kernel) (Nat.le_of_ble_eq_true rfl) ?_
  unfold f_X9_empty
  show X (wsOf SHC) RX9 cX9_empty 1 none 1 0 0 [(0, .ref a0)] [] σ _
  refine X_ck (fun a0_h => ?_)
  obtain ⟨a0_s0, a0_s1, a0_s2, a0_s3, a0_s4, a0_s5, a0_s6, a0_s7, a0_s8, a0_s9, a0_s10, a0_s11, a0_s12, a0_s13, a0_s14⟩ := knTown a0_h
  refine X_aload_n (pc := 0) (td kX9_empty 0 rfl) rfl 0 rfl ?_
  refine X_iconst (v := (0 : Int32)) (pc := 1) (td kX9_empty 1 rfl) (by decide) ?_
  refine X_putI (pc := 2) a0_s0 rfl fk_X9_57 rfl rfl (td kX9_empty 2 rfl) (fun σ2 => ?_)
  refine X_aload_n (pc := 5) (td kX9_empty 3 rfl) rfl 0 rfl ?_
  refine X_iconst (v := (0 : Int32)) (pc := 6) (td kX9_empty 4 rfl) (by decide) ?_
  refine X_putI (pc := 7) a0_s0 rfl fk_X9_60 rfl rfl (td kX9_empty 5 rfl) (fun σ7 => ?_)
  refine X_aload_n (pc := 10) (td kX9_empty 6 rfl) rfl 0 rfl ?_
  refine X_iconst (v := (0 : Int32)) (pc := 11) (td kX9_empty 7 rfl) (by decide) ?_
  refine X_putI (pc := 12) a0_s0 rfl fk_X9_63 rfl rfl (td kX9_empty 8 rfl) (fun σ12 => ?_)
  refine X_aload_n (pc := 15) (td kX9_empty 9 rfl) rfl 0 rfl ?_
  refine X_iconst (v := (3 : Int32)) (pc := 16) (td kX9_empty 10 rfl) (by decide) ?_
  refine X_putI (pc := 17) a0_s0 rfl fk_X9_11 rfl rfl (td kX9_empty 11 rfl) (fun σ17 => ?_)
  refine X_aload_n (pc := 20) (td kX9_empty 12 rfl) rfl 0 rfl ?_
  refine X_iconst (v := (0 : Int32)) (pc := 21) (td kX9_empty 13 rfl) (by decide) ?_
  refine X_putI (pc := 22) a0_s0 rfl fk_X9_66 rfl rfl (td kX9_empty 14 rfl) (fun σ22 => ?_)
  refine X_aload_n (pc := 25) (td kX9_empty 15 rfl) rfl 0 rfl ?_
  refine X_getF (b := (a0 + 1)) (pc := 26) a0_s0 rfl fk_X9_18 (td kX9_empty 16 rfl) ?_
  refine X_iconst (v := (0 : Int32)) (pc := 29) (td kX9_empty 17 rfl) (by decide) ?_
  refine X_putI (pc := 30) a0_s1 rfl fk_X9_70 rfl rfl (td kX9_empty 18 rfl) (fun σ30 => ?_)
  exact X_retv (pc := 33) (td kX9_empty 19 rfl)
def f_X9_hasPlace (a0 : Nat) (p1 : Int32) (σ : Mm) : Option (Int32 × Mm) := ck (isTown a0) (jn (some ((0 : Int32), σ)) (fun k16 => (if p1 < 0 then k16 else (if p1 < (gI σ a0 0) then some ((1 : Int32), σ) else k16))))
set_option maxHeartbeats 4000000 in
set_option maxRecDepth 100000 in
theorem x_X9_hasPlace (a0 : Nat) (p1 : Int32) (σ : Mm) : Con (wsOf SHC) yX9_hasPlace cX9_hasPlace 2 (some .boolean) 1 [.ref a0, .int p1] σ (f_X9_hasPlace a0 p1 σ) := by
  refine Con.of_X (by decide +kernel) (Nat.le_of_ble_eq_true rfl) ?_
  unfold f_X9_hasPlace
  show X (wsOf SHC) RX9 cX9_hasPlace 2 (some .boolean) 1 0 0 [(0, .ref a0), (1, .int p1)] [] σ _
  refine X_ck (fun a0_h => ?_)
  obtain ⟨a0_s0, a0_s1, a0_s2, a0_s3, a0_s4, a0_s5, a0_s6, a0_s7, a0_s8, a0_s9, a0_s10, a0_s11, a0_s12, a0_s13, a0_s14⟩ := knTown a0_h
  refine X_iload_n (pc := 0) (td kX9_hasPlace 0 rfl) rfl 1 rfl ?_
  refine X_jn (P := fun k => X (wsOf SHC) RX9 cX9_hasPlace 2 (some .boolean) 1 0 16 [] [] σ k) ?_ (fun k16 h16 => ?_)
  · refine X_iconst (v := (0 : Int32)) (pc := 16) (td kX9_hasPlace 8 rfl) (by decide) ?_
    exact X_ret (pc := 17) (td kX9_hasPlace 9 rfl) rfl
  · refine X_if_lt (pc := 1) (tgt := 16) (td kX9_hasPlace 1 rfl) (by decide) (fun c_1 => ?_) (fun c_1 => ?_)
    · refine X_sub [] rfl ?_
      exact h16
    · refine X_iload_n (pc := 4) (td kX9_hasPlace 2 rfl) rfl 1 rfl ?_
      refine X_aload_n (pc := 5) (td kX9_hasPlace 3 rfl) rfl 0 rfl ?_
      refine X_getI (pc := 6) a0_s0 rfl fk_X9_57 (td kX9_hasPlace 4 rfl) ?_
      refine X_icmp_ge (pc := 9) (tgt := 16) (td kX9_hasPlace 5 rfl) (by decide) (fun c_9 => ?_) (fun c_9 => ?_)
      · refine X_sub [] rfl ?_
        exact h16
      · refine X_iconst (v := (1 : Int32)) (pc := 12) (td kX9_hasPlace 6 rfl) (by decide) ?_
        refine X_goto (pc := 13) (tgt := 17) (td kX9_hasPlace 7 rfl) (by decide) ?_
        exact X_ret (pc := 17) (td kX9_hasPlace 9 rfl) rfl
set_option maxHeartbeats 4000000 in
theorem p_X9_hasPlace (a0 : Nat) (p1 : Int32) (σ : Mm) : Pu σ (f_X9_hasPlace a0 p1 σ) := by
  unfold f_X9_hasPlace
  refine Pu_ck ?_
  refine Pu_jn (fun k => Pu σ (k)) ?_ (fun k16 h16 => ?_)
  · exact Pu_some
  · refine Pu_if ?_ ?_
    · exact h16
    · refine Pu_if ?_ ?_
      · exact Pu_some
      · exact h16
def f_X9_lanesOfWay (a0 : Nat) (p1 : Int32) (p2 : Int32) (σ : Mm) : Option (Int32 × Mm) := ck (isTown a0) (cl (f_X9_hasPlace a0 p1 σ) (fun r2 _ => jn (some ((-1 : Int32), σ)) (fun k30 => (if r2 = 0 then k30 else cl (f_X9_hasPlace a0 p2 σ) (fun r10 _ => (if r10 = 0 then k30 else bn ((p1 * (6 : Int32)) + p2) (fun i_26 => ck (inb i_26 36) (some ((gI σ (a0 + 13) i_26.toNatClampNeg), σ)))))))))
set_option maxHeartbeats 4000000 in
set_option maxRecDepth 100000 in
theorem x_X9_lanesOfWay (a0 : Nat) (p1 : Int32) (p2 : Int32) (σ : Mm) : Con (wsOf SHC) yX9_lanesOfWay cX9_lanesOfWay 3 (some .int) 2 [.ref a0, .int p1, .int p2] σ (f_X9_lanesOfWay a0 p1 p2 σ) := by
  refine Con.of_X (by decide +kernel) (Nat.le_of_ble_eq_true rfl) ?_
  unfold f_X9_lanesOfWay
  show X (wsOf SHC) RX9 cX9_lanesOfWay 3 (some .int) 2 0 0 [(0, .ref a0), (1, .int p1), (2, .int p2)] [] σ _
  refine X_ck (fun a0_h => ?_)
  obtain ⟨a0_s0, a0_s1, a0_s2, a0_s3, a0_s4, a0_s5, a0_s6, a0_s7, a0_s8, a0_s9, a0_s10, a0_s11, a0_s12, a0_s13, a0_s14⟩ := knTown a0_h
  refine X_aload_n (pc := 0) (td kX9_lanesOfWay 0 rfl) rfl 0 rfl ?_
  refine X_iload_n (pc := 1) (td kX9_lanesOfWay 1 rfl) rfl 1 rfl ?_
  refine X_callip (pc := 2) (As := [.int p1]) (st := []) (p_X9_hasPlace a0 p1 σ) a0_s0 (x_X9_hasPlace a0 p1 σ) mkX9_hasPlace lk_X9_77 (by omega) rfl rfl (Nat.le_of_ble_eq_true rfl) (td kX9_lanesOfWay 2 rfl) (fun r2 hr2 => ?_)
  refine X_jn (P := fun k => X (wsOf SHC) RX9 cX9_lanesOfWay 3 (some .int) 2 0 30 [] [] σ k) ?_ (fun k30 h30 => ?_)
  · refine X_iconst (v := (-1 : Int32)) (pc := 30) (td kX9_lanesOfWay 17 rfl) (by decide) ?_
    exact X_ret (pc := 31) (td kX9_lanesOfWay 18 rfl) rfl
  · refine X_if_eq (pc := 5) (tgt := 30) (td kX9_lanesOfWay 3 rfl) (by decide) (fun c_5 => ?_) (fun c_5 => ?_)
    · refine X_sub [] rfl ?_
      exact h30
    · refine X_aload_n (pc := 8) (td kX9_lanesOfWay 4 rfl) rfl 0 rfl ?_
      refine X_iload_n (pc := 9) (td kX9_lanesOfWay 5 rfl) rfl 2 rfl ?_
      refine X_callip (pc := 10) (As := [.int p2]) (st := []) (p_X9_hasPlace a0 p2 σ) a0_s0 (x_X9_hasPlace a0 p2 σ) mkX9_hasPlace lk_X9_77 (by omega) rfl rfl (Nat.le_of_ble_eq_true rfl) (td kX9_lanesOfWay 6 rfl) (fun r10 hr10 => ?_)
      refine X_if_eq (pc := 13) (tgt := 30) (td kX9_lanesOfWay 7 rfl) (by decide) (fun c_13 => ?_) (fun c_13 => ?_)
      · refine X_sub [] rfl ?_
        exact h30
      · refine X_aload_n (pc := 16) (td kX9_lanesOfWay 8 rfl) rfl 0 rfl ?_
        refine X_getF (b := (a0 + 13)) (pc := 17) a0_s0 rfl fk_X9_51 (td kX9_lanesOfWay 9 rfl) ?_
        refine X_iload_n (pc := 20) (td kX9_lanesOfWay 10 rfl) rfl 1 rfl ?_
        refine X_bipush (v := (6 : Int32)) (pc := 21) (td kX9_lanesOfWay 11 rfl) (by decide) ?_
        refine X_imul (pc := 23) (td kX9_lanesOfWay 12 rfl) ?_
        refine X_iload_n (pc := 24) (td kX9_lanesOfWay 13 rfl) rfl 2 rfl ?_
        refine X_iadd (pc := 25) (td kX9_lanesOfWay 14 rfl) ?_
        refine X_bi (fun i_26 => ?_)
        refine X_iald (pc := 26) a0_s13 (td kX9_lanesOfWay 15 rfl) ?_
        refine X_goto (pc := 27) (tgt := 31) (td kX9_lanesOfWay 16 rfl) (by decide) ?_
        exact X_ret (pc := 31) (td kX9_lanesOfWay 18 rfl) rfl
set_option maxHeartbeats 4000000 in
theorem p_X9_lanesOfWay (a0 : Nat) (p1 : Int32) (p2 : Int32) (σ : Mm) : Pu σ (f_X9_lanesOfWay a0 p1 p2 σ) := by
  unfold f_X9_lanesOfWay
  refine Pu_ck ?_
  refine Pu_cl (fun _ _ => ?_)
  refine Pu_jn (fun k => Pu σ (k)) ?_ (fun k30 h30 => ?_)
  · exact Pu_some
  · refine Pu_if ?_ ?_
    · exact h30
    · refine Pu_cl (fun _ _ => ?_)
      refine Pu_if ?_ ?_
      · exact h30
      · refine Pu_bn (fun _ => ?_)
        refine Pu_ck ?_
        exact Pu_some
def F_X9_laneNearer_3 (a0 : Nat) (p1 : Int32) (p2 : Int32) (p3 : Int32) (σ : Mm) (k47 : Option (Int32 × Mm)) (rec3 : Int32 → Option (Int32 × Mm)) (x4_3 : Int32) : Option (Int32 × Mm) := (if x4_3 < (gI σ a0 0) then cl (f_X9_lanesOfWay a0 x4_3 p2 σ) (fun r16 _ => jn (rec3 (x4_3 + (1 : Int32))) (fun k41 => (if r16 = p3 then cl (f_X9_laneBetween a0 p1 x4_3 σ) (fun r27 _ => (if r27 = (-1 : Int32) then k41 else some (r27, σ))) else k41))) else k47)
def f_X9_laneNearer (a0 : Nat) (p1 : Int32) (p2 : Int32) (p3 : Int32) (σ : Mm) : Option (Int32 × Mm) := ck (isTown a0) (jn (some ((-1 : Int32), σ)) (fun k47 => lq1 (F_X9_laneNearer_3 a0 p1 p2 p3 σ k47) 1000000 (0 : Int32)))
set_option maxHeartbeats 4000000 in
set_option maxRecDepth 100000 in
theorem x_X9_laneNearer (a0 : Nat) (p1 : Int32) (p2 : Int32) (p3 : Int32) (σ : Mm) : Con (wsOf SHC) yX9_laneNearer cX9_laneNearer 6 (some .int) 3 [.ref a0, .int p1, .int p2, .int p3] σ (f_X9_laneNearer a0 p1 p2 p3 σ) := by
  refine Con.of_X (by decide +kernel) (Nat.le_of_ble_eq_true rfl) ?_
  unfold f_X9_laneNearer
  show X (wsOf SHC) RX9 cX9_laneNearer 6 (some .int) 3 0 0 [(0, .ref a0), (1, .int p1), (2, .int p2), (3, .int p3)] [] σ _
  refine X_ck (fun a0_h => ?_)
  obtain ⟨a0_s0, a0_s1, a0_s2, a0_s3, a0_s4, a0_s5, a0_s6, a0_s7, a0_s8, a0_s9, a0_s10, a0_s11, a0_s12, a0_s13, a0_s14⟩ := knTown a0_h
  refine X_iconst (v := (0 : Int32)) (pc := 0) (td kX9_laneNearer 0 rfl) (by decide) ?_
  refine X_istore (L' := [(4, .int (0 : Int32)), (0, .ref a0), (1, .int p1), (2, .int p2), (3, .int p3)]) (pc := 1) (td kX9_laneNearer 1 rfl) (by decide) rfl ?_
  refine X_jn (P := fun k => X (wsOf SHC) RX9 cX9_laneNearer 6 (some .int) 3 0 47 [] [] σ k) ?_ (fun k47 h47 => ?_)
  · refine X_iconst (v := (-1 : Int32)) (pc := 47) (td kX9_laneNearer 24 rfl) (by decide) ?_
    exact X_ret (pc := 48) (td kX9_laneNearer 25 rfl) rfl
  · refine X_sub [1, 2, 3, 4, 0] rfl ?_
    refine lq1_ind (P := fun x4_3 E => X (wsOf SHC) RX9 cX9_laneNearer 6 (some .int) 3 0 3 [(0, .ref a0), (1, .int p1), (2, .int p2), (3, .int p3), (4, .int x4_3)] [] σ E) (fun _ => X_none) (fun rec3 hrec3 x4_3 => ?_) _ _
    unfold F_X9_laneNearer_3
    refine X_iload (pc := 3) (td kX9_laneNearer 2 rfl) 4 rfl ?_
    refine X_aload_n (pc := 5) (td kX9_laneNearer 3 rfl) rfl 0 rfl ?_
    refine X_getI (pc := 6) a0_s0 rfl fk_X9_57 (td kX9_laneNearer 4 rfl) ?_
    refine X_icmp_ge (pc := 9) (tgt := 47) (td kX9_laneNearer 5 rfl) (by decide) (fun c_9 => ?_) (fun c_9 => ?_)
    · refine X_sub [] rfl ?_
      exact h47
    · refine X_aload_n (pc := 12) (td kX9_laneNearer 6 rfl) rfl 0 rfl ?_
      refine X_iload (pc := 13) (td kX9_laneNearer 7 rfl) 4 rfl ?_
      refine X_iload_n (pc := 15) (td kX9_laneNearer 8 rfl) rfl 2 rfl ?_
      refine X_callip (pc := 16) (As := [.int x4_3, .int p2]) (st := []) (p_X9_lanesOfWay a0 x4_3 p2 σ) a0_s0 (x_X9_lanesOfWay a0 x4_3 p2 σ) mkX9_lanesOfWay lk_X9_84 (by omega) rfl rfl (Nat.le_of_ble_eq_true rfl) (td kX9_laneNearer 9 rfl) (fun r16 hr16 => ?_)
      refine X_iload_n (pc := 19) (td kX9_laneNearer 10 rfl) rfl 3 rfl ?_
      refine X_jn (P := fun k => X (wsOf SHC) RX9 cX9_laneNearer 6 (some .int) 3 0 41 [(0, .ref a0), (1, .int p1), (2, .int p2), (3, .int p3), (4, .int x4_3)] [] σ k) ?_ (fun k41 h41 => ?_)
      · refine X_iinc (v := (x4_3 + (1 : Int32))) (L' := [(4, .int (x4_3 + (1 : Int32))), (0, .ref a0), (1, .int p1), (2, .int p2), (3, .int p3)]) (pc := 41) (td kX9_laneNearer 22 rfl) 4 rfl rfl (by decide) rfl ?_
        refine X_goto (pc := 44) (tgt := 3) (td kX9_laneNearer 23 rfl) (by decide) ?_
        refine X_sub [1, 2, 3, 4, 0] rfl ?_
        exact hrec3 (x4_3 + (1 : Int32))
      · refine X_icmp_ne (pc := 20) (tgt := 41) (td kX9_laneNearer 11 rfl) (by decide) (fun c_20 => ?_) (fun c_20 => ?_)
        · exact h41
        · refine X_aload_n (pc := 23) (td kX9_laneNearer 12 rfl) rfl 0 rfl ?_
          refine X_iload_n (pc := 24) (td kX9_laneNearer 13 rfl) rfl 1 rfl ?_
          refine X_iload (pc := 25) (td kX9_laneNearer 14 rfl) 4 rfl ?_
          refine X_callip (pc := 27) (As := [.int p1, .int x4_3]) (st := []) (p_X9_laneBetween a0 p1 x4_3 σ) a0_s0 (x_X9_laneBetween a0 p1 x4_3 σ) mkX9_laneBetween lk_X9_92 (by omega) rfl rfl (Nat.le_of_ble_eq_true rfl) (td kX9_laneNearer 15 rfl) (fun r27 hr27 => ?_)
          refine X_istore (L' := [(5, .int r27), (0, .ref a0), (1, .int p1), (2, .int p2), (3, .int p3), (4, .int x4_3)]) (pc := 30) (td kX9_laneNearer 16 rfl) (by decide) rfl ?_
          refine X_iload (pc := 32) (td kX9_laneNearer 17 rfl) 0 rfl ?_
          refine X_iconst (v := (-1 : Int32)) (pc := 34) (td kX9_laneNearer 18 rfl) (by decide) ?_
          refine X_icmp_eq (pc := 35) (tgt := 41) (td kX9_laneNearer 19 rfl) (by decide) (fun c_35 => ?_) (fun c_35 => ?_)
          · refine X_sub [1, 2, 3, 4, 5] rfl ?_
            exact h41
          · refine X_iload (pc := 38) (td kX9_laneNearer 20 rfl) 0 rfl ?_
            exact X_ret (pc := 40) (td kX9_laneNearer 21 rfl) rfl
set_option maxHeartbeats 4000000 in
theorem p_X9_laneNearer (a0 : Nat) (p1 : Int32) (p2 : Int32) (p3 : Int32) (σ : Mm) : Pu σ (f_X9_laneNearer a0 p1 p2 p3 σ) := by
  unfold f_X9_laneNearer
  refine Pu_ck ?_
  refine Pu_jn (fun k => Pu σ (k)) ?_ (fun k47 h47 => ?_)
  · exact Pu_some
  · refine lq1_ind (P := fun _ E => Pu σ E) (fun _ => Pu_none) (fun rec3 hrec3 x4_3 => ?_) _ _
    unfold F_X9_laneNearer_3
    refine Pu_if ?_ ?_
    · refine Pu_cl (fun _ _ => ?_)
      refine Pu_jn (fun k => Pu σ (k)) ?_ (fun k41 h41 => ?_)
      · exact hrec3 _
      · refine Pu_if ?_ ?_
        · refine Pu_cl (fun _ _ => ?_)
          refine Pu_if ?_ ?_
          · exact h41
          · exact Pu_some
        · exact h41
    · exact h47
def F_X9_findWaysOfLength_2 (a0 : Nat) (p1 : Int32) (p2 : Int32) (k68 : Mm → Option (Int32 × Mm)) (rec2 : Int32 → Mm → Option (Int32 × Mm)) (x3_2 : Int32) (σ_2 : Mm) : Option (Int32 × Mm) := (if x3_2 < (gI σ_2 a0 0) then cl (f_X9_lanesOfWay a0 x3_2 p2 σ_2) (fun r13 _ => jn (fun (σ_62 : Mm) => rec2 (x3_2 + (1 : Int32)) σ_62) (fun k62 => (if r13 = (-1 : Int32) then cl (f_X9_laneNearer a0 x3_2 p2 (p1 - (1 : Int32)) σ_2) (fun r26 _ => (if r26 = (-1 : Int32) then k62 σ_2 else ck (inb ((x3_2 * (6 : Int32)) + p2) 36) (bn (pI σ_2 (a0 + 13) ((x3_2 * (6 : Int32)) + p2).toNatClampNeg p1) (fun σ48 => ck (inb ((x3_2 * (6 : Int32)) + p2) 36) (bn (pI σ48 (a0 + 14) ((x3_2 * (6 : Int32)) + p2).toNatClampNeg r26) (fun σ61 => k62 σ61)))))) else k62 σ_2))) else k68 σ_2)
def f_X9_findWaysOfLength (a0 : Nat) (p1 : Int32) (p2 : Int32) (σ : Mm) : Option (Int32 × Mm) := ck (isTown a0) (jn (fun (σ_68 : Mm) => some (0, σ_68)) (fun k68 => lq2 (F_X9_findWaysOfLength_2 a0 p1 p2 k68) 1000000 (0 : Int32) σ))
set_option maxHeartbeats 4000000 in
set_option maxRecDepth 100000 in
theorem x_X9_findWaysOfLength (a0 : Nat) (p1 : Int32) (p2 : Int32) (σ : Mm) : Con (wsOf SHC) yX9_findWaysOfLength cX9_findWaysOfLength 5 none 4 [.ref a0, .int p1, .int p2] σ (f_X9_findWaysOfLength a0 p1 p2 σ) := by
  refine Con.of_X (by decide +kernel) (Nat.le_of_ble_eq_true rfl) ?_
  unfold f_X9_findWaysOfLength
  show X (wsOf SHC) RX9 cX9_findWaysOfLength 5 none 4 0 0 [(0, .ref a0), (1, .int p1), (2, .int p2)] [] σ _
  refine X_ck (fun a0_h => ?_)
  obtain ⟨a0_s0, a0_s1, a0_s2, a0_s3, a0_s4, a0_s5, a0_s6, a0_s7, a0_s8, a0_s9, a0_s10, a0_s11, a0_s12, a0_s13, a0_s14⟩ := knTown a0_h
  refine X_iconst (v := (0 : Int32)) (pc := 0) (td kX9_findWaysOfLength 0 rfl) (by decide) ?_
  refine X_istore_n (L' := [(3, .int (0 : Int32)), (0, .ref a0), (1, .int p1), (2, .int p2)]) (pc := 1) (td kX9_findWaysOfLength 1 rfl) rfl (by decide) rfl ?_
  refine X_jn (P := fun k => ∀ (σ_68 : Mm), X (wsOf SHC) RX9 cX9_findWaysOfLength 5 none 4 0 68 [] [] σ_68 (k σ_68)) (fun σ_68 => ?_) (fun k68 h68 => ?_)
  · exact X_retv (pc := 68) (td kX9_findWaysOfLength 43 rfl)
  · refine X_sub [1, 2, 3, 0] rfl ?_
    refine lq2_ind (P := fun x3_2 σ_2 E => X (wsOf SHC) RX9 cX9_findWaysOfLength 5 none 4 0 2 [(0, .ref a0), (1, .int p1), (2, .int p2), (3, .int x3_2)] [] σ_2 E) (fun _ _ => X_none) (fun rec2 hrec2 x3_2 σ_2 => ?_) _ _ _
    unfold F_X9_findWaysOfLength_2
    refine X_iload_n (pc := 2) (td kX9_findWaysOfLength 2 rfl) rfl 3 rfl ?_
    refine X_aload_n (pc := 3) (td kX9_findWaysOfLength 3 rfl) rfl 0 rfl ?_
    refine X_getI (pc := 4) a0_s0 rfl fk_X9_57 (td kX9_findWaysOfLength 4 rfl) ?_
    refine X_icmp_ge (pc := 7) (tgt := 68) (td kX9_findWaysOfLength 5 rfl) (by decide) (fun c_7 => ?_) (fun c_7 => ?_)
    · refine X_sub [] rfl ?_
      exact h68 σ_2
    · refine X_aload_n (pc := 10) (td kX9_findWaysOfLength 6 rfl) rfl 0 rfl ?_
      refine X_iload_n (pc := 11) (td kX9_findWaysOfLength 7 rfl) rfl 3 rfl ?_
      refine X_iload_n (pc := 12) (td kX9_findWaysOfLength 8 rfl) rfl 2 rfl ?_
      refine X_callip (pc := 13) (As := [.int x3_2, .int p2]) (st := []) (p_X9_lanesOfWay a0 x3_2 p2 σ_2) a0_s0 (x_X9_lanesOfWay a0 x3_2 p2 σ_2) mkX9_lanesOfWay lk_X9_84 (by omega) rfl rfl (Nat.le_of_ble_eq_true rfl) (td kX9_findWaysOfLength 9 rfl) (fun r13 hr13 => ?_)
      refine X_iconst (v := (-1 : Int32)) (pc := 16) (td kX9_findWaysOfLength 10 rfl) (by decide) ?_
      refine X_jn (P := fun k => ∀ (σ_62 : Mm), X (wsOf SHC) RX9 cX9_findWaysOfLength 5 none 4 0 62 [(0, .ref a0), (1, .int p1), (2, .int p2), (3, .int x3_2)] [] σ_62 (k σ_62)) (fun σ_62 => ?_) (fun k62 h62 => ?_)
      · refine X_iinc (v := (x3_2 + (1 : Int32))) (L' := [(3, .int (x3_2 + (1 : Int32))), (0, .ref a0), (1, .int p1), (2, .int p2)]) (pc := 62) (td kX9_findWaysOfLength 41 rfl) 3 rfl rfl (by decide) rfl ?_
        refine X_goto (pc := 65) (tgt := 2) (td kX9_findWaysOfLength 42 rfl) (by decide) ?_
        refine X_sub [1, 2, 3, 0] rfl ?_
        exact hrec2 (x3_2 + (1 : Int32)) σ_62
      · refine X_icmp_ne (pc := 17) (tgt := 62) (td kX9_findWaysOfLength 11 rfl) (by decide) (fun c_17 => ?_) (fun c_17 => ?_)
        · exact h62 σ_2
        · refine X_aload_n (pc := 20) (td kX9_findWaysOfLength 12 rfl) rfl 0 rfl ?_
          refine X_iload_n (pc := 21) (td kX9_findWaysOfLength 13 rfl) rfl 3 rfl ?_
          refine X_iload_n (pc := 22) (td kX9_findWaysOfLength 14 rfl) rfl 2 rfl ?_
          refine X_iload_n (pc := 23) (td kX9_findWaysOfLength 15 rfl) rfl 1 rfl ?_
          refine X_iconst (v := (1 : Int32)) (pc := 24) (td kX9_findWaysOfLength 16 rfl) (by decide) ?_
          refine X_isub (pc := 25) (td kX9_findWaysOfLength 17 rfl) ?_
          refine X_callip (pc := 26) (As := [.int x3_2, .int p2, .int (p1 - (1 : Int32))]) (st := []) (p_X9_laneNearer a0 x3_2 p2 (p1 - (1 : Int32)) σ_2) a0_s0 (x_X9_laneNearer a0 x3_2 p2 (p1 - (1 : Int32)) σ_2) mkX9_laneNearer lk_X9_88 (by omega) rfl rfl (Nat.le_of_ble_eq_true rfl) (td kX9_findWaysOfLength 18 rfl) (fun r26 hr26 => ?_)
          refine X_istore (L' := [(4, .int r26), (0, .ref a0), (1, .int p1), (2, .int p2), (3, .int x3_2)]) (pc := 29) (td kX9_findWaysOfLength 19 rfl) (by decide) rfl ?_
          refine X_iload (pc := 31) (td kX9_findWaysOfLength 20 rfl) 0 rfl ?_
          refine X_iconst (v := (-1 : Int32)) (pc := 33) (td kX9_findWaysOfLength 21 rfl) (by decide) ?_
          refine X_icmp_eq (pc := 34) (tgt := 62) (td kX9_findWaysOfLength 22 rfl) (by decide) (fun c_34 => ?_) (fun c_34 => ?_)
          · refine X_sub [1, 2, 3, 4] rfl ?_
            exact h62 σ_2
          · refine X_aload_n (pc := 37) (td kX9_findWaysOfLength 23 rfl) rfl 1 rfl ?_
            refine X_getF (b := (a0 + 13)) (pc := 38) a0_s0 rfl fk_X9_51 (td kX9_findWaysOfLength 24 rfl) ?_
            refine X_iload_n (pc := 41) (td kX9_findWaysOfLength 25 rfl) rfl 4 rfl ?_
            refine X_bipush (v := (6 : Int32)) (pc := 42) (td kX9_findWaysOfLength 26 rfl) (by decide) ?_
            refine X_imul (pc := 44) (td kX9_findWaysOfLength 27 rfl) ?_
            refine X_iload_n (pc := 45) (td kX9_findWaysOfLength 28 rfl) rfl 3 rfl ?_
            refine X_iadd (pc := 46) (td kX9_findWaysOfLength 29 rfl) ?_
            refine X_iload_n (pc := 47) (td kX9_findWaysOfLength 30 rfl) rfl 2 rfl ?_
            refine X_iast (pc := 48) a0_s13 (td kX9_findWaysOfLength 31 rfl) (fun σ48 => ?_)
            refine X_aload_n (pc := 49) (td kX9_findWaysOfLength 32 rfl) rfl 1 rfl ?_
            refine X_getF (b := (a0 + 14)) (pc := 50) a0_s0 rfl fk_X9_54 (td kX9_findWaysOfLength 33 rfl) ?_
            refine X_iload_n (pc := 53) (td kX9_findWaysOfLength 34 rfl) rfl 4 rfl ?_
            refine X_bipush (v := (6 : Int32)) (pc := 54) (td kX9_findWaysOfLength 35 rfl) (by decide) ?_
            refine X_imul (pc := 56) (td kX9_findWaysOfLength 36 rfl) ?_
            refine X_iload_n (pc := 57) (td kX9_findWaysOfLength 37 rfl) rfl 3 rfl ?_
            refine X_iadd (pc := 58) (td kX9_findWaysOfLength 38 rfl) ?_
            refine X_iload (pc := 59) (td kX9_findWaysOfLength 39 rfl) 0 rfl ?_
            refine X_iast (pc := 61) a0_s14 (td kX9_findWaysOfLength 40 rfl) (fun σ61 => ?_)
            refine X_sub [1, 2, 3, 4] rfl ?_
            exact h62 σ61
def F_X9_findWays_61 (a0 : Nat) (x1_2 : Int32) (k81 : Mm → Option (Int32 × Mm)) (rec61 : Int32 → Mm → Option (Int32 × Mm)) (x2_61 : Int32) (σ_61 : Mm) : Option (Int32 × Mm) := (if x2_61 < (gI σ_61 a0 0) then cl (f_X9_findWaysOfLength a0 x2_61 x1_2 σ_61) (fun _ σ72 => rec61 (x2_61 + (1 : Int32)) σ72) else k81 σ_61)
def F_X9_findWays_12 (a0 : Nat) (x1_2 : Int32) (k59 : Mm → Option (Int32 × Mm)) (rec12 : Int32 → Mm → Option (Int32 × Mm)) (x2_12 : Int32) (σ_12 : Mm) : Option (Int32 × Mm) := (if x2_12 < (gI σ_12 a0 0) then jn (fun (y2_40 : Int32) => ck (inb ((x2_12 * (6 : Int32)) + x1_2) 36) (bn (pI σ_12 (a0 + 13) ((x2_12 * (6 : Int32)) + x1_2).toNatClampNeg y2_40) (fun σ40 => ck (inb ((x2_12 * (6 : Int32)) + x1_2) 36) (bn (pI σ40 (a0 + 14) ((x2_12 * (6 : Int32)) + x1_2).toNatClampNeg (-1 : Int32)) (fun σ52 => rec12 (x2_12 + (1 : Int32)) σ52))))) (fun k40 => (if x2_12 = x1_2 then k40 (0 : Int32) else k40 (-1 : Int32))) else k59 σ_12)
def F_X9_findWays_2 (a0 : Nat) (k87 : Mm → Option (Int32 × Mm)) (rec2 : Int32 → Mm → Option (Int32 × Mm)) (x1_2 : Int32) (σ_2 : Mm) : Option (Int32 × Mm) := (if x1_2 < (gI σ_2 a0 0) then jn (fun (σ_59 : Mm) => jn (fun (σ_81 : Mm) => rec2 (x1_2 + (1 : Int32)) σ_81) (fun k81 => lq2 (F_X9_findWays_61 a0 x1_2 k81) 1000000 (1 : Int32) σ_59)) (fun k59 => lq2 (F_X9_findWays_12 a0 x1_2 k59) 1000000 (0 : Int32) σ_2) else k87 σ_2)
def f_X9_findWays (a0 : Nat) (σ : Mm) : Option (Int32 × Mm) := ck (isTown a0) (jn (fun (σ_87 : Mm) => some (0, σ_87)) (fun k87 => lq2 (F_X9_findWays_2 a0 k87) 1000000 (0 : Int32) σ))
set_option maxHeartbeats 4000000 in
set_option maxRecDepth 100000 in
theorem x_X9_findWays (a0 : Nat) (σ : Mm) : Con (wsOf SHC) yX9_findWays cX9_findWays 3 none 5 [.ref a0] σ (f_X9_findWays a0 σ) := by
  refine Con.of_X (by decide +kernel) (Nat.le_of_ble_eq_true rfl) ?_
  unfold f_X9_findWays
  show X (wsOf SHC) RX9 cX9_findWays 3 none 5 0 0 [(0, .ref a0)] [] σ _
  refine X_ck (fun a0_h => ?_)
  obtain ⟨a0_s0, a0_s1, a0_s2, a0_s3, a0_s4, a0_s5, a0_s6, a0_s7, a0_s8, a0_s9, a0_s10, a0_s11, a0_s12, a0_s13, a0_s14⟩ := knTown a0_h
  refine X_iconst (v := (0 : Int32)) (pc := 0) (td kX9_findWays 0 rfl) (by decide) ?_
  refine X_istore_n (L' := [(1, .int (0 : Int32)), (0, .ref a0)]) (pc := 1) (td kX9_findWays 1 rfl) rfl (by decide) rfl ?_
  refine X_jn (P := fun k => ∀ (σ_87 : Mm), X (wsOf SHC) RX9 cX9_findWays 3 none 5 0 87 [] [] σ_87 (k σ_87)) (fun σ_87 => ?_) (fun k87 h87 => ?_)
  · exact X_retv (pc := 87) (td kX9_findWays 51 rfl)
  · refine X_sub [1, 0] rfl ?_
    refine lq2_ind (P := fun x1_2 σ_2 E => X (wsOf SHC) RX9 cX9_findWays 3 none 5 0 2 [(0, .ref a0), (1, .int x1_2)] [] σ_2 E) (fun _ _ => X_none) (fun rec2 hrec2 x1_2 σ_2 => ?_) _ _ _
    unfold F_X9_findWays_2
    refine X_iload_n (pc := 2) (td kX9_findWays 2 rfl) rfl 1 rfl ?_
    refine X_aload_n (pc := 3) (td kX9_findWays 3 rfl) rfl 0 rfl ?_
    refine X_getI (pc := 4) a0_s0 rfl fk_X9_57 (td kX9_findWays 4 rfl) ?_
    refine X_icmp_ge (pc := 7) (tgt := 87) (td kX9_findWays 5 rfl) (by decide) (fun c_7 => ?_) (fun c_7 => ?_)
    · refine X_sub [] rfl ?_
      exact h87 σ_2
    · refine X_iconst (v := (0 : Int32)) (pc := 10) (td kX9_findWays 6 rfl) (by decide) ?_
      refine X_istore_n (L' := [(2, .int (0 : Int32)), (0, .ref a0), (1, .int x1_2)]) (pc := 11) (td kX9_findWays 7 rfl) rfl (by decide) rfl ?_
      refine X_jn (P := fun k => ∀ (σ_59 : Mm), X (wsOf SHC) RX9 cX9_findWays 3 none 5 0 59 [(0, .ref a0), (1, .int x1_2)] [] σ_59 (k σ_59)) (fun σ_59 => ?_) (fun k59 h59 => ?_)
      · refine X_iconst (v := (1 : Int32)) (pc := 59) (td kX9_findWays 37 rfl) (by decide) ?_
        refine X_istore_n (L' := [(2, .int (1 : Int32)), (0, .ref a0), (1, .int x1_2)]) (pc := 60) (td kX9_findWays 38 rfl) rfl (by decide) rfl ?_
        refine X_jn (P := fun k => ∀ (σ_81 : Mm), X (wsOf SHC) RX9 cX9_findWays 3 none 5 0 81 [(0, .ref a0), (1, .int x1_2)] [] σ_81 (k σ_81)) (fun σ_81 => ?_) (fun k81 h81 => ?_)
        · refine X_iinc (v := (x1_2 + (1 : Int32))) (L' := [(1, .int (x1_2 + (1 : Int32))), (0, .ref a0)]) (pc := 81) (td kX9_findWays 49 rfl) 1 rfl rfl (by decide) rfl ?_
          refine X_goto (pc := 84) (tgt := 2) (td kX9_findWays 50 rfl) (by decide) ?_
          refine X_sub [1, 0] rfl ?_
          exact hrec2 (x1_2 + (1 : Int32)) σ_81
        · refine X_sub [1, 2, 0] rfl ?_
          refine lq2_ind (P := fun x2_61 σ_61 E => X (wsOf SHC) RX9 cX9_findWays 3 none 5 0 61 [(0, .ref a0), (1, .int x1_2), (2, .int x2_61)] [] σ_61 E) (fun _ _ => X_none) (fun rec61 hrec61 x2_61 σ_61 => ?_) _ _ _
          unfold F_X9_findWays_61
          refine X_iload_n (pc := 61) (td kX9_findWays 39 rfl) rfl 2 rfl ?_
          refine X_aload_n (pc := 62) (td kX9_findWays 40 rfl) rfl 0 rfl ?_
          refine X_getI (pc := 63) a0_s0 rfl fk_X9_57 (td kX9_findWays 41 rfl) ?_
          refine X_icmp_ge (pc := 66) (tgt := 81) (td kX9_findWays 42 rfl) (by decide) (fun c_66 => ?_) (fun c_66 => ?_)
          · refine X_sub [0, 1] rfl ?_
            exact h81 σ_61
          · refine X_aload_n (pc := 69) (td kX9_findWays 43 rfl) rfl 0 rfl ?_
            refine X_iload_n (pc := 70) (td kX9_findWays 44 rfl) rfl 2 rfl ?_
            refine X_iload_n (pc := 71) (td kX9_findWays 45 rfl) rfl 1 rfl ?_
            refine X_callv (pc := 72) (As := [.int x2_61, .int x1_2]) (st := []) a0_s0 (x_X9_findWaysOfLength a0 x2_61 x1_2 σ_61) mkX9_findWaysOfLength lk_X9_80 (by omega) rfl rfl (Nat.le_of_ble_eq_true rfl) (td kX9_findWays 46 rfl) (fun _ σ72 _ => ?_)
            refine X_iinc (v := (x2_61 + (1 : Int32))) (L' := [(2, .int (x2_61 + (1 : Int32))), (0, .ref a0), (1, .int x1_2)]) (pc := 75) (td kX9_findWays 47 rfl) 2 rfl rfl (by decide) rfl ?_
            refine X_goto (pc := 78) (tgt := 61) (td kX9_findWays 48 rfl) (by decide) ?_
            refine X_sub [1, 2, 0] rfl ?_
            exact hrec61 (x2_61 + (1 : Int32)) σ72
      · refine X_sub [1, 2, 0] rfl ?_
        refine lq2_ind (P := fun x2_12 σ_12 E => X (wsOf SHC) RX9 cX9_findWays 3 none 5 0 12 [(0, .ref a0), (1, .int x1_2), (2, .int x2_12)] [] σ_12 E) (fun _ _ => X_none) (fun rec12 hrec12 x2_12 σ_12 => ?_) _ _ _
        unfold F_X9_findWays_12
        refine X_iload_n (pc := 12) (td kX9_findWays 8 rfl) rfl 2 rfl ?_
        refine X_aload_n (pc := 13) (td kX9_findWays 9 rfl) rfl 0 rfl ?_
        refine X_getI (pc := 14) a0_s0 rfl fk_X9_57 (td kX9_findWays 10 rfl) ?_
        refine X_icmp_ge (pc := 17) (tgt := 59) (td kX9_findWays 11 rfl) (by decide) (fun c_17 => ?_) (fun c_17 => ?_)
        · refine X_sub [0, 1] rfl ?_
          exact h59 σ_12
        · refine X_aload_n (pc := 20) (td kX9_findWays 12 rfl) rfl 0 rfl ?_
          refine X_getF (b := (a0 + 13)) (pc := 21) a0_s0 rfl fk_X9_51 (td kX9_findWays 13 rfl) ?_
          refine X_iload_n (pc := 24) (td kX9_findWays 14 rfl) rfl 2 rfl ?_
          refine X_bipush (v := (6 : Int32)) (pc := 25) (td kX9_findWays 15 rfl) (by decide) ?_
          refine X_imul (pc := 27) (td kX9_findWays 16 rfl) ?_
          refine X_iload_n (pc := 28) (td kX9_findWays 17 rfl) rfl 1 rfl ?_
          refine X_iadd (pc := 29) (td kX9_findWays 18 rfl) ?_
          refine X_iload_n (pc := 30) (td kX9_findWays 19 rfl) rfl 2 rfl ?_
          refine X_iload_n (pc := 31) (td kX9_findWays 20 rfl) rfl 1 rfl ?_
          refine X_jn (P := fun k => ∀ (y2_40 : Int32), X (wsOf SHC) RX9 cX9_findWays 3 none 5 0 40 [(0, .ref a0), (1, .int x1_2), (2, .int x2_12)] [.int y2_40, .int ((x2_12 * (6 : Int32)) + x1_2), .ref (a0 + 13)] σ_12 (k y2_40)) (fun y2_40 => ?_) (fun k40 h40 => ?_)
          · refine X_iast (pc := 40) a0_s13 (td kX9_findWays 25 rfl) (fun σ40 => ?_)
            refine X_aload_n (pc := 41) (td kX9_findWays 26 rfl) rfl 0 rfl ?_
            refine X_getF (b := (a0 + 14)) (pc := 42) a0_s0 rfl fk_X9_54 (td kX9_findWays 27 rfl) ?_
            refine X_iload_n (pc := 45) (td kX9_findWays 28 rfl) rfl 2 rfl ?_
            refine X_bipush (v := (6 : Int32)) (pc := 46) (td kX9_findWays 29 rfl) (by decide) ?_
            refine X_imul (pc := 48) (td kX9_findWays 30 rfl) ?_
            refine X_iload_n (pc := 49) (td kX9_findWays 31 rfl) rfl 1 rfl ?_
            refine X_iadd (pc := 50) (td kX9_findWays 32 rfl) ?_
            refine X_iconst (v := (-1 : Int32)) (pc := 51) (td kX9_findWays 33 rfl) (by decide) ?_
            refine X_iast (pc := 52) a0_s14 (td kX9_findWays 34 rfl) (fun σ52 => ?_)
            refine X_iinc (v := (x2_12 + (1 : Int32))) (L' := [(2, .int (x2_12 + (1 : Int32))), (0, .ref a0), (1, .int x1_2)]) (pc := 53) (td kX9_findWays 35 rfl) 2 rfl rfl (by decide) rfl ?_
            refine X_goto (pc := 56) (tgt := 12) (td kX9_findWays 36 rfl) (by decide) ?_
            refine X_sub [1, 2, 0] rfl ?_
            exact hrec12 (x2_12 + (1 : Int32)) σ52
          · refine X_icmp_ne (pc := 32) (tgt := 39) (td kX9_findWays 21 rfl) (by decide) (fun c_32 => ?_) (fun c_32 => ?_)
            · refine X_iconst (v := (-1 : Int32)) (pc := 39) (td kX9_findWays 24 rfl) (by decide) ?_
              exact h40 (-1 : Int32)
            · refine X_iconst (v := (0 : Int32)) (pc := 35) (td kX9_findWays 22 rfl) (by decide) ?_
              refine X_goto (pc := 36) (tgt := 40) (td kX9_findWays 23 rfl) (by decide) ?_
              exact h40 (0 : Int32)
