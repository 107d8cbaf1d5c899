/-! share and rests in the law -/
theorem iv_zv {σ μ : Mm} (h : Iv σ μ) (v : Int32) : Iv σ (pI μ 0 0 v) := by
  obtain ⟨t, T, D, N, a, l, w, s, n, hT, hN, hL, hA, hD, hW, hR, hM⟩ := h
  exact iv_q hT hN hL hA hD hW hR hM (fun _ _ _ _ _ => rfl) (fun _ _ => rfl) (fun _ _ => rfl) (QM.z μ v)
theorem v_share {σ μ : Mm} (h : Iv σ μ) (x : Int32) : (∃ σ' μ', fT_X11_share x σ = some (11, σ') ∧ f_X12_share x μ = some (0, μ') ∧ gI μ' 0 0 = 1 ∧ Iv σ' μ') ∨ (∃ r σ' μ', f_X11_share x σ = some (r, σ') ∧ f_X12_share x μ = some (r, μ') ∧ gI μ' 0 0 = 0 ∧ Iv σ' μ') := by
  obtain ⟨t, T, D, N, a, l, w, s, n, hT, hN, hL, hA, hD, hW, hR, hM⟩ := h
  have q := q_share (hT.bo hN) x
  by_cases v : ¬ x < 0 ∧ x < nI (tW T)
  · right
    obtain ⟨-, r, σ', μ', e1, e2, e3, o, qq⟩ := q.2 v
    have oo : ∀ b, b ∉ qC → ∀ k, gI σ' b k = gI σ b k := o.1
    exact ⟨r, σ', μ', e1, e2, e3, iv_q hT hN hL hA (hD.fr (oo 196 (by simp [qC])) (oo 206 (by simp [qC]))) hW hR hM (fun b h1 h2 h3 k => oo b (by simp [qC]; omega) k) o.2.1 o.2.2 qq⟩
  · left
    obtain ⟨e0, μ', e2, e3, qq⟩ := q.1 v
    refine ⟨σ, μ', ?_, e2, e3, iv_q hT hN hL hA hD hW hR hM (fun _ _ _ _ _ => rfl) (fun _ _ => rfl) (fun _ _ => rfl) qq⟩
    unfold fT_X11_share
    rw [bn_e, hT.2.1, ck_t hT.2.2.2.1.1, cl_of _ e0, if_pos rfl]
theorem v_rests {σ μ : Mm} (h : Iv σ μ) (a b c d : Int32) : (∃ q σ' μ', (q = 27 ∨ q = 86) ∧ fT_X11_rests a b c d σ = some (q, σ') ∧ f_X12_rests a b c d μ = some (0, μ') ∧ gI μ' 0 0 = 1 ∧ Iv σ' μ') ∨ (∃ r σ' μ', f_X11_rests a b c d σ = some (r, σ') ∧ f_X12_rests a b c d μ = some (r, μ') ∧ gI μ' 0 0 = 0 ∧ Iv σ' μ') := by
  by_cases v : payOk a b c d
  · obtain ⟨c1, c2⟩ := c_rests v σ
    have c3 := m_rests v μ
    cases e : rsF a b c d with
    | some k =>
      rw [e] at c1 c3
      exact Or.inr ⟨_, _, _, c1, c3, gI_pI_s _ _ _ _, iv_zv h 0⟩
    | none =>
      rw [e] at c1 c2 c3
      by_cases z : d = -1
      · simp only [if_pos z] at c1 c3
        exact Or.inr ⟨_, _, _, c1, c3, gI_pI_s _ _ _ _, iv_zv h 0⟩
      · simp only [if_neg z] at c2 c3
        exact Or.inl ⟨86, _, _, Or.inr rfl, c2, c3, gI_pI_s _ _ _ _, iv_zv h 1⟩
  · exact Or.inl ⟨27, _, _, Or.inl rfl, c_restsN v σ, m_restsN v μ, gI_pI_s _ _ _ _, iv_zv h 1⟩
theorem lgc0 (x : Int64) : lg_cmp x x = 0 := by
  unfold lg_cmp
  simp
set_option maxHeartbeats 4000000 in
theorem LX_help {L : Nat} {xs : Nat → Int32} {g pc : Nat} {lv : List (Nat × Value)} {st stk As : List Value} {σ μ σ' : Mm} {ov ov' : Nat → Int64} {y : MethodName} {cc : ByteArray} {nL n index : Nat} {hh : List (Nat × Nat × Nat × Nat)} {k : Int32} (hcon : HCon y cc nL hh As σ ov k σ' ov') (h1 : Cond.codeWith y cc nL (some .int) hh ∈ GT) (h2 : Cond.static y ∈ GT) (h3 : Cond.methodLink RL index y ∈ GT) (h4 : Cond.initialized y.cls ∈ GT) (h5 : y.cls ≠ "java/lang/invoke/MethodHandle" ∧ y.cls ≠ "java/lang/invoke/VarHandle" ∧ (parseMethodDescriptor y.desc).map (fun d => d.parameters.length) = some n) (hnL : nL ≤ 1000) (hn : As.length = n) (hst : stk = As.reverse ++ st) (hsum : (st.map fun v => v.category).sum ≤ 8) (hd : decode code pc = .ok (.invokestatic index, 3)) (kk : LX L xs g (pc + 3) lv (.int k :: st) σ' μ ov') : LX L xs (g + 1) pc lv stk σ μ ov := by
  intro D κ ρ p l e s m below meth c b hC H locs cells slots ls hcs hLS hl
  obtain ⟨⟨hx, hb, -, hml, hown, hts, -⟩, -, -, -, hK, hEN, hNW, hst0, -⟩ := id hC
  obtain ⟨hP1, hP2, hP3, hinj, hgeq, hS⟩ := id hLS
  have hM := hcon l D κ ρ H.size hst0
  have hF : ∀ q, AH ρ H.size q → s.heap.size ≤ q := fun q h => by
    rcases h with ⟨i, hi, rfl⟩ | rfl | h
    · exact hgeq i (Or.inl hi)
    · exact hgeq 3000 (Or.inr (Or.inr rfl))
    · exact Nat.le_trans hS.1 h
  have hT : GoodIn GT (va_wsS RL index y (Cond.codeWith y cc nL (some .int) hh :: GT)) := fun w hw => by
    unfold va_wsS at hw
    rcases List.mem_append.mp hw with q | q
    · simp only [List.mem_cons, List.not_mem_nil, or_false] at q
      rcases q with q | q | q
      · rw [q]; exact ⟨h3, gt_good h3⟩
      · rw [q]; exact ⟨h2, gt_good h2⟩
      · rw [q]; exact ⟨h4, gt_good h4⟩
    · exact gt_inW h1 w q
  have hstk : stk.map (tr ρ) = (As.map (tr ρ)).reverse ++ st.map (tr ρ) := by
    rw [hst, List.map_append, List.map_reverse]
  rw [hstk]
  refine va_calli (vx_runSW (hh := hh) (As := As.map (tr ρ)) (rest := st.map (tr ρ)) ⟨hx, hb, hml, hown, hts⟩ hM (vx_cwSW n hts hT rfl rfl rfl h5 ⟨by decide, by show 8 + (nL + 11) + 620 ≤ 84000; omega⟩) ⟨blH, fun U hU hW => ⟨rfl, by rw [hU], by rw [hU]; exact hP1, by rw [hU]; exact hP3, va_K.moved hW.alike hK, fun i j hi hj e9 => hinj i j (by unfold dmL; omega) (by unfold dmL; omega) e9, hEN.call hS hF hW hU, hNW.warm hW⟩⟩ rfl (by rw [List.length_map]; exact hn) hl.1 rfl (by show 2 * 0 + _ ≤ 8; rw [tr_sum]; omega) hd ⟨by show cells + 1 ≤ 601024; omega, by show slots + 16 ≤ 7293034; omega⟩) hS (fun q _ h => hF q h) hF (fun r2 u t H1 locs1 ht hvm hw hB hz1 hk1 hS1 => ?_)
  have hw : r2 = k := hw
  rw [hw]
  have hB : va_P D vwCl (wsOf SHC κ ρ σ') t.heap ∧ va_P D vwCl (wO κ ρ ov') t.heap := hB
  rw [ht] at hB
  refine kk D κ ρ p l e s m below meth c b hC H1 locs1 (cells + 1) (slots + 16) ls ⟨by omega, by omega⟩ ⟨hB.1, hP2.kept (fun i q hi => hk1 _ (va_at_lt (hP2 i q hi)) (fun h => ?_)), hB.2, hinj, hgeq, hS1⟩ hl
  obtain ⟨w1, w2⟩ := ws_mem hi
  rw [shm_len] at w1
  rw [rM_lt w1] at w2
  rcases h with ⟨j, hj, e9⟩ | e9 | h
  · have := hinj (2000 + i) j (Or.inr (Or.inl ⟨by omega, by omega⟩)) (Or.inl hj) (w2.symm.trans e9)
    omega
  · have := hinj (2000 + i) 3000 (Or.inr (Or.inl ⟨by omega, by omega⟩)) (Or.inr (Or.inr rfl)) (w2.symm.trans e9)
    omega
  · exact Nat.not_le.mpr (va_at_lt (hP2 i q hi)) h
set_option maxHeartbeats 4000000 in
theorem lw_c27 {L : Nat} {xs : Nat → Int32} {g j : Nat} {σ μ : Mm} {ov : Nat → Int64} (hj : j + 7 ≤ L) (hL : L ≤ 3584) (h : Iv σ μ) (nx : ∀ σ' μ' ov', Iv σ' μ' → LX L xs g 1277 (lws j) [] σ' μ' ov') : LX L xs (g + 1) 977 (lws j) [] σ μ ov := by
  have tail : ∀ (kv r : Int32) (σ' μ' : Mm) (ov' : Nat → Int64), HCon yHs method_3_code 4 [(0, 9, 12, 13)] [.ref 0, .int (xs (j + 1)), .ref 3000] σ ov kv σ' ov' → f_X12_share (xs (j + 1)) μ = some (r, μ') → gI μ' 0 0 = kv → (kv = 0 → ov' 0 = r.toInt64) → Iv σ' μ' → LX L xs (g + 1) 977 (lws j) [] σ μ ov := by
    intro kv r σ' μ' ov' hc e2 e3 e4 hi
    have c2 := x_X12_share (xs (j + 1)) μ
    rw [e2] at c2
    have c3 := x_X12_thrown μ'
    unfold f_X12_thrown at c3
    rw [e3] at c3
    refine LX_aload_n (pc := 977) (td kLw_9 24 rfl) rfl 1 rfl ?_
    refine LX_arg (pc := 978) (k := 1) (j := j) (by omega) hL rfl rfl (td kLw_9 25 rfl) (td kLw_9 26 rfl) (td kLw_9 27 rfl) (by decide) (td kLw_9 28 rfl) (td kLw_9 29 rfl) ?_
    refine LX_aload_n (pc := 984) (td kLw_9 30 rfl) rfl 3 rfl ?_
    refine LX_help (n := 3) (pc := 985) (As := [.ref 0, .int (xs (j + 1)), .ref 3000]) (st := []) hc hs_c hs_s hs_l hl_i (by decide +kernel) (by decide) rfl rfl (Nat.le_of_ble_eq_true rfl) (td kLw_9 31 rfl) ?_
    refine LX_istore (pc := 988) (td kLw_9 32 rfl) (by decide) rfl ?_
    refine LX_sub (lv' := lws j ++ [(5, .int kv)]) [1, 2, 3, 4, 5, 0] rfl ?_
    refine LX_aload_n (pc := 990) (td kLw_9 33 rfl) rfl 2 rfl ?_
    refine LX_arg (pc := 991) (k := 1) (j := j) (by omega) hL rfl rfl (td kLw_9 34 rfl) (td kLw_9 35 rfl) (td kLw_9 36 rfl) (by decide) (td kLw_9 37 rfl) (td kLw_9 38 rfl) ?_
    refine LX_mcalli (pc := 997) (As := [.int (xs (j + 1))]) (st := []) c2 mkX12_share lk_L_144 (by decide) rfl (fun _ => rfl) rfl (Nat.le_of_ble_eq_true rfl) (td kLw_9 39 rfl) ?_
    refine LX_istore (pc := 1000) (td kLw_9 40 rfl) (by decide) rfl ?_
    refine LX_sub (lv' := lws j ++ [(5, .int kv), (6, .int r)]) [1, 2, 3, 4, 5, 6, 0] rfl ?_
    refine LX_aload_n (pc := 1002) (td kLw_9 41 rfl) rfl 2 rfl ?_
    refine LX_mcalli (pc := 1003) (As := []) (st := []) c3 mkX12_thrown lk_L_145 (by decide) rfl (fun _ => rfl) rfl (Nat.le_of_ble_eq_true rfl) (td kLw_9 42 rfl) ?_
    refine LX_iload (pc := 1006) (td kLw_9 43 rfl) 5 rfl ?_
    refine LX_eqr (pc := 1008) (tgt := 1013) (td kLw_9 44 rfl) (by decide) rfl ?_
    refine LX_iload (pc := 1013) (td kLw_9 47 rfl) 5 rfl ?_
    have fin : LX L xs g 1030 (lws j ++ [(5, .int kv), (6, .int r)]) [] σ' μ' ov' := by
      refine LX_goto (pc := 1030) (tgt := 1277) (td kLw_9 58 rfl) (by decide) ?_
      refine LX_sub (lv' := lws j) [0, 1, 2, 3, 4] rfl ?_
      exact nx σ' μ' ov' hi
    refine LX_ifne (pc := 1015) (tgt := 1030) (td kLw_9 48 rfl) (by decide) (fun _ => fin) (fun z => ?_)
    refine LX_aload_n (pc := 1018) (td kLw_9 49 rfl) rfl 3 rfl ?_
    refine LX_iconst (pc := 1019) (v := 0) (td kLw_9 50 rfl) (by decide) ?_
    refine LX_old (pc := 1020) (td kLw_9 51 rfl) ?_
    refine LX_iload (pc := 1021) (td kLw_9 52 rfl) 6 rfl ?_
    refine LX_i2l (pc := 1023) (td kLw_9 53 rfl) ?_
    refine LX_lcmp (pc := 1024) (td kLw_9 54 rfl) ?_
    rw [e4 z, lgc0]
    exact LX_ifeq (pc := 1025) (tgt := 1030) (td kLw_9 55 rfl) (by decide) (fun _ => fin) (fun q => absurd rfl q)
  rcases v_share h (xs (j + 1)) with ⟨σ', μ', a1, a2, a3, a4⟩ | ⟨r, σ', μ', a1, a2, a3, a4⟩
  · exact tail 1 0 σ' μ' ov (h_share_t (t_share a1)) a2 a3 (fun z => absurd z one0) a4
  · have c1 := x_X11_share (xs (j + 1)) σ
    rw [a1] at c1
    exact tail 0 r σ' μ' _ (h_share_r c1) a2 a3 (fun _ => by unfold vp_updL; rw [if_pos rfl]) a4
set_option maxHeartbeats 4000000 in
theorem lw_c29 {L : Nat} {xs : Nat → Int32} {g j : Nat} {σ μ : Mm} {ov : Nat → Int64} (hj : j + 7 ≤ L) (hL : L ≤ 3584) (h : Iv σ μ) (nx : ∀ σ' μ' ov', Iv σ' μ' → LX L xs g 1277 (lws j) [] σ' μ' ov') : LX L xs (g + 1) 1058 (lws j) [] σ μ ov := by
  have tail : ∀ (kv r : Int32) (σ' μ' : Mm) (ov' : Nat → Int64), HCon yHr method_4_code 7 [(0, 14, 17, 13)] [.ref 0, .int (xs (j + 1)), .int (xs (j + 2)), .int (xs (j + 3)), .int (xs (j + 4)), .ref 3000] σ ov kv σ' ov' → f_X12_rests (xs (j + 1)) (xs (j + 2)) (xs (j + 3)) (xs (j + 4)) μ = some (r, μ') → gI μ' 0 0 = kv → (kv = 0 → ov' 0 = r.toInt64) → Iv σ' μ' → LX L xs (g + 1) 1058 (lws j) [] σ μ ov := by
    intro kv r σ' μ' ov' hc e2 e3 e4 hi
    have c2 := x_X12_rests (xs (j + 1)) (xs (j + 2)) (xs (j + 3)) (xs (j + 4)) μ
    rw [e2] at c2
    have c3 := x_X12_thrown μ'
    unfold f_X12_thrown at c3
    rw [e3] at c3
    refine LX_aload_n (pc := 1058) (td kLw_10 16 rfl) rfl 1 rfl ?_
    refine LX_arg (pc := 1059) (k := 1) (j := j) (by omega) hL rfl rfl (td kLw_10 17 rfl) (td kLw_10 18 rfl) (td kLw_10 19 rfl) (by decide) (td kLw_10 20 rfl) (td kLw_10 21 rfl) ?_
    refine LX_arg (pc := 1065) (k := 2) (j := j) (by omega) hL rfl rfl (td kLw_10 22 rfl) (td kLw_10 23 rfl) (td kLw_10 24 rfl) (by decide) (td kLw_10 25 rfl) (td kLw_10 26 rfl) ?_
    refine LX_arg (pc := 1071) (k := 3) (j := j) (by omega) hL rfl rfl (td kLw_10 27 rfl) (td kLw_10 28 rfl) (td kLw_10 29 rfl) (by decide) (td kLw_10 30 rfl) (td kLw_10 31 rfl) ?_
    refine LX_arg (pc := 1077) (k := 4) (j := j) (by omega) hL rfl rfl (td kLw_10 32 rfl) (td kLw_10 33 rfl) (td kLw_10 34 rfl) (by decide) (td kLw_10 35 rfl) (td kLw_10 36 rfl) ?_
    refine LX_aload_n (pc := 1083) (td kLw_10 37 rfl) rfl 3 rfl ?_
    refine LX_help (n := 6) (pc := 1084) (As := [.ref 0, .int (xs (j + 1)), .int (xs (j + 2)), .int (xs (j + 3)), .int (xs (j + 4)), .ref 3000]) (st := []) hc hr_c hr_s hr_l hl_i (by decide +kernel) (by decide) rfl rfl (Nat.le_of_ble_eq_true rfl) (td kLw_10 38 rfl) ?_
    refine LX_istore (pc := 1087) (td kLw_10 39 rfl) (by decide) rfl ?_
    refine LX_sub (lv' := lws j ++ [(5, .int kv)]) [1, 2, 3, 4, 5, 0] rfl ?_
    refine LX_aload_n (pc := 1089) (td kLw_10 40 rfl) rfl 2 rfl ?_
    refine LX_arg (pc := 1090) (k := 1) (j := j) (by omega) hL rfl rfl (td kLw_10 41 rfl) (td kLw_10 42 rfl) (td kLw_10 43 rfl) (by decide) (td kLw_10 44 rfl) (td kLw_10 45 rfl) ?_
    refine LX_arg (pc := 1096) (k := 2) (j := j) (by omega) hL rfl rfl (td kLw_10 46 rfl) (td kLw_10 47 rfl) (td kLw_10 48 rfl) (by decide) (td kLw_10 49 rfl) (td kLw_10 50 rfl) ?_
    refine LX_arg (pc := 1102) (k := 3) (j := j) (by omega) hL rfl rfl (td kLw_10 51 rfl) (td kLw_10 52 rfl) (td kLw_10 53 rfl) (by decide) (td kLw_10 54 rfl) (td kLw_10 55 rfl) ?_
    refine LX_arg (pc := 1108) (k := 4) (j := j) (by omega) hL rfl rfl (td kLw_10 56 rfl) (td kLw_10 57 rfl) (td kLw_10 58 rfl) (by decide) (td kLw_10 59 rfl) (td kLw_11 0 rfl) ?_
    refine LX_mcalli (pc := 1114) (As := [.int (xs (j + 1)), .int (xs (j + 2)), .int (xs (j + 3)), .int (xs (j + 4))]) (st := []) c2 mkX12_rests lk_L_155 (by decide) rfl (fun _ => rfl) rfl (Nat.le_of_ble_eq_true rfl) (td kLw_11 1 rfl) ?_
    refine LX_istore (pc := 1117) (td kLw_11 2 rfl) (by decide) rfl ?_
    refine LX_sub (lv' := lws j ++ [(5, .int kv), (6, .int r)]) [1, 2, 3, 4, 5, 6, 0] rfl ?_
    refine LX_aload_n (pc := 1119) (td kLw_11 3 rfl) rfl 2 rfl ?_
    refine LX_mcalli (pc := 1120) (As := []) (st := []) c3 mkX12_thrown lk_L_145 (by decide) rfl (fun _ => rfl) rfl (Nat.le_of_ble_eq_true rfl) (td kLw_11 4 rfl) ?_
    refine LX_iload (pc := 1123) (td kLw_11 5 rfl) 5 rfl ?_
    refine LX_eqr (pc := 1125) (tgt := 1130) (td kLw_11 6 rfl) (by decide) rfl ?_
    refine LX_iload (pc := 1130) (td kLw_11 9 rfl) 5 rfl ?_
    have fin : LX L xs g 1147 (lws j ++ [(5, .int kv), (6, .int r)]) [] σ' μ' ov' := by
      refine LX_goto (pc := 1147) (tgt := 1277) (td kLw_11 20 rfl) (by decide) ?_
      refine LX_sub (lv' := lws j) [0, 1, 2, 3, 4] rfl ?_
      exact nx σ' μ' ov' hi
    refine LX_ifne (pc := 1132) (tgt := 1147) (td kLw_11 10 rfl) (by decide) (fun _ => fin) (fun z => ?_)
    refine LX_aload_n (pc := 1135) (td kLw_11 11 rfl) rfl 3 rfl ?_
    refine LX_iconst (pc := 1136) (v := 0) (td kLw_11 12 rfl) (by decide) ?_
    refine LX_old (pc := 1137) (td kLw_11 13 rfl) ?_
    refine LX_iload (pc := 1138) (td kLw_11 14 rfl) 6 rfl ?_
    refine LX_i2l (pc := 1140) (td kLw_11 15 rfl) ?_
    refine LX_lcmp (pc := 1141) (td kLw_11 16 rfl) ?_
    rw [e4 z, lgc0]
    exact LX_ifeq (pc := 1142) (tgt := 1147) (td kLw_11 17 rfl) (by decide) (fun _ => fin) (fun q => absurd rfl q)
  rcases v_rests h (xs (j + 1)) (xs (j + 2)) (xs (j + 3)) (xs (j + 4)) with ⟨q, σ', μ', q1, a1, a2, a3, a4⟩ | ⟨r, σ', μ', a1, a2, a3, a4⟩
  · exact tail 1 0 σ' μ' ov (h_rests_t (t_rests a1 q1)) a2 a3 (fun z => absurd z one0) a4
  · have c1 := x_X11_rests (xs (j + 1)) (xs (j + 2)) (xs (j + 3)) (xs (j + 4)) σ
    rw [a1] at c1
    exact tail 0 r σ' μ' _ (h_rests_r c1) a2 a3 (fun _ => by unfold vp_updL; rw [if_pos rfl]) a4
