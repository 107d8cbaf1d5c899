/-! makers of the small kinds -/
theorem lenE3 {qs : List Nat} (h : qs.length = 3) : ∃ a0 a1 a2, qs = [a0, a1, a2] := by
  match qs, h with
  | [a0, a1, a2], _ => exact ⟨a0, a1, a2, rfl⟩
theorem lenE4 {qs : List Nat} (h : qs.length = 4) : ∃ a0 a1 a2 a3, qs = [a0, a1, a2, a3] := by
  match qs, h with
  | [a0, a1, a2, a3], _ => exact ⟨a0, a1, a2, a3, rfl⟩
theorem lenE7 {qs : List Nat} (h : qs.length = 7) : ∃ a0 a1 a2 a3 a4 a5 a6, qs = [a0, a1, a2, a3, a4, a5, a6] := by
  match qs, h with
  | [a0, a1, a2, a3, a4, a5, a6], _ => exact ⟨a0, a1, a2, a3, a4, a5, a6, rfl⟩
theorem no_X4 : Cond.methodLink RX4 3 Lib.objectInit ∈ GT := gt_t 151 (by decide +kernel) (by decide)
theorem no_X10 : Cond.methodLink RX10 1 Lib.objectInit ∈ GT := gt_t 225 (by decide +kernel) (by decide)
theorem no_X2 : Cond.methodLink RX2 1 Lib.objectInit ∈ GT := gt_t 255 (by decide +kernel) (by decide)
theorem no_X1 : Cond.methodLink RX1 1 Lib.objectInit ∈ GT := gt_t 337 (by decide +kernel) (by decide)
theorem no_X7 : Cond.methodLink RX7 1 Lib.objectInit ∈ GT := gt_t 39 (by decide +kernel) (by decide)
theorem no_X3 : Cond.methodLink RX3 1 Lib.objectInit ∈ GT := gt_t 247 (by decide +kernel) (by decide)
theorem nw_X3_7 : Cond.classLink RX3 7 RX4 ∈ GT := gt_t 248 (by decide +kernel) (by decide)
theorem nk_X4_a : Cond.instantiable RX4 11 ∈ GT := gt_t 147 (by decide +kernel) (by decide)
theorem nk_X4_b : Cond.initialized RX4 ∈ GT := gt_t 9 (by decide +kernel) (by decide)
theorem nk_X4_c : Cond.instanceMethod yX4_init ∈ GT := gt_t 149 (by decide +kernel) (by decide)
theorem nk_X4_d : Cond.code yX4_init cX4_init 1 none ∈ GT := gt_t 150 (by decide +kernel) (by decide)
theorem nk_X4_f : ∀ j, j < 11 → defaultValue (tyX4 j) = vp_V [.int 0, .int 0, .int 0, .null, .null, .null, .null, .null, .null, .int 0, .int 0] j := by
  intro j hj
  rcases (show j = 0 ∨ j = 1 ∨ j = 2 ∨ j = 3 ∨ j = 4 ∨ j = 5 ∨ j = 6 ∨ j = 7 ∨ j = 8 ∨ j = 9 ∨ j = 10 by omega) with rfl | rfl | rfl | rfl | rfl | rfl | rfl | rfl | rfl | rfl | rfl <;> rfl
theorem nw_X3_16 : Cond.classLink RX3 16 RX2 ∈ GT := gt_t 250 (by decide +kernel) (by decide)
theorem nk_X2_a : Cond.instantiable RX2 4 ∈ GT := gt_t 251 (by decide +kernel) (by decide)
theorem nk_X2_b : Cond.initialized RX2 ∈ GT := gt_t 13 (by decide +kernel) (by decide)
theorem nk_X2_c : Cond.instanceMethod yX2_init ∈ GT := gt_t 253 (by decide +kernel) (by decide)
theorem nk_X2_d : Cond.code yX2_init cX2_init 1 none ∈ GT := gt_t 254 (by decide +kernel) (by decide)
theorem nk_X2_f : ∀ j, j < 4 → defaultValue (tyX2 j) = vp_V [.int 0, .null, .null, .null] j := by
  intro j hj
  rcases (show j = 0 ∨ j = 1 ∨ j = 2 ∨ j = 3 by omega) with rfl | rfl | rfl | rfl <;> rfl
theorem nw_X3_23 : Cond.classLink RX3 23 RX10 ∈ GT := gt_t 275 (by decide +kernel) (by decide)
theorem nk_X10_a : Cond.instantiable RX10 4 ∈ GT := gt_t 221 (by decide +kernel) (by decide)
theorem nk_X10_b : Cond.initialized RX10 ∈ GT := gt_t 11 (by decide +kernel) (by decide)
theorem nk_X10_c : Cond.instanceMethod yX10_init ∈ GT := gt_t 223 (by decide +kernel) (by decide)
theorem nk_X10_d : Cond.code yX10_init cX10_init 1 none ∈ GT := gt_t 224 (by decide +kernel) (by decide)
theorem nk_X10_f : ∀ j, j < 4 → defaultValue (tyX10 j) = vp_V [.int 0, .null, .null, .null] j := by
  intro j hj
  rcases (show j = 0 ∨ j = 1 ∨ j = 2 ∨ j = 3 by omega) with rfl | rfl | rfl | rfl <;> rfl
theorem no_X0 : Cond.methodLink RX0 3 Lib.objectInit ∈ GT := gt_t 299 (by decide +kernel) (by decide)
theorem nw_X0_9 : Cond.classLink RX0 9 RX4 ∈ GT := gt_t 300 (by decide +kernel) (by decide)
theorem no_X9 : Cond.methodLink RX9 3 Lib.objectInit ∈ GT := gt_t 331 (by decide +kernel) (by decide)
theorem nw_X9_15 : Cond.classLink RX9 15 RX1 ∈ GT := gt_t 332 (by decide +kernel) (by decide)
theorem nk_X1_a : Cond.instantiable RX1 3 ∈ GT := gt_t 333 (by decide +kernel) (by decide)
theorem nk_X1_b : Cond.initialized RX1 ∈ GT := gt_t 16 (by decide +kernel) (by decide)
theorem nk_X1_c : Cond.instanceMethod yX1_init ∈ GT := gt_t 335 (by decide +kernel) (by decide)
theorem nk_X1_d : Cond.code yX1_init cX1_init 1 none ∈ GT := gt_t 336 (by decide +kernel) (by decide)
theorem nk_X1_f : ∀ j, j < 3 → defaultValue (tyX1 j) = vp_V [.null, .null, .int 0] j := by
  intro j hj
  rcases (show j = 0 ∨ j = 1 ∨ j = 2 by omega) with rfl | rfl | rfl <;> rfl
set_option maxHeartbeats 4000000 in
set_option maxRecDepth 100000 in
theorem n_X4 (D : va_G) (κ : FieldType → ClassId) (ρ : Nat → Nat) (h0 : Nat) : NCon yX4_init cX4_init 1 1 6 40 4 [.int 0, .int 0, .int 0, .null, .null, .null, .null, .null, .null, .int 0, .int 0] D κ ρ h0 [] (Gk (shNight 0) κ zM h0) := by
  refine NCon.of_NX (by decide +kernel) rfl (Nat.le_of_ble_eq_true rfl) ?_
  show NX RX4 cX4_init 1 1 D κ ρ _ 6 40 0 [(0, .ref h0)] [] [(h0, .inr (4, [.int 0, .int 0, .int 0, .null, .null, .null, .null, .null, .null, .int 0, .int 0]))]
  refine N_aload_n (pc := 0) (td kX4_init 0 rfl) rfl 0 rfl ?_
  refine N_obj (pc := 1) no_X4 (by decide) (Nat.le_of_ble_eq_true rfl) (td kX4_init 1 rfl) ?_
  refine N_aload_n (pc := 4) (td kX4_init 2 rfl) rfl 0 rfl ?_
  refine N_bipush (pc := 5) (v := 8) (td kX4_init 3 rfl) (by decide) ?_
  refine N_newa (pc := 7) (gc := 5) (gs := 32) (N' := 8) (atype := .int) (ty := .int) (a0 := (8, .inl (fun _ => 0))) 0 (fun _ => rfl) na_i rfl (fun _ => rfl) (by decide) rfl (by decide) (td kX4_init 4 rfl) (fun q1 => ?_)
  refine N_putF (pc := 9) (q0 := 0) fk_X4_9 (fun C T N h => by cases h; rfl) rfl rfl rfl (Nat.le_of_ble_eq_true rfl) (td kX4_init 5 rfl) ?_
  refine N_eq (w' := [(h0, .inr (4, [.int 0, .int 0, .int 0, .ref q1, .null, .null, .null, .null, .null, .int 0, .int 0])), (q1, .inl (κ .int, (8, .inl (fun _ => 0))))]) rfl ?_
  refine N_aload_n (pc := 12) (td kX4_init 6 rfl) rfl 0 rfl ?_
  refine N_bipush (pc := 13) (v := 6) (td kX4_init 7 rfl) (by decide) ?_
  refine N_newa (pc := 15) (gc := 4) (gs := 26) (N' := 6) (atype := .int) (ty := .int) (a0 := (6, .inl (fun _ => 0))) 0 (fun _ => rfl) na_i rfl (fun _ => rfl) (by decide) rfl (by decide) (td kX4_init 8 rfl) (fun q2 => ?_)
  refine N_putF (pc := 17) (q0 := 0) fk_X4_15 (fun C T N h => by cases h; rfl) rfl rfl rfl (Nat.le_of_ble_eq_true rfl) (td kX4_init 9 rfl) ?_
  refine N_eq (w' := [(h0, .inr (4, [.int 0, .int 0, .int 0, .ref q1, .ref q2, .null, .null, .null, .null, .int 0, .int 0])), (q1, .inl (κ .int, (8, .inl (fun _ => 0)))), (q2, .inl (κ .int, (6, .inl (fun _ => 0))))]) rfl ?_
  refine N_aload_n (pc := 20) (td kX4_init 10 rfl) rfl 0 rfl ?_
  refine N_bipush (pc := 21) (v := 6) (td kX4_init 11 rfl) (by decide) ?_
  refine N_newa (pc := 23) (gc := 3) (gs := 20) (N' := 6) (atype := .int) (ty := .int) (a0 := (6, .inl (fun _ => 0))) 0 (fun _ => rfl) na_i rfl (fun _ => rfl) (by decide) rfl (by decide) (td kX4_init 12 rfl) (fun q3 => ?_)
  refine N_putF (pc := 25) (q0 := 0) fk_X4_18 (fun C T N h => by cases h; rfl) rfl rfl rfl (Nat.le_of_ble_eq_true rfl) (td kX4_init 13 rfl) ?_
  refine N_eq (w' := [(h0, .inr (4, [.int 0, .int 0, .int 0, .ref q1, .ref q2, .ref q3, .null, .null, .null, .int 0, .int 0])), (q1, .inl (κ .int, (8, .inl (fun _ => 0)))), (q2, .inl (κ .int, (6, .inl (fun _ => 0)))), (q3, .inl (κ .int, (6, .inl (fun _ => 0))))]) rfl ?_
  refine N_aload_n (pc := 28) (td kX4_init 14 rfl) rfl 0 rfl ?_
  refine N_bipush (pc := 29) (v := 6) (td kX4_init 15 rfl) (by decide) ?_
  refine N_newa (pc := 31) (gc := 2) (gs := 14) (N' := 6) (atype := .int) (ty := .int) (a0 := (6, .inl (fun _ => 0))) 0 (fun _ => rfl) na_i rfl (fun _ => rfl) (by decide) rfl (by decide) (td kX4_init 16 rfl) (fun q4 => ?_)
  refine N_putF (pc := 33) (q0 := 0) fk_X4_21 (fun C T N h => by cases h; rfl) rfl rfl rfl (Nat.le_of_ble_eq_true rfl) (td kX4_init 17 rfl) ?_
  refine N_eq (w' := [(h0, .inr (4, [.int 0, .int 0, .int 0, .ref q1, .ref q2, .ref q3, .ref q4, .null, .null, .int 0, .int 0])), (q1, .inl (κ .int, (8, .inl (fun _ => 0)))), (q2, .inl (κ .int, (6, .inl (fun _ => 0)))), (q3, .inl (κ .int, (6, .inl (fun _ => 0)))), (q4, .inl (κ .int, (6, .inl (fun _ => 0))))]) rfl ?_
  refine N_aload_n (pc := 36) (td kX4_init 18 rfl) rfl 0 rfl ?_
  refine N_bipush (pc := 37) (v := 6) (td kX4_init 19 rfl) (by decide) ?_
  refine N_newa (pc := 39) (gc := 1) (gs := 8) (N' := 6) (atype := .int) (ty := .int) (a0 := (6, .inl (fun _ => 0))) 0 (fun _ => rfl) na_i rfl (fun _ => rfl) (by decide) rfl (by decide) (td kX4_init 20 rfl) (fun q5 => ?_)
  refine N_putF (pc := 41) (q0 := 0) fk_X4_24 (fun C T N h => by cases h; rfl) rfl rfl rfl (Nat.le_of_ble_eq_true rfl) (td kX4_init 21 rfl) ?_
  refine N_eq (w' := [(h0, .inr (4, [.int 0, .int 0, .int 0, .ref q1, .ref q2, .ref q3, .ref q4, .ref q5, .null, .int 0, .int 0])), (q1, .inl (κ .int, (8, .inl (fun _ => 0)))), (q2, .inl (κ .int, (6, .inl (fun _ => 0)))), (q3, .inl (κ .int, (6, .inl (fun _ => 0)))), (q4, .inl (κ .int, (6, .inl (fun _ => 0)))), (q5, .inl (κ .int, (6, .inl (fun _ => 0))))]) rfl ?_
  refine N_aload_n (pc := 44) (td kX4_init 22 rfl) rfl 0 rfl ?_
  refine N_bipush (pc := 45) (v := 8) (td kX4_init 23 rfl) (by decide) ?_
  refine N_newa (pc := 47) (gc := 0) (gs := 0) (N' := 8) (atype := .int) (ty := .int) (a0 := (8, .inl (fun _ => 0))) 0 (fun _ => rfl) na_i rfl (fun _ => rfl) (by decide) rfl (by decide) (td kX4_init 24 rfl) (fun q6 => ?_)
  refine N_putF (pc := 49) (q0 := 0) fk_X4_27 (fun C T N h => by cases h; rfl) rfl rfl rfl (Nat.le_of_ble_eq_true rfl) (td kX4_init 25 rfl) ?_
  refine N_eq (w' := [(h0, .inr (4, [.int 0, .int 0, .int 0, .ref q1, .ref q2, .ref q3, .ref q4, .ref q5, .ref q6, .int 0, .int 0])), (q1, .inl (κ .int, (8, .inl (fun _ => 0)))), (q2, .inl (κ .int, (6, .inl (fun _ => 0)))), (q3, .inl (κ .int, (6, .inl (fun _ => 0)))), (q4, .inl (κ .int, (6, .inl (fun _ => 0)))), (q5, .inl (κ .int, (6, .inl (fun _ => 0)))), (q6, .inl (κ .int, (8, .inl (fun _ => 0))))]) rfl ?_
  exact N_ret ⟨[h0, q1, q2, q3, q4, q5, q6], rfl, rfl, rfl⟩ (td kX4_init 26 rfl)
set_option maxHeartbeats 4000000 in
set_option maxRecDepth 100000 in
theorem n_X10 (D : va_G) (κ : FieldType → ClassId) (ρ : Nat → Nat) (h0 : Nat) : NCon yX10_init cX10_init 1 1 3 18 10 [.int 0, .null, .null, .null] D κ ρ h0 [] (Gk (shWatched 0) κ zM h0) := by
  refine NCon.of_NX (by decide +kernel) rfl (Nat.le_of_ble_eq_true rfl) ?_
  show NX RX10 cX10_init 1 1 D κ ρ _ 3 18 0 [(0, .ref h0)] [] [(h0, .inr (10, [.int 0, .null, .null, .null]))]
  refine N_aload_n (pc := 0) (td kX10_init 0 rfl) rfl 0 rfl ?_
  refine N_obj (pc := 1) no_X10 (by decide) (Nat.le_of_ble_eq_true rfl) (td kX10_init 1 rfl) ?_
  refine N_aload_n (pc := 4) (td kX10_init 2 rfl) rfl 0 rfl ?_
  refine N_bipush (pc := 5) (v := 6) (td kX10_init 3 rfl) (by decide) ?_
  refine N_newa (pc := 7) (gc := 2) (gs := 12) (N' := 6) (atype := .int) (ty := .int) (a0 := (6, .inl (fun _ => 0))) 0 (fun _ => rfl) na_i rfl (fun _ => rfl) (by decide) rfl (by decide) (td kX10_init 4 rfl) (fun q1 => ?_)
  refine N_putF (pc := 9) (q0 := 0) fk_X10_9 (fun C T N h => by cases h; rfl) rfl rfl rfl (Nat.le_of_ble_eq_true rfl) (td kX10_init 5 rfl) ?_
  refine N_eq (w' := [(h0, .inr (10, [.int 0, .ref q1, .null, .null])), (q1, .inl (κ .int, (6, .inl (fun _ => 0))))]) rfl ?_
  refine N_aload_n (pc := 12) (td kX10_init 6 rfl) rfl 0 rfl ?_
  refine N_bipush (pc := 13) (v := 6) (td kX10_init 7 rfl) (by decide) ?_
  refine N_newa (pc := 15) (gc := 1) (gs := 6) (N' := 6) (atype := .int) (ty := .int) (a0 := (6, .inl (fun _ => 0))) 0 (fun _ => rfl) na_i rfl (fun _ => rfl) (by decide) rfl (by decide) (td kX10_init 8 rfl) (fun q2 => ?_)
  refine N_putF (pc := 17) (q0 := 0) fk_X10_13 (fun C T N h => by cases h; rfl) rfl rfl rfl (Nat.le_of_ble_eq_true rfl) (td kX10_init 9 rfl) ?_
  refine N_eq (w' := [(h0, .inr (10, [.int 0, .ref q1, .ref q2, .null])), (q1, .inl (κ .int, (6, .inl (fun _ => 0)))), (q2, .inl (κ .int, (6, .inl (fun _ => 0))))]) rfl ?_
  refine N_aload_n (pc := 20) (td kX10_init 10 rfl) rfl 0 rfl ?_
  refine N_bipush (pc := 21) (v := 6) (td kX10_init 11 rfl) (by decide) ?_
  refine N_newa (pc := 23) (gc := 0) (gs := 0) (N' := 6) (atype := .boolean) (ty := .boolean) (a0 := (6, .inl (fun _ => 0))) 4 (fun _ => rfl) na_z rfl (fun _ => rfl) (by decide) rfl (by decide) (td kX10_init 12 rfl) (fun q3 => ?_)
  refine N_putF (pc := 25) (q0 := 0) fk_X10_16 (fun C T N h => by cases h; rfl) rfl rfl rfl (Nat.le_of_ble_eq_true rfl) (td kX10_init 13 rfl) ?_
  refine N_eq (w' := [(h0, .inr (10, [.int 0, .ref q1, .ref q2, .ref q3])), (q1, .inl (κ .int, (6, .inl (fun _ => 0)))), (q2, .inl (κ .int, (6, .inl (fun _ => 0)))), (q3, .inl (κ .boolean, (6, .inl (fun _ => 0))))]) rfl ?_
  exact N_ret ⟨[h0, q1, q2, q3], rfl, rfl, rfl⟩ (td kX10_init 14 rfl)
set_option maxHeartbeats 4000000 in
set_option maxRecDepth 100000 in
theorem n_X2 (D : va_G) (κ : FieldType → ClassId) (ρ : Nat → Nat) (h0 : Nat) : NCon yX2_init cX2_init 1 1 3 120 2 [.int 0, .null, .null, .null] D κ ρ h0 [] (Gk (shLines 0) κ zM h0) := by
  refine NCon.of_NX (by decide +kernel) rfl (Nat.le_of_ble_eq_true rfl) ?_
  show NX RX2 cX2_init 1 1 D κ ρ _ 3 120 0 [(0, .ref h0)] [] [(h0, .inr (2, [.int 0, .null, .null, .null]))]
  refine N_aload_n (pc := 0) (td kX2_init 0 rfl) rfl 0 rfl ?_
  refine N_obj (pc := 1) no_X2 (by decide) (Nat.le_of_ble_eq_true rfl) (td kX2_init 1 rfl) ?_
  refine N_aload_n (pc := 4) (td kX2_init 2 rfl) rfl 0 rfl ?_
  refine N_bipush (pc := 5) (v := 40) (td kX2_init 3 rfl) (by decide) ?_
  refine N_newa (pc := 7) (gc := 2) (gs := 80) (N' := 40) (atype := .byte) (ty := .byte) (a0 := (40, .inl (fun _ => 0))) 2 (fun _ => rfl) na_b rfl (fun _ => rfl) (by decide) rfl (by decide) (td kX2_init 4 rfl) (fun q1 => ?_)
  refine N_putF (pc := 9) (q0 := 0) fk_X2_9 (fun C T N h => by cases h; rfl) rfl rfl rfl (Nat.le_of_ble_eq_true rfl) (td kX2_init 5 rfl) ?_
  refine N_eq (w' := [(h0, .inr (2, [.int 0, .ref q1, .null, .null])), (q1, .inl (κ .byte, (40, .inl (fun _ => 0))))]) rfl ?_
  refine N_aload_n (pc := 12) (td kX2_init 6 rfl) rfl 0 rfl ?_
  refine N_bipush (pc := 13) (v := 40) (td kX2_init 7 rfl) (by decide) ?_
  refine N_newa (pc := 15) (gc := 1) (gs := 40) (N' := 40) (atype := .byte) (ty := .byte) (a0 := (40, .inl (fun _ => 0))) 2 (fun _ => rfl) na_b rfl (fun _ => rfl) (by decide) rfl (by decide) (td kX2_init 8 rfl) (fun q2 => ?_)
  refine N_putF (pc := 17) (q0 := 0) fk_X2_13 (fun C T N h => by cases h; rfl) rfl rfl rfl (Nat.le_of_ble_eq_true rfl) (td kX2_init 9 rfl) ?_
  refine N_eq (w' := [(h0, .inr (2, [.int 0, .ref q1, .ref q2, .null])), (q1, .inl (κ .byte, (40, .inl (fun _ => 0)))), (q2, .inl (κ .byte, (40, .inl (fun _ => 0))))]) rfl ?_
  refine N_aload_n (pc := 20) (td kX2_init 10 rfl) rfl 0 rfl ?_
  refine N_bipush (pc := 21) (v := 40) (td kX2_init 11 rfl) (by decide) ?_
  refine N_newa (pc := 23) (gc := 0) (gs := 0) (N' := 40) (atype := .byte) (ty := .byte) (a0 := (40, .inl (fun _ => 0))) 2 (fun _ => rfl) na_b rfl (fun _ => rfl) (by decide) rfl (by decide) (td kX2_init 12 rfl) (fun q3 => ?_)
  refine N_putF (pc := 25) (q0 := 0) fk_X2_16 (fun C T N h => by cases h; rfl) rfl rfl rfl (Nat.le_of_ble_eq_true rfl) (td kX2_init 13 rfl) ?_
  refine N_eq (w' := [(h0, .inr (2, [.int 0, .ref q1, .ref q2, .ref q3])), (q1, .inl (κ .byte, (40, .inl (fun _ => 0)))), (q2, .inl (κ .byte, (40, .inl (fun _ => 0)))), (q3, .inl (κ .byte, (40, .inl (fun _ => 0))))]) rfl ?_
  exact N_ret ⟨[h0, q1, q2, q3], rfl, rfl, rfl⟩ (td kX2_init 14 rfl)
set_option maxHeartbeats 4000000 in
set_option maxRecDepth 100000 in
theorem n_X1 (D : va_G) (κ : FieldType → ClassId) (ρ : Nat → Nat) (h0 : Nat) : NCon yX1_init cX1_init 1 1 2 1032 1 [.null, .null, .int 0] D κ ρ h0 [] (Gk (shLaw 0) κ zM h0) := by
  refine NCon.of_NX (by decide +kernel) rfl (Nat.le_of_ble_eq_true rfl) ?_
  show NX RX1 cX1_init 1 1 D κ ρ _ 2 1032 0 [(0, .ref h0)] [] [(h0, .inr (1, [.null, .null, .int 0]))]
  refine N_aload_n (pc := 0) (td kX1_init 0 rfl) rfl 0 rfl ?_
  refine N_obj (pc := 1) no_X1 (by decide) (Nat.le_of_ble_eq_true rfl) (td kX1_init 1 rfl) ?_
  refine N_aload_n (pc := 4) (td kX1_init 2 rfl) rfl 0 rfl ?_
  refine N_sipush (pc := 5) (v := 1000) (td kX1_init 3 rfl) (by decide) ?_
  refine N_newa (pc := 8) (gc := 1) (gs := 32) (N' := 1000) (atype := .short) (ty := .short) (a0 := (1000, .inl (fun _ => 0))) 3 (fun _ => rfl) na_s rfl (fun _ => rfl) (by decide) rfl (by decide) (td kX1_init 4 rfl) (fun q1 => ?_)
  refine N_putF (pc := 10) (q0 := 0) fk_X1_9 (fun C T N h => by cases h; rfl) rfl rfl rfl (Nat.le_of_ble_eq_true rfl) (td kX1_init 5 rfl) ?_
  refine N_eq (w' := [(h0, .inr (1, [.ref q1, .null, .int 0])), (q1, .inl (κ .short, (1000, .inl (fun _ => 0))))]) rfl ?_
  refine N_aload_n (pc := 13) (td kX1_init 6 rfl) rfl 0 rfl ?_
  refine N_bipush (pc := 14) (v := 32) (td kX1_init 7 rfl) (by decide) ?_
  refine N_newa (pc := 16) (gc := 0) (gs := 0) (N' := 32) (atype := .int) (ty := .int) (a0 := (32, .inl (fun _ => 0))) 0 (fun _ => rfl) na_i rfl (fun _ => rfl) (by decide) rfl (by decide) (td kX1_init 8 rfl) (fun q2 => ?_)
  refine N_putF (pc := 18) (q0 := 0) fk_X1_15 (fun C T N h => by cases h; rfl) rfl rfl rfl (Nat.le_of_ble_eq_true rfl) (td kX1_init 9 rfl) ?_
  refine N_eq (w' := [(h0, .inr (1, [.ref q1, .ref q2, .int 0])), (q1, .inl (κ .short, (1000, .inl (fun _ => 0)))), (q2, .inl (κ .int, (32, .inl (fun _ => 0))))]) rfl ?_
  exact N_ret ⟨[h0, q1, q2], rfl, rfl, rfl⟩ (td kX1_init 10 rfl)
def shTape : List Sh := [.inr (7, [(3, 1), (0, 0)]), .inl (.byte, 1000, z0)]
set_option maxHeartbeats 4000000 in
set_option maxRecDepth 100000 in
theorem n_X7 (D : va_G) (κ : FieldType → ClassId) (ρ : Nat → Nat) (h0 : Nat) : NCon yX7_init cX7_init 1 1 1 1000 7 [.null, .int 0] D κ ρ h0 [] (Gk (shTape) κ zM h0) := by
  refine NCon.of_NX (by decide +kernel) rfl (Nat.le_of_ble_eq_true rfl) ?_
  show NX RX7 cX7_init 1 1 D κ ρ _ 1 1000 0 [(0, .ref h0)] [] [(h0, .inr (7, [.null, .int 0]))]
  refine N_aload_n (pc := 0) (td kX7_init 0 rfl) rfl 0 rfl ?_
  refine N_obj (pc := 1) no_X7 (by decide) (Nat.le_of_ble_eq_true rfl) (td kX7_init 1 rfl) ?_
  refine N_aload_n (pc := 4) (td kX7_init 2 rfl) rfl 0 rfl ?_
  refine N_sipush (pc := 5) (v := 1000) (td kX7_init 3 rfl) (by decide) ?_
  refine N_newa (pc := 8) (gc := 0) (gs := 0) (N' := 1000) (atype := .byte) (ty := .byte) (a0 := (1000, .inl (fun _ => 0))) 2 (fun _ => rfl) na_b rfl (fun _ => rfl) (by decide) rfl (by decide) (td kX7_init 4 rfl) (fun q1 => ?_)
  refine N_putF (pc := 10) (q0 := 0) fk_X7_9 (fun C T N h => by cases h; rfl) rfl rfl rfl (Nat.le_of_ble_eq_true rfl) (td kX7_init 5 rfl) ?_
  refine N_eq (w' := [(h0, .inr (7, [.ref q1, .int 0])), (q1, .inl (κ .byte, (1000, .inl (fun _ => 0))))]) rfl ?_
  exact N_ret ⟨[h0, q1], rfl, rfl, rfl⟩ (td kX7_init 6 rfl)
set_option maxHeartbeats 4000000 in
set_option maxRecDepth 100000 in
theorem n_X3 (D : va_G) (κ : FieldType → ClassId) (ρ : Nat → Nat) (h0 : Nat) : NCon yX3_init cX3_init 1 2 15 197 3 [.int 0, .null, .null, .null] D κ ρ h0 [] (Gk (shMark 0) κ zM h0) := by
  refine NCon.of_NX (by decide +kernel) rfl (Nat.le_of_ble_eq_true rfl) ?_
  show NX RX3 cX3_init 1 2 D κ ρ _ 15 197 0 [(0, .ref h0)] [] [(h0, .inr (3, [.int 0, .null, .null, .null]))]
  refine N_aload_n (pc := 0) (td kX3_init 0 rfl) rfl 0 rfl ?_
  refine N_obj (pc := 1) no_X3 (by decide) (Nat.le_of_ble_eq_true rfl) (td kX3_init 1 rfl) ?_
  refine N_aload_n (pc := 4) (td kX3_init 2 rfl) rfl 0 rfl ?_
  refine N_new (ci := 4) (pc := 5) (gc := 14) (gs := 186) tyX4 rfl wi_X4 tyX4_ok nw_X3_7 nk_X4_a nk_X4_b nk_X4_f (td kX3_init 3 rfl) (fun q1 => ?_)
  refine N_dup (pc := 8) (td kX3_init 4 rfl) rfl ?_
  refine N_callN (w := [(h0, .inr (3, [.int 0, .null, .null, .null]))]) (pc := 9) (gc := 8) (gs := 146) (st := [.ref q1, .ref h0]) (n_X4 D κ ρ q1) (by decide +kernel) nk_X4_c nk_X4_d nk_X4_b (by decide +kernel) rfl (by decide) (by decide) rfl rfl (Nat.le_of_ble_eq_true rfl) (td kX3_init 5 rfl) (fun w1 hG => ?_)
  obtain ⟨qs, hlen, hq0, rfl⟩ := hG
  obtain ⟨q1_0, q1_1, q1_2, q1_3, q1_4, q1_5, q1_6, rfl⟩ := lenE7 hlen
  have hq0 : q1_0 = q1 := hq0
  subst hq0
  refine N_eq (w' := [(h0, .inr (3, [.int 0, .null, .null, .null])), (q1_0, .inr (4, [.int 0, .int 0, .int 0, .ref q1_1, .ref q1_2, .ref q1_3, .ref q1_4, .ref q1_5, .ref q1_6, .int 0, .int 0])), (q1_1, .inl (κ .int, (8, .inl (fun _ => 0)))), (q1_2, .inl (κ .int, (6, .inl (fun _ => 0)))), (q1_3, .inl (κ .int, (6, .inl (fun _ => 0)))), (q1_4, .inl (κ .int, (6, .inl (fun _ => 0)))), (q1_5, .inl (κ .int, (6, .inl (fun _ => 0)))), (q1_6, .inl (κ .int, (8, .inl (fun _ => 0))))]) rfl ?_
  refine N_putF (pc := 12) (q0 := 0) fk_X3_10 (fun C T N h => by cases h; rfl) rfl rfl rfl (Nat.le_of_ble_eq_true rfl) (td kX3_init 6 rfl) ?_
  refine N_eq (w' := [(h0, .inr (3, [.int 0, .ref q1_0, .null, .null])), (q1_0, .inr (4, [.int 0, .int 0, .int 0, .ref q1_1, .ref q1_2, .ref q1_3, .ref q1_4, .ref q1_5, .ref q1_6, .int 0, .int 0])), (q1_1, .inl (κ .int, (8, .inl (fun _ => 0)))), (q1_2, .inl (κ .int, (6, .inl (fun _ => 0)))), (q1_3, .inl (κ .int, (6, .inl (fun _ => 0)))), (q1_4, .inl (κ .int, (6, .inl (fun _ => 0)))), (q1_5, .inl (κ .int, (6, .inl (fun _ => 0)))), (q1_6, .inl (κ .int, (8, .inl (fun _ => 0))))]) rfl ?_
  refine N_aload_n (pc := 15) (td kX3_init 7 rfl) rfl 0 rfl ?_
  refine N_new (ci := 2) (pc := 16) (gc := 7) (gs := 142) tyX2 rfl wi_X2 tyX2_ok nw_X3_16 nk_X2_a nk_X2_b nk_X2_f (td kX3_init 8 rfl) (fun q2 => ?_)
  refine N_dup (pc := 19) (td kX3_init 9 rfl) rfl ?_
  refine N_callN (w := [(h0, .inr (3, [.int 0, .ref q1_0, .null, .null])), (q1_0, .inr (4, [.int 0, .int 0, .int 0, .ref q1_1, .ref q1_2, .ref q1_3, .ref q1_4, .ref q1_5, .ref q1_6, .int 0, .int 0])), (q1_1, .inl (κ .int, (8, .inl (fun _ => 0)))), (q1_2, .inl (κ .int, (6, .inl (fun _ => 0)))), (q1_3, .inl (κ .int, (6, .inl (fun _ => 0)))), (q1_4, .inl (κ .int, (6, .inl (fun _ => 0)))), (q1_5, .inl (κ .int, (6, .inl (fun _ => 0)))), (q1_6, .inl (κ .int, (8, .inl (fun _ => 0))))]) (pc := 20) (gc := 4) (gs := 22) (st := [.ref q2, .ref h0]) (n_X2 D κ ρ q2) (by decide +kernel) nk_X2_c nk_X2_d nk_X2_b (by decide +kernel) rfl (by decide) (by decide) rfl rfl (Nat.le_of_ble_eq_true rfl) (td kX3_init 10 rfl) (fun w1 hG => ?_)
  obtain ⟨qs, hlen, hq0, rfl⟩ := hG
  obtain ⟨q2_0, q2_1, q2_2, q2_3, rfl⟩ := lenE4 hlen
  have hq0 : q2_0 = q2 := hq0
  subst hq0
  refine N_eq (w' := [(h0, .inr (3, [.int 0, .ref q1_0, .null, .null])), (q1_0, .inr (4, [.int 0, .int 0, .int 0, .ref q1_1, .ref q1_2, .ref q1_3, .ref q1_4, .ref q1_5, .ref q1_6, .int 0, .int 0])), (q1_1, .inl (κ .int, (8, .inl (fun _ => 0)))), (q1_2, .inl (κ .int, (6, .inl (fun _ => 0)))), (q1_3, .inl (κ .int, (6, .inl (fun _ => 0)))), (q1_4, .inl (κ .int, (6, .inl (fun _ => 0)))), (q1_5, .inl (κ .int, (6, .inl (fun _ => 0)))), (q1_6, .inl (κ .int, (8, .inl (fun _ => 0)))), (q2_0, .inr (2, [.int 0, .ref q2_1, .ref q2_2, .ref q2_3])), (q2_1, .inl (κ .byte, (40, .inl (fun _ => 0)))), (q2_2, .inl (κ .byte, (40, .inl (fun _ => 0)))), (q2_3, .inl (κ .byte, (40, .inl (fun _ => 0))))]) rfl ?_
  refine N_putF (pc := 23) (q0 := 0) fk_X3_19 (fun C T N h => by cases h; rfl) rfl rfl rfl (Nat.le_of_ble_eq_true rfl) (td kX3_init 11 rfl) ?_
  refine N_eq (w' := [(h0, .inr (3, [.int 0, .ref q1_0, .ref q2_0, .null])), (q1_0, .inr (4, [.int 0, .int 0, .int 0, .ref q1_1, .ref q1_2, .ref q1_3, .ref q1_4, .ref q1_5, .ref q1_6, .int 0, .int 0])), (q1_1, .inl (κ .int, (8, .inl (fun _ => 0)))), (q1_2, .inl (κ .int, (6, .inl (fun _ => 0)))), (q1_3, .inl (κ .int, (6, .inl (fun _ => 0)))), (q1_4, .inl (κ .int, (6, .inl (fun _ => 0)))), (q1_5, .inl (κ .int, (6, .inl (fun _ => 0)))), (q1_6, .inl (κ .int, (8, .inl (fun _ => 0)))), (q2_0, .inr (2, [.int 0, .ref q2_1, .ref q2_2, .ref q2_3])), (q2_1, .inl (κ .byte, (40, .inl (fun _ => 0)))), (q2_2, .inl (κ .byte, (40, .inl (fun _ => 0)))), (q2_3, .inl (κ .byte, (40, .inl (fun _ => 0))))]) rfl ?_
  refine N_aload_n (pc := 26) (td kX3_init 12 rfl) rfl 0 rfl ?_
  refine N_new (ci := 10) (pc := 27) (gc := 3) (gs := 18) tyX10 rfl wi_X10 tyX10_ok nw_X3_23 nk_X10_a nk_X10_b nk_X10_f (td kX3_init 13 rfl) (fun q3 => ?_)
  refine N_dup (pc := 30) (td kX3_init 14 rfl) rfl ?_
  refine N_callN (w := [(h0, .inr (3, [.int 0, .ref q1_0, .ref q2_0, .null])), (q1_0, .inr (4, [.int 0, .int 0, .int 0, .ref q1_1, .ref q1_2, .ref q1_3, .ref q1_4, .ref q1_5, .ref q1_6, .int 0, .int 0])), (q1_1, .inl (κ .int, (8, .inl (fun _ => 0)))), (q1_2, .inl (κ .int, (6, .inl (fun _ => 0)))), (q1_3, .inl (κ .int, (6, .inl (fun _ => 0)))), (q1_4, .inl (κ .int, (6, .inl (fun _ => 0)))), (q1_5, .inl (κ .int, (6, .inl (fun _ => 0)))), (q1_6, .inl (κ .int, (8, .inl (fun _ => 0)))), (q2_0, .inr (2, [.int 0, .ref q2_1, .ref q2_2, .ref q2_3])), (q2_1, .inl (κ .byte, (40, .inl (fun _ => 0)))), (q2_2, .inl (κ .byte, (40, .inl (fun _ => 0)))), (q2_3, .inl (κ .byte, (40, .inl (fun _ => 0))))]) (pc := 31) (gc := 0) (gs := 0) (st := [.ref q3, .ref h0]) (n_X10 D κ ρ q3) (by decide +kernel) nk_X10_c nk_X10_d nk_X10_b (by decide +kernel) rfl (by decide) (by decide) rfl rfl (Nat.le_of_ble_eq_true rfl) (td kX3_init 15 rfl) (fun w1 hG => ?_)
  obtain ⟨qs, hlen, hq0, rfl⟩ := hG
  obtain ⟨q3_0, q3_1, q3_2, q3_3, rfl⟩ := lenE4 hlen
  have hq0 : q3_0 = q3 := hq0
  subst hq0
  refine N_eq (w' := [(h0, .inr (3, [.int 0, .ref q1_0, .ref q2_0, .null])), (q1_0, .inr (4, [.int 0, .int 0, .int 0, .ref q1_1, .ref q1_2, .ref q1_3, .ref q1_4, .ref q1_5, .ref q1_6, .int 0, .int 0])), (q1_1, .inl (κ .int, (8, .inl (fun _ => 0)))), (q1_2, .inl (κ .int, (6, .inl (fun _ => 0)))), (q1_3, .inl (κ .int, (6, .inl (fun _ => 0)))), (q1_4, .inl (κ .int, (6, .inl (fun _ => 0)))), (q1_5, .inl (κ .int, (6, .inl (fun _ => 0)))), (q1_6, .inl (κ .int, (8, .inl (fun _ => 0)))), (q2_0, .inr (2, [.int 0, .ref q2_1, .ref q2_2, .ref q2_3])), (q2_1, .inl (κ .byte, (40, .inl (fun _ => 0)))), (q2_2, .inl (κ .byte, (40, .inl (fun _ => 0)))), (q2_3, .inl (κ .byte, (40, .inl (fun _ => 0)))), (q3_0, .inr (10, [.int 0, .ref q3_1, .ref q3_2, .ref q3_3])), (q3_1, .inl (κ .int, (6, .inl (fun _ => 0)))), (q3_2, .inl (κ .int, (6, .inl (fun _ => 0)))), (q3_3, .inl (κ .boolean, (6, .inl (fun _ => 0))))]) rfl ?_
  refine N_putF (pc := 34) (q0 := 0) fk_X3_26 (fun C T N h => by cases h; rfl) rfl rfl rfl (Nat.le_of_ble_eq_true rfl) (td kX3_init 16 rfl) ?_
  refine N_eq (w' := [(h0, .inr (3, [.int 0, .ref q1_0, .ref q2_0, .ref q3_0])), (q1_0, .inr (4, [.int 0, .int 0, .int 0, .ref q1_1, .ref q1_2, .ref q1_3, .ref q1_4, .ref q1_5, .ref q1_6, .int 0, .int 0])), (q1_1, .inl (κ .int, (8, .inl (fun _ => 0)))), (q1_2, .inl (κ .int, (6, .inl (fun _ => 0)))), (q1_3, .inl (κ .int, (6, .inl (fun _ => 0)))), (q1_4, .inl (κ .int, (6, .inl (fun _ => 0)))), (q1_5, .inl (κ .int, (6, .inl (fun _ => 0)))), (q1_6, .inl (κ .int, (8, .inl (fun _ => 0)))), (q2_0, .inr (2, [.int 0, .ref q2_1, .ref q2_2, .ref q2_3])), (q2_1, .inl (κ .byte, (40, .inl (fun _ => 0)))), (q2_2, .inl (κ .byte, (40, .inl (fun _ => 0)))), (q2_3, .inl (κ .byte, (40, .inl (fun _ => 0)))), (q3_0, .inr (10, [.int 0, .ref q3_1, .ref q3_2, .ref q3_3])), (q3_1, .inl (κ .int, (6, .inl (fun _ => 0)))), (q3_2, .inl (κ .int, (6, .inl (fun _ => 0)))), (q3_3, .inl (κ .boolean, (6, .inl (fun _ => 0))))]) rfl ?_
  exact N_ret ⟨[h0, q1_0, q1_1, q1_2, q1_3, q1_4, q1_5, q1_6, q2_0, q2_1, q2_2, q2_3, q3_0, q3_1, q3_2, q3_3], rfl, rfl, rfl⟩ (td kX3_init 17 rfl)
def shAhead : List Sh := [.inr (0, [(3, 1), (3, 8), (3, 9), (0, 0), (0, 0), (0, 0), (3, 10)])] ++ shNight 1 ++ [.inl (.int, 6, z0), .inl (.int, 8, z0), .inl (.int, 6, z0)]
set_option maxHeartbeats 4000000 in
set_option maxRecDepth 100000 in
theorem n_X0 (D : va_G) (κ : FieldType → ClassId) (ρ : Nat → Nat) (h0 : Nat) : NCon yX0_init cX0_init 1 2 10 71 0 [.null, .null, .null, .int 0, .int 0, .int 0, .null] D κ ρ h0 [] (Gk (shAhead) κ zM h0) := by
  refine NCon.of_NX (by decide +kernel) rfl (Nat.le_of_ble_eq_true rfl) ?_
  show NX RX0 cX0_init 1 2 D κ ρ _ 10 71 0 [(0, .ref h0)] [] [(h0, .inr (0, [.null, .null, .null, .int 0, .int 0, .int 0, .null]))]
  refine N_aload_n (pc := 0) (td kX0_init 0 rfl) rfl 0 rfl ?_
  refine N_obj (pc := 1) no_X0 (by decide) (Nat.le_of_ble_eq_true rfl) (td kX0_init 1 rfl) ?_
  refine N_aload_n (pc := 4) (td kX0_init 2 rfl) rfl 0 rfl ?_
  refine N_new (ci := 4) (pc := 5) (gc := 9) (gs := 60) tyX4 rfl wi_X4 tyX4_ok nw_X0_9 nk_X4_a nk_X4_b nk_X4_f (td kX0_init 3 rfl) (fun q1 => ?_)
  refine N_dup (pc := 8) (td kX0_init 4 rfl) rfl ?_
  refine N_callN (w := [(h0, .inr (0, [.null, .null, .null, .int 0, .int 0, .int 0, .null]))]) (pc := 9) (gc := 3) (gs := 20) (st := [.ref q1, .ref h0]) (n_X4 D κ ρ q1) (by decide +kernel) nk_X4_c nk_X4_d nk_X4_b (by decide +kernel) rfl (by decide) (by decide) rfl rfl (Nat.le_of_ble_eq_true rfl) (td kX0_init 5 rfl) (fun w1 hG => ?_)
  obtain ⟨qs, hlen, hq0, rfl⟩ := hG
  obtain ⟨q1_0, q1_1, q1_2, q1_3, q1_4, q1_5, q1_6, rfl⟩ := lenE7 hlen
  have hq0 : q1_0 = q1 := hq0
  subst hq0
  refine N_eq (w' := [(h0, .inr (0, [.null, .null, .null, .int 0, .int 0, .int 0, .null])), (q1_0, .inr (4, [.int 0, .int 0, .int 0, .ref q1_1, .ref q1_2, .ref q1_3, .ref q1_4, .ref q1_5, .ref q1_6, .int 0, .int 0])), (q1_1, .inl (κ .int, (8, .inl (fun _ => 0)))), (q1_2, .inl (κ .int, (6, .inl (fun _ => 0)))), (q1_3, .inl (κ .int, (6, .inl (fun _ => 0)))), (q1_4, .inl (κ .int, (6, .inl (fun _ => 0)))), (q1_5, .inl (κ .int, (6, .inl (fun _ => 0)))), (q1_6, .inl (κ .int, (8, .inl (fun _ => 0))))]) rfl ?_
  refine N_putF (pc := 12) (q0 := 0) fk_X0_12 (fun C T N h => by cases h; rfl) rfl rfl rfl (Nat.le_of_ble_eq_true rfl) (td kX0_init 6 rfl) ?_
  refine N_eq (w' := [(h0, .inr (0, [.ref q1_0, .null, .null, .int 0, .int 0, .int 0, .null])), (q1_0, .inr (4, [.int 0, .int 0, .int 0, .ref q1_1, .ref q1_2, .ref q1_3, .ref q1_4, .ref q1_5, .ref q1_6, .int 0, .int 0])), (q1_1, .inl (κ .int, (8, .inl (fun _ => 0)))), (q1_2, .inl (κ .int, (6, .inl (fun _ => 0)))), (q1_3, .inl (κ .int, (6, .inl (fun _ => 0)))), (q1_4, .inl (κ .int, (6, .inl (fun _ => 0)))), (q1_5, .inl (κ .int, (6, .inl (fun _ => 0)))), (q1_6, .inl (κ .int, (8, .inl (fun _ => 0))))]) rfl ?_
  refine N_aload_n (pc := 15) (td kX0_init 7 rfl) rfl 0 rfl ?_
  refine N_bipush (pc := 16) (v := 6) (td kX0_init 8 rfl) (by decide) ?_
  refine N_newa (pc := 18) (gc := 2) (gs := 14) (N' := 6) (atype := .int) (ty := .int) (a0 := (6, .inl (fun _ => 0))) 0 (fun _ => rfl) na_i rfl (fun _ => rfl) (by decide) rfl (by decide) (td kX0_init 9 rfl) (fun q2 => ?_)
  refine N_putF (pc := 20) (q0 := 0) fk_X0_18 (fun C T N h => by cases h; rfl) rfl rfl rfl (Nat.le_of_ble_eq_true rfl) (td kX0_init 10 rfl) ?_
  refine N_eq (w' := [(h0, .inr (0, [.ref q1_0, .ref q2, .null, .int 0, .int 0, .int 0, .null])), (q1_0, .inr (4, [.int 0, .int 0, .int 0, .ref q1_1, .ref q1_2, .ref q1_3, .ref q1_4, .ref q1_5, .ref q1_6, .int 0, .int 0])), (q1_1, .inl (κ .int, (8, .inl (fun _ => 0)))), (q1_2, .inl (κ .int, (6, .inl (fun _ => 0)))), (q1_3, .inl (κ .int, (6, .inl (fun _ => 0)))), (q1_4, .inl (κ .int, (6, .inl (fun _ => 0)))), (q1_5, .inl (κ .int, (6, .inl (fun _ => 0)))), (q1_6, .inl (κ .int, (8, .inl (fun _ => 0)))), (q2, .inl (κ .int, (6, .inl (fun _ => 0))))]) rfl ?_
  refine N_aload_n (pc := 23) (td kX0_init 11 rfl) rfl 0 rfl ?_
  refine N_bipush (pc := 24) (v := 8) (td kX0_init 12 rfl) (by decide) ?_
  refine N_newa (pc := 26) (gc := 1) (gs := 6) (N' := 8) (atype := .int) (ty := .int) (a0 := (8, .inl (fun _ => 0))) 0 (fun _ => rfl) na_i rfl (fun _ => rfl) (by decide) rfl (by decide) (td kX0_init 13 rfl) (fun q3 => ?_)
  refine N_putF (pc := 28) (q0 := 0) fk_X0_22 (fun C T N h => by cases h; rfl) rfl rfl rfl (Nat.le_of_ble_eq_true rfl) (td kX0_init 14 rfl) ?_
  refine N_eq (w' := [(h0, .inr (0, [.ref q1_0, .ref q2, .ref q3, .int 0, .int 0, .int 0, .null])), (q1_0, .inr (4, [.int 0, .int 0, .int 0, .ref q1_1, .ref q1_2, .ref q1_3, .ref q1_4, .ref q1_5, .ref q1_6, .int 0, .int 0])), (q1_1, .inl (κ .int, (8, .inl (fun _ => 0)))), (q1_2, .inl (κ .int, (6, .inl (fun _ => 0)))), (q1_3, .inl (κ .int, (6, .inl (fun _ => 0)))), (q1_4, .inl (κ .int, (6, .inl (fun _ => 0)))), (q1_5, .inl (κ .int, (6, .inl (fun _ => 0)))), (q1_6, .inl (κ .int, (8, .inl (fun _ => 0)))), (q2, .inl (κ .int, (6, .inl (fun _ => 0)))), (q3, .inl (κ .int, (8, .inl (fun _ => 0))))]) rfl ?_
  refine N_aload_n (pc := 31) (td kX0_init 15 rfl) rfl 0 rfl ?_
  refine N_bipush (pc := 32) (v := 6) (td kX0_init 16 rfl) (by decide) ?_
  refine N_newa (pc := 34) (gc := 0) (gs := 0) (N' := 6) (atype := .int) (ty := .int) (a0 := (6, .inl (fun _ => 0))) 0 (fun _ => rfl) na_i rfl (fun _ => rfl) (by decide) rfl (by decide) (td kX0_init 17 rfl) (fun q4 => ?_)
  refine N_putF (pc := 36) (q0 := 0) fk_X0_25 (fun C T N h => by cases h; rfl) rfl rfl rfl (Nat.le_of_ble_eq_true rfl) (td kX0_init 18 rfl) ?_
  refine N_eq (w' := [(h0, .inr (0, [.ref q1_0, .ref q2, .ref q3, .int 0, .int 0, .int 0, .ref q4])), (q1_0, .inr (4, [.int 0, .int 0, .int 0, .ref q1_1, .ref q1_2, .ref q1_3, .ref q1_4, .ref q1_5, .ref q1_6, .int 0, .int 0])), (q1_1, .inl (κ .int, (8, .inl (fun _ => 0)))), (q1_2, .inl (κ .int, (6, .inl (fun _ => 0)))), (q1_3, .inl (κ .int, (6, .inl (fun _ => 0)))), (q1_4, .inl (κ .int, (6, .inl (fun _ => 0)))), (q1_5, .inl (κ .int, (6, .inl (fun _ => 0)))), (q1_6, .inl (κ .int, (8, .inl (fun _ => 0)))), (q2, .inl (κ .int, (6, .inl (fun _ => 0)))), (q3, .inl (κ .int, (8, .inl (fun _ => 0)))), (q4, .inl (κ .int, (6, .inl (fun _ => 0))))]) rfl ?_
  exact N_ret ⟨[h0, q1_0, q1_1, q1_2, q1_3, q1_4, q1_5, q1_6, q2, q3, q4], rfl, rfl, rfl⟩ (td kX0_init 19 rfl)
def zT : Mm := (fun a k => if a = 0 ∧ k = 3 then 3 else 0, fun _ _ => 0, fun _ _ => 0)
set_option maxHeartbeats 4000000 in
set_option maxRecDepth 100000 in
theorem n_X9 (D : va_G) (κ : FieldType → ClassId) (ρ : Nat → Nat) (h0 : Nat) : NCon yX9_init cX9_init 1 2 14 1167 9 [.int 0, .int 0, .int 0, .int 0, .int 0, .null, .null, .null, .null, .null, .null, .null, .null, .null, .null, .null, .null] D κ ρ h0 [] (Gk (shTown 0) κ zT h0) := by
  refine NCon.of_NX (by decide +kernel) rfl (Nat.le_of_ble_eq_true rfl) ?_
  show NX RX9 cX9_init 1 2 D κ ρ _ 14 1167 0 [(0, .ref h0)] [] [(h0, .inr (9, [.int 0, .int 0, .int 0, .int 0, .int 0, .null, .null, .null, .null, .null, .null, .null, .null, .null, .null, .null, .null]))]
  refine N_aload_n (pc := 0) (td kX9_init 0 rfl) rfl 0 rfl ?_
  refine N_obj (pc := 1) no_X9 (by decide) (Nat.le_of_ble_eq_true rfl) (td kX9_init 1 rfl) ?_
  refine N_aload_n (pc := 4) (td kX9_init 2 rfl) rfl 0 rfl ?_
  refine N_iconst (pc := 5) (v := 3) (td kX9_init 3 rfl) (by decide) ?_
  refine N_put (pc := 6) (q0 := 0) fk_X9_11 rfl rfl rfl (Nat.le_of_ble_eq_true rfl) (td kX9_init 4 rfl) ?_
  refine N_eq (w' := [(h0, .inr (9, [.int 0, .int 0, .int 0, .int 3, .int 0, .null, .null, .null, .null, .null, .null, .null, .null, .null, .null, .null, .null]))]) rfl ?_
  refine N_aload_n (pc := 9) (td kX9_init 5 rfl) rfl 0 rfl ?_
  refine N_new (ci := 1) (pc := 10) (gc := 13) (gs := 1164) tyX1 rfl wi_X1 tyX1_ok nw_X9_15 nk_X1_a nk_X1_b nk_X1_f (td kX9_init 6 rfl) (fun q1 => ?_)
  refine N_dup (pc := 13) (td kX9_init 7 rfl) rfl ?_
  refine N_callN (w := [(h0, .inr (9, [.int 0, .int 0, .int 0, .int 3, .int 0, .null, .null, .null, .null, .null, .null, .null, .null, .null, .null, .null, .null]))]) (pc := 14) (gc := 11) (gs := 132) (st := [.ref q1, .ref h0]) (n_X1 D κ ρ q1) (by decide +kernel) nk_X1_c nk_X1_d nk_X1_b (by decide +kernel) rfl (by decide) (by decide) rfl rfl (Nat.le_of_ble_eq_true rfl) (td kX9_init 8 rfl) (fun w1 hG => ?_)
  obtain ⟨qs, hlen, hq0, rfl⟩ := hG
  obtain ⟨q1_0, q1_1, q1_2, rfl⟩ := lenE3 hlen
  have hq0 : q1_0 = q1 := hq0
  subst hq0
  refine N_eq (w' := [(h0, .inr (9, [.int 0, .int 0, .int 0, .int 3, .int 0, .null, .null, .null, .null, .null, .null, .null, .null, .null, .null, .null, .null])), (q1_0, .inr (1, [.ref q1_1, .ref q1_2, .int 0])), (q1_1, .inl (κ .short, (1000, .inl (fun _ => 0)))), (q1_2, .inl (κ .int, (32, .inl (fun _ => 0))))]) rfl ?_
  refine N_putF (pc := 17) (q0 := 0) fk_X9_18 (fun C T N h => by cases h; rfl) rfl rfl rfl (Nat.le_of_ble_eq_true rfl) (td kX9_init 9 rfl) ?_
  refine N_eq (w' := [(h0, .inr (9, [.int 0, .int 0, .int 0, .int 3, .int 0, .ref q1_0, .null, .null, .null, .null, .null, .null, .null, .null, .null, .null, .null])), (q1_0, .inr (1, [.ref q1_1, .ref q1_2, .int 0])), (q1_1, .inl (κ .short, (1000, .inl (fun _ => 0)))), (q1_2, .inl (κ .int, (32, .inl (fun _ => 0))))]) rfl ?_
  refine N_aload_n (pc := 20) (td kX9_init 10 rfl) rfl 0 rfl ?_
  refine N_bipush (pc := 21) (v := 6) (td kX9_init 11 rfl) (by decide) ?_
  refine N_newa (pc := 23) (gc := 10) (gs := 126) (N' := 6) (atype := .long) (ty := .long) (a0 := (6, .inr (.inl (fun _ => 0)))) 1 (fun _ => rfl) na_l rfl (fun _ => rfl) (by decide) rfl (by decide) (td kX9_init 12 rfl) (fun q2 => ?_)
  refine N_putF (pc := 25) (q0 := 0) fk_X9_22 (fun C T N h => by cases h; rfl) rfl rfl rfl (Nat.le_of_ble_eq_true rfl) (td kX9_init 13 rfl) ?_
  refine N_eq (w' := [(h0, .inr (9, [.int 0, .int 0, .int 0, .int 3, .int 0, .ref q1_0, .ref q2, .null, .null, .null, .null, .null, .null, .null, .null, .null, .null])), (q1_0, .inr (1, [.ref q1_1, .ref q1_2, .int 0])), (q1_1, .inl (κ .short, (1000, .inl (fun _ => 0)))), (q1_2, .inl (κ .int, (32, .inl (fun _ => 0)))), (q2, .inl (κ .long, (6, .inr (.inl (fun _ => 0)))))]) rfl ?_
  refine N_aload_n (pc := 28) (td kX9_init 14 rfl) rfl 0 rfl ?_
  refine N_bipush (pc := 29) (v := 8) (td kX9_init 15 rfl) (by decide) ?_
  refine N_newa (pc := 31) (gc := 9) (gs := 118) (N' := 8) (atype := .int) (ty := .int) (a0 := (8, .inl (fun _ => 0))) 0 (fun _ => rfl) na_i rfl (fun _ => rfl) (by decide) rfl (by decide) (td kX9_init 16 rfl) (fun q3 => ?_)
  refine N_putF (pc := 33) (q0 := 0) fk_X9_26 (fun C T N h => by cases h; rfl) rfl rfl rfl (Nat.le_of_ble_eq_true rfl) (td kX9_init 17 rfl) ?_
  refine N_eq (w' := [(h0, .inr (9, [.int 0, .int 0, .int 0, .int 3, .int 0, .ref q1_0, .ref q2, .ref q3, .null, .null, .null, .null, .null, .null, .null, .null, .null])), (q1_0, .inr (1, [.ref q1_1, .ref q1_2, .int 0])), (q1_1, .inl (κ .short, (1000, .inl (fun _ => 0)))), (q1_2, .inl (κ .int, (32, .inl (fun _ => 0)))), (q2, .inl (κ .long, (6, .inr (.inl (fun _ => 0))))), (q3, .inl (κ .int, (8, .inl (fun _ => 0))))]) rfl ?_
  refine N_aload_n (pc := 36) (td kX9_init 18 rfl) rfl 0 rfl ?_
  refine N_bipush (pc := 37) (v := 8) (td kX9_init 19 rfl) (by decide) ?_
  refine N_newa (pc := 39) (gc := 8) (gs := 110) (N' := 8) (atype := .int) (ty := .int) (a0 := (8, .inl (fun _ => 0))) 0 (fun _ => rfl) na_i rfl (fun _ => rfl) (by decide) rfl (by decide) (td kX9_init 20 rfl) (fun q4 => ?_)
  refine N_putF (pc := 41) (q0 := 0) fk_X9_30 (fun C T N h => by cases h; rfl) rfl rfl rfl (Nat.le_of_ble_eq_true rfl) (td kX9_init 21 rfl) ?_
  refine N_eq (w' := [(h0, .inr (9, [.int 0, .int 0, .int 0, .int 3, .int 0, .ref q1_0, .ref q2, .ref q3, .ref q4, .null, .null, .null, .null, .null, .null, .null, .null])), (q1_0, .inr (1, [.ref q1_1, .ref q1_2, .int 0])), (q1_1, .inl (κ .short, (1000, .inl (fun _ => 0)))), (q1_2, .inl (κ .int, (32, .inl (fun _ => 0)))), (q2, .inl (κ .long, (6, .inr (.inl (fun _ => 0))))), (q3, .inl (κ .int, (8, .inl (fun _ => 0)))), (q4, .inl (κ .int, (8, .inl (fun _ => 0))))]) rfl ?_
  refine N_aload_n (pc := 44) (td kX9_init 22 rfl) rfl 0 rfl ?_
  refine N_bipush (pc := 45) (v := 8) (td kX9_init 23 rfl) (by decide) ?_
  refine N_newa (pc := 47) (gc := 7) (gs := 102) (N' := 8) (atype := .int) (ty := .int) (a0 := (8, .inl (fun _ => 0))) 0 (fun _ => rfl) na_i rfl (fun _ => rfl) (by decide) rfl (by decide) (td kX9_init 24 rfl) (fun q5 => ?_)
  refine N_putF (pc := 49) (q0 := 0) fk_X9_33 (fun C T N h => by cases h; rfl) rfl rfl rfl (Nat.le_of_ble_eq_true rfl) (td kX9_init 25 rfl) ?_
  refine N_eq (w' := [(h0, .inr (9, [.int 0, .int 0, .int 0, .int 3, .int 0, .ref q1_0, .ref q2, .ref q3, .ref q4, .ref q5, .null, .null, .null, .null, .null, .null, .null])), (q1_0, .inr (1, [.ref q1_1, .ref q1_2, .int 0])), (q1_1, .inl (κ .short, (1000, .inl (fun _ => 0)))), (q1_2, .inl (κ .int, (32, .inl (fun _ => 0)))), (q2, .inl (κ .long, (6, .inr (.inl (fun _ => 0))))), (q3, .inl (κ .int, (8, .inl (fun _ => 0)))), (q4, .inl (κ .int, (8, .inl (fun _ => 0)))), (q5, .inl (κ .int, (8, .inl (fun _ => 0))))]) rfl ?_
  refine N_aload_n (pc := 52) (td kX9_init 26 rfl) rfl 0 rfl ?_
  refine N_bipush (pc := 53) (v := 6) (td kX9_init 27 rfl) (by decide) ?_
  refine N_newa (pc := 55) (gc := 6) (gs := 96) (N' := 6) (atype := .long) (ty := .long) (a0 := (6, .inr (.inl (fun _ => 0)))) 1 (fun _ => rfl) na_l rfl (fun _ => rfl) (by decide) rfl (by decide) (td kX9_init 28 rfl) (fun q6 => ?_)
  refine N_putF (pc := 57) (q0 := 0) fk_X9_36 (fun C T N h => by cases h; rfl) rfl rfl rfl (Nat.le_of_ble_eq_true rfl) (td kX9_init 29 rfl) ?_
  refine N_eq (w' := [(h0, .inr (9, [.int 0, .int 0, .int 0, .int 3, .int 0, .ref q1_0, .ref q2, .ref q3, .ref q4, .ref q5, .ref q6, .null, .null, .null, .null, .null, .null])), (q1_0, .inr (1, [.ref q1_1, .ref q1_2, .int 0])), (q1_1, .inl (κ .short, (1000, .inl (fun _ => 0)))), (q1_2, .inl (κ .int, (32, .inl (fun _ => 0)))), (q2, .inl (κ .long, (6, .inr (.inl (fun _ => 0))))), (q3, .inl (κ .int, (8, .inl (fun _ => 0)))), (q4, .inl (κ .int, (8, .inl (fun _ => 0)))), (q5, .inl (κ .int, (8, .inl (fun _ => 0)))), (q6, .inl (κ .long, (6, .inr (.inl (fun _ => 0)))))]) rfl ?_
  refine N_aload_n (pc := 60) (td kX9_init 30 rfl) rfl 0 rfl ?_
  refine N_bipush (pc := 61) (v := 6) (td kX9_init 31 rfl) (by decide) ?_
  refine N_newa (pc := 63) (gc := 5) (gs := 90) (N' := 6) (atype := .int) (ty := .int) (a0 := (6, .inl (fun _ => 0))) 0 (fun _ => rfl) na_i rfl (fun _ => rfl) (by decide) rfl (by decide) (td kX9_init 32 rfl) (fun q7 => ?_)
  refine N_putF (pc := 65) (q0 := 0) fk_X9_39 (fun C T N h => by cases h; rfl) rfl rfl rfl (Nat.le_of_ble_eq_true rfl) (td kX9_init 33 rfl) ?_
  refine N_eq (w' := [(h0, .inr (9, [.int 0, .int 0, .int 0, .int 3, .int 0, .ref q1_0, .ref q2, .ref q3, .ref q4, .ref q5, .ref q6, .ref q7, .null, .null, .null, .null, .null])), (q1_0, .inr (1, [.ref q1_1, .ref q1_2, .int 0])), (q1_1, .inl (κ .short, (1000, .inl (fun _ => 0)))), (q1_2, .inl (κ .int, (32, .inl (fun _ => 0)))), (q2, .inl (κ .long, (6, .inr (.inl (fun _ => 0))))), (q3, .inl (κ .int, (8, .inl (fun _ => 0)))), (q4, .inl (κ .int, (8, .inl (fun _ => 0)))), (q5, .inl (κ .int, (8, .inl (fun _ => 0)))), (q6, .inl (κ .long, (6, .inr (.inl (fun _ => 0))))), (q7, .inl (κ .int, (6, .inl (fun _ => 0))))]) rfl ?_
  refine N_aload_n (pc := 68) (td kX9_init 34 rfl) rfl 0 rfl ?_
  refine N_bipush (pc := 69) (v := 6) (td kX9_init 35 rfl) (by decide) ?_
  refine N_newa (pc := 71) (gc := 4) (gs := 84) (N' := 6) (atype := .int) (ty := .int) (a0 := (6, .inl (fun _ => 0))) 0 (fun _ => rfl) na_i rfl (fun _ => rfl) (by decide) rfl (by decide) (td kX9_init 36 rfl) (fun q8 => ?_)
  refine N_putF (pc := 73) (q0 := 0) fk_X9_42 (fun C T N h => by cases h; rfl) rfl rfl rfl (Nat.le_of_ble_eq_true rfl) (td kX9_init 37 rfl) ?_
  refine N_eq (w' := [(h0, .inr (9, [.int 0, .int 0, .int 0, .int 3, .int 0, .ref q1_0, .ref q2, .ref q3, .ref q4, .ref q5, .ref q6, .ref q7, .ref q8, .null, .null, .null, .null])), (q1_0, .inr (1, [.ref q1_1, .ref q1_2, .int 0])), (q1_1, .inl (κ .short, (1000, .inl (fun _ => 0)))), (q1_2, .inl (κ .int, (32, .inl (fun _ => 0)))), (q2, .inl (κ .long, (6, .inr (.inl (fun _ => 0))))), (q3, .inl (κ .int, (8, .inl (fun _ => 0)))), (q4, .inl (κ .int, (8, .inl (fun _ => 0)))), (q5, .inl (κ .int, (8, .inl (fun _ => 0)))), (q6, .inl (κ .long, (6, .inr (.inl (fun _ => 0))))), (q7, .inl (κ .int, (6, .inl (fun _ => 0)))), (q8, .inl (κ .int, (6, .inl (fun _ => 0))))]) rfl ?_
  refine N_aload_n (pc := 76) (td kX9_init 38 rfl) rfl 0 rfl ?_
  refine N_bipush (pc := 77) (v := 6) (td kX9_init 39 rfl) (by decide) ?_
  refine N_newa (pc := 79) (gc := 3) (gs := 78) (N' := 6) (atype := .int) (ty := .int) (a0 := (6, .inl (fun _ => 0))) 0 (fun _ => rfl) na_i rfl (fun _ => rfl) (by decide) rfl (by decide) (td kX9_init 40 rfl) (fun q9 => ?_)
  refine N_putF (pc := 81) (q0 := 0) fk_X9_45 (fun C T N h => by cases h; rfl) rfl rfl rfl (Nat.le_of_ble_eq_true rfl) (td kX9_init 41 rfl) ?_
  refine N_eq (w' := [(h0, .inr (9, [.int 0, .int 0, .int 0, .int 3, .int 0, .ref q1_0, .ref q2, .ref q3, .ref q4, .ref q5, .ref q6, .ref q7, .ref q8, .ref q9, .null, .null, .null])), (q1_0, .inr (1, [.ref q1_1, .ref q1_2, .int 0])), (q1_1, .inl (κ .short, (1000, .inl (fun _ => 0)))), (q1_2, .inl (κ .int, (32, .inl (fun _ => 0)))), (q2, .inl (κ .long, (6, .inr (.inl (fun _ => 0))))), (q3, .inl (κ .int, (8, .inl (fun _ => 0)))), (q4, .inl (κ .int, (8, .inl (fun _ => 0)))), (q5, .inl (κ .int, (8, .inl (fun _ => 0)))), (q6, .inl (κ .long, (6, .inr (.inl (fun _ => 0))))), (q7, .inl (κ .int, (6, .inl (fun _ => 0)))), (q8, .inl (κ .int, (6, .inl (fun _ => 0)))), (q9, .inl (κ .int, (6, .inl (fun _ => 0))))]) rfl ?_
  refine N_aload_n (pc := 84) (td kX9_init 42 rfl) rfl 0 rfl ?_
  refine N_bipush (pc := 85) (v := 6) (td kX9_init 43 rfl) (by decide) ?_
  refine N_newa (pc := 87) (gc := 2) (gs := 72) (N' := 6) (atype := .int) (ty := .int) (a0 := (6, .inl (fun _ => 0))) 0 (fun _ => rfl) na_i rfl (fun _ => rfl) (by decide) rfl (by decide) (td kX9_init 44 rfl) (fun q10 => ?_)
  refine N_putF (pc := 89) (q0 := 0) fk_X9_48 (fun C T N h => by cases h; rfl) rfl rfl rfl (Nat.le_of_ble_eq_true rfl) (td kX9_init 45 rfl) ?_
  refine N_eq (w' := [(h0, .inr (9, [.int 0, .int 0, .int 0, .int 3, .int 0, .ref q1_0, .ref q2, .ref q3, .ref q4, .ref q5, .ref q6, .ref q7, .ref q8, .ref q9, .ref q10, .null, .null])), (q1_0, .inr (1, [.ref q1_1, .ref q1_2, .int 0])), (q1_1, .inl (κ .short, (1000, .inl (fun _ => 0)))), (q1_2, .inl (κ .int, (32, .inl (fun _ => 0)))), (q2, .inl (κ .long, (6, .inr (.inl (fun _ => 0))))), (q3, .inl (κ .int, (8, .inl (fun _ => 0)))), (q4, .inl (κ .int, (8, .inl (fun _ => 0)))), (q5, .inl (κ .int, (8, .inl (fun _ => 0)))), (q6, .inl (κ .long, (6, .inr (.inl (fun _ => 0))))), (q7, .inl (κ .int, (6, .inl (fun _ => 0)))), (q8, .inl (κ .int, (6, .inl (fun _ => 0)))), (q9, .inl (κ .int, (6, .inl (fun _ => 0)))), (q10, .inl (κ .int, (6, .inl (fun _ => 0))))]) rfl ?_
  refine N_aload_n (pc := 92) (td kX9_init 46 rfl) rfl 0 rfl ?_
  refine N_bipush (pc := 93) (v := 36) (td kX9_init 47 rfl) (by decide) ?_
  refine N_newa (pc := 95) (gc := 1) (gs := 36) (N' := 36) (atype := .int) (ty := .int) (a0 := (36, .inl (fun _ => 0))) 0 (fun _ => rfl) na_i rfl (fun _ => rfl) (by decide) rfl (by decide) (td kX9_init 48 rfl) (fun q11 => ?_)
  refine N_putF (pc := 97) (q0 := 0) fk_X9_51 (fun C T N h => by cases h; rfl) rfl rfl rfl (Nat.le_of_ble_eq_true rfl) (td kX9_init 49 rfl) ?_
  refine N_eq (w' := [(h0, .inr (9, [.int 0, .int 0, .int 0, .int 3, .int 0, .ref q1_0, .ref q2, .ref q3, .ref q4, .ref q5, .ref q6, .ref q7, .ref q8, .ref q9, .ref q10, .ref q11, .null])), (q1_0, .inr (1, [.ref q1_1, .ref q1_2, .int 0])), (q1_1, .inl (κ .short, (1000, .inl (fun _ => 0)))), (q1_2, .inl (κ .int, (32, .inl (fun _ => 0)))), (q2, .inl (κ .long, (6, .inr (.inl (fun _ => 0))))), (q3, .inl (κ .int, (8, .inl (fun _ => 0)))), (q4, .inl (κ .int, (8, .inl (fun _ => 0)))), (q5, .inl (κ .int, (8, .inl (fun _ => 0)))), (q6, .inl (κ .long, (6, .inr (.inl (fun _ => 0))))), (q7, .inl (κ .int, (6, .inl (fun _ => 0)))), (q8, .inl (κ .int, (6, .inl (fun _ => 0)))), (q9, .inl (κ .int, (6, .inl (fun _ => 0)))), (q10, .inl (κ .int, (6, .inl (fun _ => 0)))), (q11, .inl (κ .int, (36, .inl (fun _ => 0))))]) rfl ?_
  refine N_aload_n (pc := 100) (td kX9_init 50 rfl) rfl 0 rfl ?_
  refine N_bipush (pc := 101) (v := 36) (td kX9_init 51 rfl) (by decide) ?_
  refine N_newa (pc := 103) (gc := 0) (gs := 0) (N' := 36) (atype := .int) (ty := .int) (a0 := (36, .inl (fun _ => 0))) 0 (fun _ => rfl) na_i rfl (fun _ => rfl) (by decide) rfl (by decide) (td kX9_init 52 rfl) (fun q12 => ?_)
  refine N_putF (pc := 105) (q0 := 0) fk_X9_54 (fun C T N h => by cases h; rfl) rfl rfl rfl (Nat.le_of_ble_eq_true rfl) (td kX9_init 53 rfl) ?_
  refine N_eq (w' := [(h0, .inr (9, [.int 0, .int 0, .int 0, .int 3, .int 0, .ref q1_0, .ref q2, .ref q3, .ref q4, .ref q5, .ref q6, .ref q7, .ref q8, .ref q9, .ref q10, .ref q11, .ref q12])), (q1_0, .inr (1, [.ref q1_1, .ref q1_2, .int 0])), (q1_1, .inl (κ .short, (1000, .inl (fun _ => 0)))), (q1_2, .inl (κ .int, (32, .inl (fun _ => 0)))), (q2, .inl (κ .long, (6, .inr (.inl (fun _ => 0))))), (q3, .inl (κ .int, (8, .inl (fun _ => 0)))), (q4, .inl (κ .int, (8, .inl (fun _ => 0)))), (q5, .inl (κ .int, (8, .inl (fun _ => 0)))), (q6, .inl (κ .long, (6, .inr (.inl (fun _ => 0))))), (q7, .inl (κ .int, (6, .inl (fun _ => 0)))), (q8, .inl (κ .int, (6, .inl (fun _ => 0)))), (q9, .inl (κ .int, (6, .inl (fun _ => 0)))), (q10, .inl (κ .int, (6, .inl (fun _ => 0)))), (q11, .inl (κ .int, (36, .inl (fun _ => 0)))), (q12, .inl (κ .int, (36, .inl (fun _ => 0))))]) rfl ?_
  exact N_ret ⟨[h0, q1_0, q1_1, q1_2, q2, q3, q4, q5, q6, q7, q8, q9, q10, q11, q12], rfl, rfl, rfl⟩ (td kX9_init 54 rfl)
