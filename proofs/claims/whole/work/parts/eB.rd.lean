/-! the tokens, the reader: their makers -/
theorem no_X8 : Cond.methodLink RX8 3 Lib.objectInit ∈ GT := gt_t 62 (by decide +kernel) (by decide)
theorem no_X6 : Cond.methodLink RX6 3 Lib.objectInit ∈ GT := gt_t 56 (by decide +kernel) (by decide)
theorem no_X11 : Cond.methodLink RX11 1 Lib.objectInit ∈ GT := gt_t 31 (by decide +kernel) (by decide)
theorem nw_X6_9 : Cond.classLink RX6 9 RX8 ∈ GT := gt_t 57 (by decide +kernel) (by decide)
theorem nk_X8_a : Cond.instantiable RX8 7 ∈ GT := gt_t 58 (by decide +kernel) (by decide)
theorem nk_X8_b : Cond.initialized RX8 ∈ GT := gt_t 4 (by decide +kernel) (by decide)
theorem nk_X8_c : Cond.instanceMethod yX8_init ∈ GT := gt_t 60 (by decide +kernel) (by decide)
theorem nk_X8_d : Cond.code yX8_init cX8_init 4 none ∈ GT := gt_t 61 (by decide +kernel) (by decide)
theorem nk_X8_f : ∀ j, j < 7 → defaultValue (tyX8 j) = vp_V [.null, .null, .int 0, .int 0, .int 0, .long 0, .int 0] j := by
  intro j hj
  rcases (show j = 0 ∨ j = 1 ∨ j = 2 ∨ j = 3 ∨ j = 4 ∨ j = 5 ∨ j = 6 by omega) with rfl | rfl | rfl | rfl | rfl | rfl | rfl <;> rfl
theorem nw_X11_7 : Cond.classLink RX11 7 RX7 ∈ GT := gt_t 34 (by decide +kernel) (by decide)
theorem nk_X7_a : Cond.instantiable RX7 2 ∈ GT := gt_t 35 (by decide +kernel) (by decide)
theorem nk_X7_b : Cond.initialized RX7 ∈ GT := gt_t 2 (by decide +kernel) (by decide)
theorem nk_X7_c : Cond.instanceMethod yX7_init ∈ GT := gt_t 37 (by decide +kernel) (by decide)
theorem nk_X7_d : Cond.code yX7_init cX7_init 1 none ∈ GT := gt_t 38 (by decide +kernel) (by decide)
theorem nk_X7_f : ∀ j, j < 2 → defaultValue (tyX7 j) = vp_V [.null, .int 0] j := by
  intro j hj
  rcases (show j = 0 ∨ j = 1 by omega) with rfl | rfl <;> rfl
theorem nw_X11_16 : Cond.classLink RX11 16 RX6 ∈ GT := gt_t 51 (by decide +kernel) (by decide)
theorem nk_X6_a : Cond.instantiable RX6 2 ∈ GT := gt_t 52 (by decide +kernel) (by decide)
theorem nk_X6_b : Cond.initialized RX6 ∈ GT := gt_t 3 (by decide +kernel) (by decide)
theorem nk_X6_c : Cond.instanceMethod yX6_init ∈ GT := gt_t 54 (by decide +kernel) (by decide)
theorem nk_X6_d : Cond.code yX6_init cX6_init 2 none ∈ GT := gt_t 55 (by decide +kernel) (by decide)
theorem nk_X6_f : ∀ j, j < 2 → defaultValue (tyX6 j) = vp_V [.null, .int 0] j := by
  intro j hj
  rcases (show j = 0 ∨ j = 1 by omega) with rfl | rfl <;> rfl
theorem nw_X11_25 : Cond.classLink RX11 25 RX4 ∈ GT := gt_t 146 (by decide +kernel) (by decide)
theorem nw_X11_32 : Cond.classLink RX11 32 RX5 ∈ GT := gt_t 200 (by decide +kernel) (by decide)
theorem nk_X5_a : Cond.instantiable RX5 3 ∈ GT := gt_t 201 (by decide +kernel) (by decide)
theorem nk_X5_b : Cond.initialized RX5 ∈ GT := gt_t 10 (by decide +kernel) (by decide)
theorem nk_X5_c : Cond.instanceMethod yX5_init ∈ GT := gt_t 203 (by decide +kernel) (by decide)
theorem nk_X5_d : Cond.code yX5_init cX5_init 2 none ∈ GT := gt_t 204 (by decide +kernel) (by decide)
theorem nk_X5_f : ∀ j, j < 3 → defaultValue (tyX5 j) = vp_V [.null, .int 0, .int 0] j := by
  intro j hj
  rcases (show j = 0 ∨ j = 1 ∨ j = 2 by omega) with rfl | rfl | rfl <;> rfl
theorem nw_X11_39 : Cond.classLink RX11 39 RX10 ∈ GT := gt_t 220 (by decide +kernel) (by decide)
theorem nw_X11_46 : Cond.classLink RX11 46 RX3 ∈ GT := gt_t 241 (by decide +kernel) (by decide)
theorem nk_X3_a : Cond.instantiable RX3 4 ∈ GT := gt_t 243 (by decide +kernel) (by decide)
theorem nk_X3_b : Cond.initialized RX3 ∈ GT := gt_t 12 (by decide +kernel) (by decide)
theorem nk_X3_c : Cond.instanceMethod yX3_init ∈ GT := gt_t 245 (by decide +kernel) (by decide)
theorem nk_X3_d : Cond.code yX3_init cX3_init 1 none ∈ GT := gt_t 246 (by decide +kernel) (by decide)
theorem nk_X3_f : ∀ j, j < 4 → defaultValue (tyX3 j) = vp_V [.int 0, .null, .null, .null] j := by
  intro j hj
  rcases (show j = 0 ∨ j = 1 ∨ j = 2 ∨ j = 3 by omega) with rfl | rfl | rfl | rfl <;> rfl
theorem nw_X11_53 : Cond.classLink RX11 53 RX0 ∈ GT := gt_t 294 (by decide +kernel) (by decide)
theorem nk_X0_a : Cond.instantiable RX0 7 ∈ GT := gt_t 295 (by decide +kernel) (by decide)
theorem nk_X0_b : Cond.initialized RX0 ∈ GT := gt_t 14 (by decide +kernel) (by decide)
theorem nk_X0_c : Cond.instanceMethod yX0_init ∈ GT := gt_t 297 (by decide +kernel) (by decide)
theorem nk_X0_d : Cond.code yX0_init cX0_init 1 none ∈ GT := gt_t 298 (by decide +kernel) (by decide)
theorem nk_X0_f : ∀ j, j < 7 → defaultValue (tyX0 j) = vp_V [.null, .null, .null, .int 0, .int 0, .int 0, .null] j := by
  intro j hj
  rcases (show j = 0 ∨ j = 1 ∨ j = 2 ∨ j = 3 ∨ j = 4 ∨ j = 5 ∨ j = 6 by omega) with rfl | rfl | rfl | rfl | rfl | rfl | rfl <;> rfl
theorem nw_X11_60 : Cond.classLink RX11 60 RX9 ∈ GT := gt_t 326 (by decide +kernel) (by decide)
theorem nk_X9_a : Cond.instantiable RX9 17 ∈ GT := gt_t 327 (by decide +kernel) (by decide)
theorem nk_X9_b : Cond.initialized RX9 ∈ GT := gt_t 15 (by decide +kernel) (by decide)
theorem nk_X9_c : Cond.instanceMethod yX9_init ∈ GT := gt_t 329 (by decide +kernel) (by decide)
theorem nk_X9_d : Cond.code yX9_init cX9_init 1 none ∈ GT := gt_t 330 (by decide +kernel) (by decide)
theorem nk_X9_f : ∀ j, j < 17 → defaultValue (tyX9 j) = vp_V [.int 0, .int 0, .int 0, .int 0, .int 0, .null, .null, .null, .null, .null, .null, .null, .null, .null, .null, .null, .null] j := by
  intro j hj
  rcases (show j = 0 ∨ j = 1 ∨ j = 2 ∨ j = 3 ∨ j = 4 ∨ j = 5 ∨ j = 6 ∨ j = 7 ∨ j = 8 ∨ j = 9 ∨ j = 10 ∨ j = 11 ∨ j = 12 ∨ j = 13 ∨ j = 14 ∨ j = 15 ∨ j = 16 by omega) with rfl | rfl | rfl | rfl | rfl | rfl | rfl | rfl | rfl | rfl | rfl | rfl | rfl | rfl | rfl | rfl | rfl <;> rfl
theorem nw_X11_70 : Cond.classLink RX11 70 RX2 ∈ GT := gt_t 427 (by decide +kernel) (by decide)
def Gtk (κ : FieldType → ClassId) (h0 tp : Nat) (w : va_W) : Prop := ∃ (q1 : Nat) (τ : Mm), w = [(h0, .inr (8, [.ref tp, .ref q1, .int (gI τ 0 2), .int (gI τ 0 3), .int (gI τ 0 4), .long (gL τ 0 5), .int (gI τ 0 6)])), (q1, .inl (κ .long, 23, .inr (.inl (τ.2.1 1))))] ∧ ∀ i, i < 23 → gL τ 1 i = lN (kw32 i)
set_option maxHeartbeats 4000000 in
set_option maxRecDepth 100000 in
theorem n_X8 (D : va_G) (κ : FieldType → ClassId) (ρ : Nat → Nat) (h0 tp : Nat) : NCon yX8_init cX8_init 4 5 1 23 8 [.null, .null, .int 0, .int 0, .int 0, .long 0, .int 0] D κ ρ h0 [.ref tp] (Gtk κ h0 tp) := by
  refine NCon.of_NX (by decide +kernel) rfl (Nat.le_of_ble_eq_true rfl) ?_
  show NX RX8 cX8_init 4 5 D κ ρ _ 1 23 0 [(0, .ref h0), (1, .ref tp)] [] [(h0, .inr (8, [.null, .null, .int 0, .int 0, .int 0, .long 0, .int 0]))]
  refine N_aload_n (pc := 0) (td kX8_init 0 rfl) rfl 0 rfl ?_
  refine N_obj (pc := 1) no_X8 (by decide) (Nat.le_of_ble_eq_true rfl) (td kX8_init 1 rfl) ?_
  refine N_aload_n (pc := 4) (td kX8_init 2 rfl) rfl 0 rfl ?_
  refine N_bipush (pc := 5) (v := 23) (td kX8_init 3 rfl) (by decide) ?_
  refine N_newa (pc := 7) (gc := 0) (gs := 0) (N' := 23) (atype := .long) (ty := .long) (a0 := (23, .inr (.inl (fun _ => 0)))) 1 (fun _ => rfl) na_l rfl (fun _ => rfl) (by decide) rfl (by decide) (td kX8_init 4 rfl) (fun q1 => ?_)
  refine N_putF (pc := 9) (q0 := 0) fk_X8_11 (fun C T N h => by cases h; rfl) rfl rfl rfl (Nat.le_of_ble_eq_true rfl) (td kX8_init 5 rfl) ?_
  refine N_aload_n (pc := 12) (td kX8_init 6 rfl) rfl 0 rfl ?_
  refine N_aload_n (pc := 13) (td kX8_init 7 rfl) rfl 1 rfl ?_
  refine N_putF (pc := 14) (q0 := 0) fk_X8_15 (fun C T N h => by cases h; rfl) rfl rfl rfl (Nat.le_of_ble_eq_true rfl) (td kX8_init 8 rfl) ?_
  refine N_iconst (pc := 17) (v := 0) (td kX8_init 9 rfl) (by decide) ?_
  refine N_istore_n (pc := 18) (i := 2) (lv' := [(2, .int 0), (0, .ref h0), (1, .ref tp)]) (td kX8_init 10 rfl) rfl (by decide) rfl ?_
  refine N_iconst (pc := 19) (v := 0) (td kX8_init 11 rfl) (by decide) ?_
  refine N_istore_n (pc := 20) (i := 3) (lv' := [(3, .int 0), (2, .int 0), (0, .ref h0), (1, .ref tp)]) (td kX8_init 12 rfl) rfl (by decide) rfl ?_
  refine N_sub (lv' := [(3, .int 0), (2, .int 0), (0, .ref h0)]) [0, 1, 2] rfl ?_
  obtain ⟨r, τ, e1, e2⟩ := jk_first
  have hx := x_jk jkN 0 zM (Nat.le_refl _)
  rw [e1] at hx
  refine N_eq (w' := wsOf shTok κ (fun i => if i < 1000000 then (if i = 0 then h0 else if i = 1 then q1 else tp) else ρ i) zM) rfl ?_
  exact N_X (fun i hi => if_neg (by omega)) hx rfl rfl ⟨q1, τ, rfl, e2⟩
def Grd (κ : FieldType → ClassId) (h0 tp : Nat) (w : va_W) : Prop := ∃ (qt : Nat) (w1 : va_W), Gtk κ qt tp w1 ∧ w = [(h0, .inr (6, [.ref qt, .int 0]))] ++ w1
set_option maxHeartbeats 4000000 in
set_option maxRecDepth 100000 in
theorem n_X6 (D : va_G) (κ : FieldType → ClassId) (ρ : Nat → Nat) (h0 tp : Nat) : NCon yX6_init cX6_init 2 6 2 30 6 [.null, .int 0] D κ ρ h0 [.ref tp] (Grd κ h0 tp) := by
  refine NCon.of_NX (by decide +kernel) rfl (Nat.le_of_ble_eq_true rfl) ?_
  show NX RX6 cX6_init 2 6 D κ ρ _ 2 30 0 [(0, .ref h0), (1, .ref tp)] [] [(h0, .inr (6, [.null, .int 0]))]
  refine N_aload_n (pc := 0) (td kX6_init 0 rfl) rfl 0 rfl ?_
  refine N_obj (pc := 1) no_X6 (by decide) (Nat.le_of_ble_eq_true rfl) (td kX6_init 1 rfl) ?_
  refine N_aload_n (pc := 4) (td kX6_init 2 rfl) rfl 0 rfl ?_
  refine N_new (ci := 8) (pc := 5) (gc := 1) (gs := 23) tyX8 rfl wi_X8 tyX8_ok nw_X6_9 nk_X8_a nk_X8_b nk_X8_f (td kX6_init 3 rfl) (fun qt => ?_)
  refine N_dup (pc := 8) (td kX6_init 4 rfl) rfl ?_
  refine N_aload_n (pc := 9) (td kX6_init 5 rfl) rfl 1 rfl ?_
  refine N_call (n := 1) (w := [(h0, .inr (6, [.null, .int 0]))]) (pc := 10) (gc := 0) (gs := 0) (As := [.ref tp]) (st := [.ref qt, .ref h0]) (n_X8 D κ ρ qt tp) lk_X6_11 nk_X8_c nk_X8_d nk_X8_b (by decide +kernel) rfl (by decide) (by decide) rfl rfl (Nat.le_of_ble_eq_true rfl) (td kX6_init 6 rfl) (fun w1 hG => ?_)
  refine N_putF (pc := 13) (q0 := 0) fk_X6_14 (fun C T N h => by cases h; rfl) rfl rfl rfl (Nat.le_of_ble_eq_true rfl) (td kX6_init 7 rfl) ?_
  exact N_ret ⟨qt, w1, hG, rfl⟩ (td kX6_init 8 rfl)
