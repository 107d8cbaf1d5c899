/-! the maker of the tokens, and of the reader -/
def shTok : List Sh := [.inr (8, [(3, 50), (3, 1), (0, 0), (0, 0), (0, 0), (1, 0), (0, 0)]), .inl (.long, 23, z0)]
def jkL (σ : Mm) (b : Int32) (k : Option (Int32 × Mm)) : Option (Int32 × Mm) := cl (f_J0_length_8abf5 1000000 σ) (fun r _ => if b < r then k else some (0, σ))
def jkB (a b : Int32) (σ : Mm) (nx : Int32 → Mm → Option (Int32 × Mm)) : Option (Int32 × Mm) := if a < 23 then cl (f_J0_charAt_5068e 1000000 b σ) (fun c _ => if c = 32 then nx (a + 1) σ else ck (inb a 23) (cl (f_J0_charAt_5068e 1000000 b σ) (fun c2 _ => ck (inb a 23) (bn (pL σ 1 a.toNatClampNeg (lshl (gL σ 1 a.toNatClampNeg) 5 ||| (c2 - 97 + 1).toInt64)) (fun σ' => nx a σ'))))) else some (0, σ)
def jkN : Nat := strN 1000001
def jkF : Nat → Int32 → Mm → Option (Int32 × Mm)
  | 0, _, σ => jkL σ (nI jkN) none
  | n + 1, a, σ => jkL σ (nI (jkN - (n + 1))) (jkB a (nI (jkN - (n + 1))) σ (jkF n))
set_option maxHeartbeats 4000000 in
set_option maxRecDepth 100000 in
theorem x_jk : ∀ (n : Nat) (a : Int32) (σ : Mm), n ≤ jkN → X (wsOf shTok) RX8 cX8_init 4 none 5 0 21 [(3, .int (nI (jkN - n))), (2, .int a), (0, .ref 0)] [] σ (jkF n a σ) := by
  intro n
  induction n with
  | zero =>
    intro a σ _
    unfold jkF jkL
    refine X_iload_n (pc := 21) (td kX8_init 13 rfl) rfl 0 rfl ?_
    refine X_ldcW (pc := 22) rfl (td kX8_init 14 rfl) ?_
    refine X_callj (pc := 24) (As := []) (st := [.int (nI (jkN - 0))]) (p_J0_length_8abf5 1000000 σ) (by decide) (x_J0_length_8abf5 1000000 σ) mkJ0_length_8abf5 lk_X8_21 (by omega) rfl rfl (Nat.le_of_ble_eq_true rfl) (td kX8_init 15 rfl) (fun r _ => ?_)
    refine X_icmp_ge (pc := 27) (tgt := 86) (td kX8_init 16 rfl) (by decide) (fun _ => ?_) (fun _ => X_none)
    exact X_retv (pc := 86) (td kX8_init 48 rfl)
  | succ n ih =>
    intro a σ hn
    have hs : nI (jkN - (n + 1)) + Int32.ofInt 1 = nI (jkN - n) := by
      have := nI_1 (jkN - (n + 1))
      rw [show jkN - (n + 1) + 1 = jkN - n by omega] at this
      exact this
    unfold jkF jkL
    refine X_iload_n (pc := 21) (td kX8_init 13 rfl) rfl 0 rfl ?_
    refine X_ldcW (pc := 22) rfl (td kX8_init 14 rfl) ?_
    refine X_callj (pc := 24) (As := []) (st := [.int (nI (jkN - (n + 1)))]) (p_J0_length_8abf5 1000000 σ) (by decide) (x_J0_length_8abf5 1000000 σ) mkJ0_length_8abf5 lk_X8_21 (by omega) rfl rfl (Nat.le_of_ble_eq_true rfl) (td kX8_init 15 rfl) (fun r _ => ?_)
    refine X_icmp_ge (pc := 27) (tgt := 86) (td kX8_init 16 rfl) (by decide) (fun _ => X_retv (pc := 86) (td kX8_init 48 rfl)) (fun _ => ?_)
    unfold jkB
    refine X_iload_n (pc := 30) (td kX8_init 17 rfl) rfl 1 rfl ?_
    refine X_bipush (pc := 31) (v := 23) (td kX8_init 18 rfl) (by decide) ?_
    refine X_icmp_ge (pc := 33) (tgt := 86) (td kX8_init 19 rfl) (by decide) (fun _ => X_retv (pc := 86) (td kX8_init 48 rfl)) (fun _ => ?_)
    refine X_ldcW (pc := 36) rfl (td kX8_init 20 rfl) ?_
    refine X_iload_n (pc := 38) (td kX8_init 21 rfl) rfl 0 rfl ?_
    refine X_callj (pc := 39) (As := [.int (nI (jkN - (n + 1)))]) (st := []) (p_J0_charAt_5068e 1000000 _ σ) (by decide) (x_J0_charAt_5068e 1000000 _ σ) mkJ0_charAt_5068e lk_X8_27 (by omega) rfl rfl (Nat.le_of_ble_eq_true rfl) (td kX8_init 22 rfl) (fun c _ => ?_)
    refine X_bipush (pc := 42) (v := 32) (td kX8_init 23 rfl) (by decide) ?_
    refine X_icmp_ne (pc := 44) (tgt := 53) (td kX8_init 24 rfl) (by decide) (fun _ => ?_) (fun _ => ?_)
    · refine X_aload_n (pc := 53) (td kX8_init 27 rfl) rfl 2 rfl ?_
      refine X_getF (b := 1) (pc := 54) (S := shTok) (a := 0) rfl rfl fk_X8_11 (td kX8_init 28 rfl) ?_
      refine X_iload_n (pc := 57) (td kX8_init 29 rfl) rfl 1 rfl ?_
      refine X_aload_n (pc := 58) (td kX8_init 30 rfl) rfl 2 rfl ?_
      refine X_getF (b := 1) (pc := 59) (S := shTok) (a := 0) rfl rfl fk_X8_11 (td kX8_init 31 rfl) ?_
      refine X_iload_n (pc := 62) (td kX8_init 32 rfl) rfl 1 rfl ?_
      refine X_lald (pc := 63) (S := shTok) (a := 1) rfl (td kX8_init 33 rfl) ?_
      refine X_iconst (pc := 64) (v := 5) (td kX8_init 34 rfl) (by decide) ?_
      refine X_lshl (pc := 65) (td kX8_init 35 rfl) ?_
      refine X_ldcW (pc := 66) rfl (td kX8_init 36 rfl) ?_
      refine X_iload_n (pc := 68) (td kX8_init 37 rfl) rfl 0 rfl ?_
      refine X_callj (pc := 69) (As := [.int (nI (jkN - (n + 1)))]) (st := [.long (lshl (gL σ 1 a.toNatClampNeg) 5), .int a, .ref 1]) (p_J0_charAt_5068e 1000000 _ σ) (by decide) (x_J0_charAt_5068e 1000000 _ σ) mkJ0_charAt_5068e lk_X8_27 (by omega) rfl rfl (Nat.le_of_ble_eq_true rfl) (td kX8_init 38 rfl) (fun c2 _ => ?_)
      refine X_bipush (pc := 72) (v := 97) (td kX8_init 39 rfl) (by decide) ?_
      refine X_isub (pc := 74) (td kX8_init 40 rfl) ?_
      refine X_iconst (pc := 75) (v := 1) (td kX8_init 41 rfl) (by decide) ?_
      refine X_iadd (pc := 76) (td kX8_init 42 rfl) ?_
      refine X_i2l (pc := 77) (td kX8_init 43 rfl) ?_
      refine X_lor (pc := 78) (td kX8_init 44 rfl) ?_
      refine X_last (pc := 79) (S := shTok) (a := 1) rfl (td kX8_init 45 rfl) (fun σ1 => ?_)
      refine X_iinc (pc := 80) (i := 3) (v := nI (jkN - n)) (td kX8_init 46 rfl) 0 rfl hs (by decide) rfl ?_
      refine X_goto (pc := 83) (tgt := 21) (td kX8_init 47 rfl) (by decide) ?_
      exact ih a σ1 (by omega)
    · refine X_iinc (pc := 47) (i := 2) (v := a + 1) (td kX8_init 25 rfl) 1 rfl rfl (by decide) rfl ?_
      refine X_goto (pc := 50) (tgt := 80) (td kX8_init 26 rfl) (by decide) ?_
      refine X_iinc (pc := 80) (i := 3) (v := nI (jkN - n)) (td kX8_init 46 rfl) 1 rfl hs (by decide) rfl ?_
      refine X_goto (pc := 83) (tgt := 21) (td kX8_init 47 rfl) (by decide) ?_
      exact ih (a + 1) σ (by omega)
def jkOk : Bool := match jkF jkN 0 zM with
  | some q => (List.range 23).all (fun i => decide (gL q.2 1 i = lN (kw32 i)))
  | none => false
set_option maxHeartbeats 4000000 in
set_option maxRecDepth 100000 in
theorem jk_ok : jkOk = true := by decide +kernel
theorem jk_first : ∃ (r : Int32) (τ : Mm), jkF jkN 0 zM = some (r, τ) ∧ ∀ i, i < 23 → gL τ 1 i = lN (kw32 i) := by
  have h := jk_ok
  unfold jkOk at h
  cases e : jkF jkN 0 zM with
  | none => rw [e] at h; cases h
  | some q =>
    rw [e] at h
    exact ⟨q.1, q.2, rfl, fun i hi => of_decide_eq_true (List.all_eq_true.mp h i (List.mem_range.mpr hi))⟩
