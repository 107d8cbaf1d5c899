/-! rows of made objects; the ring's maker -/
def nW (S : List Sh) (κ : FieldType → ClassId) (z : Mm) (qss : List (List Nat)) : va_W := qss.flatMap (fun qs => wsOf S κ (gD qs) z)
theorem nW_s {S : List Sh} {κ : FieldType → ClassId} {z : Mm} {qss : List (List Nat)} {qs : List Nat} : nW S κ z (qss ++ [qs]) = nW S κ z qss ++ wsOf S κ (gD qs) z := by
  unfold nW
  rw [List.flatMap_append]
  simp
def rwE (κ : FieldType → ClassId) (C : String) (n : Nat) (f : Nat → Option Nat) : va_E := .inl (κ (.object C), n, .inr (.inr (.inr (.inr f))))
section NXW
variable {own : String} {cc : ByteArray} {nL d : Nat} {D : va_G} {κ : FieldType → ClassId} {ρ : Nat → Nat} {G : va_W → Prop}
theorem N_row {n p0 pl pE iF iN iC kF ci h0 qa t0 gE sE : Nat} {C : String} {S : List Sh} {z : Mm} {fs : List Value} {R : va_W} {y : MethodName} {cc' : ByteArray} {nL' d' mc ms ciE NF : Nat} {fs0 : List Value} {fds : List Fq} {T : u_T} {fty : FieldType} {fin : Bool} (ty : Nat → FieldType) (offE offB : Int)
    (hn : n < 1000) (hnL : 1 < nL)
    (d1 : decode cc p0 = .ok (.iload_n 1, 1))
    (hpush : ∀ (gc gs : Nat) (lv : List (Nat × Value)) (st : List Value) (w : va_W), NX own cc nL d D κ ρ G gc gs (p0 + 1 + pl) lv (.int (nI n) :: st) w → NX own cc nL d D κ ρ G gc gs (p0 + 1) lv st w)
    (d2 : decode cc (p0 + 1 + pl) = .ok (.if_icmp .ge offE, 3)) (hE : ((p0 + 1 + pl : Nat) : Int) + offE = (pE : Int))
    (d3 : decode cc (p0 + 1 + pl + 3) = .ok (.aload_n 0, 1))
    (d4 : decode cc (p0 + 1 + pl + 3 + 1) = .ok (.getfield iF, 3)) (fk : FLk own iF ci kF fty fin) (hF : fs[kF]? = some (.ref qa))
    (d5 : decode cc (p0 + 1 + pl + 3 + 1 + 3) = .ok (.iload_n 1, 1))
    (d6 : decode cc (p0 + 1 + pl + 3 + 1 + 3 + 1) = .ok (.new iN, 3)) (hc : vwCl[ciE]? = some (C, T, NF)) (hin : ∀ w ∈ u_ws C T NF, w ∈ GT) (hty : ∀ k, k < NF → parseFieldDescriptor (T k).2.2.1 = some (ty k)) (h1 : Cond.classLink own iN C ∈ GT) (h2 : Cond.instantiable C NF ∈ GT) (h3 : Cond.initialized C ∈ GT) (hfs : ∀ j, j < NF → defaultValue (ty j) = vp_V fs0 j)
    (d7 : decode cc (p0 + 1 + pl + 3 + 1 + 3 + 1 + 3) = .ok (.dup, 1))
    (d8 : decode cc (p0 + 1 + pl + 3 + 1 + 3 + 1 + 3 + 1) = .ok (.invokespecial iC, 3)) (hcon : ∀ q, NCon y cc' nL' d' mc ms ciE fs0 D κ ρ q [] (Gk S κ z q)) (hlink : (own, iC, y) ∈ nnL) (g2 : Cond.instanceMethod y ∈ GT) (g3 : Cond.code y cc' nL' none ∈ GT) (g4 : Cond.initialized y.cls ∈ GT) (g5 : y.cls ≠ "java/lang/invoke/MethodHandle" ∧ y.cls ≠ "java/lang/invoke/VarHandle" ∧ (parseMethodDescriptor y.desc).map (fun d => d.parameters.length) = some 0) (gnm : y.name = "<init>") (gdd : d' + 1 ≤ d) (gnL : 19 + nL' ≤ 48)
    (d9 : decode cc (p0 + 1 + pl + 3 + 1 + 3 + 1 + 3 + 1 + 3) = .ok (.aastore, 1)) (ht : ∀ κ, (tysOf κ)[t0]? = some (κ (.object C), .object C)) (hS0 : S[0]? = some (.inr (ciE, fds)))
    (da : decode cc (p0 + 1 + pl + 3 + 1 + 3 + 1 + 3 + 1 + 3 + 1) = .ok (.iinc 1 1, 3))
    (db : decode cc (p0 + 1 + pl + 3 + 1 + 3 + 1 + 3 + 1 + 3 + 1 + 3) = .ok (.goto offB, 3)) (hB : ((p0 + 1 + pl + 3 + 1 + 3 + 1 + 3 + 1 + 3 + 1 + 3 : Nat) : Int) + offB = (p0 : Int))
    (hfin : ∀ (qss : List (List Nat)) (f : Nat → Option Nat), qss.length = n → (∀ qs ∈ qss, qs.length = S.length) → (∀ j, j < n → f j = some (gD (qss.getD j []) 0)) → NX own cc nL d D κ ρ G gE sE pE [(1, .int (nI n)), (0, .ref h0)] [] ([(h0, .inr (ci, fs)), (qa, rwE κ C n f)] ++ (R ++ nW S κ z qss))) :
    ∀ (k i : Nat) (qss : List (List Nat)) (f : Nat → Option Nat), i + k = n → qss.length = i → (∀ qs ∈ qss, qs.length = S.length) → (∀ j, j < i → f j = some (gD (qss.getD j []) 0)) → NX own cc nL d D κ ρ G (gE + (1 + mc) * k) (sE + (NF + ms) * k) p0 [(1, .int (nI i)), (0, .ref h0)] [] ([(h0, .inr (ci, fs)), (qa, rwE κ C n f)] ++ (R ++ nW S κ z qss)) := by
  intro k
  induction k with
  | zero =>
    intro i qss f hik hl hq hf
    rw [Nat.mul_zero, Nat.mul_zero, Nat.add_zero, Nat.add_zero]
    have e0 : i = n := by omega
    subst e0
    refine N_iload_n d1 rfl 0 rfl ?_
    refine hpush _ _ _ _ _ ?_
    exact N_geT d2 hE (Int32.le_refl _) (hfin qss f hl hq hf)
  | succ k ih =>
    intro i qss f hik hl hq hf
    rw [show gE + (1 + mc) * (k + 1) = (gE + (1 + mc) * k + mc) + 1 by rw [Nat.mul_succ]; omega, show sE + (NF + ms) * (k + 1) = (sE + (NF + ms) * k + ms) + NF by rw [Nat.mul_succ]; omega]
    refine N_iload_n d1 rfl 0 rfl ?_
    refine hpush _ _ _ _ _ ?_
    refine N_geF d2 hE (fun h => ?_) ?_
    · rcases Nat.lt_or_ge i n with g | g
      · exact absurd h (Int32.not_le.mpr ((nI_ltI (by omega) (by omega)).mpr g))
      · omega
    refine N_aload_n d3 rfl 1 rfl ?_
    refine N_get (q0 := 0) fk rfl hF d4 ?_
    refine N_iload_n d5 rfl 0 rfl ?_
    refine N_new (ci := ciE) ty hc hin hty h1 h2 h3 hfs d6 (fun q => ?_)
    refine N_dup d7 rfl ?_
    refine N_callN (st := [.ref q, .int (nI i), .ref qa]) (As := []) (hcon q) hlink g2 g3 g4 g5 gnm gdd gnL rfl rfl (Nat.le_of_ble_eq_true rfl) d8 (fun w1 hG => ?_)
    obtain ⟨qs, l1, l2, rfl⟩ := hG
    have e1 : (wsOf S κ (gD qs) z)[0]? = some (q, .inr (ciE, fds.mapIdx (fdV (gD qs) z 0))) := by rw [ws_get hS0, l2]; rfl
    have tn : (nI i).toNatClampNeg = i := nI_tn (by omega)
    have tz : ¬ nI i < 0 := fun h => by
      have := (nI_ltI (a := i) (b := 0) (by omega) (by omega)).mp h
      omega
    refine N_ast (q0 := 1) (qk := ([(h0, .inr (ci, fs)), (qa, rwE κ C n f)] ++ (R ++ nW S κ z qss) : va_W).length) (a := qa) (ci := ciE) (C := C) (n := n) (f := f) rfl ht (by rw [List.getElem?_append_right (Nat.le_refl _), Nat.sub_self]; exact e1) hc (fun h => h.elim tz (fun h => by rw [tn] at h; omega)) d9 ?_
    rw [tn]
    refine N_iinc (i := 1) (v := nI (i + 1)) da 0 rfl (nI_1 i) hnL rfl ?_
    refine N_goto db hB ?_
    refine N_eq (w' := [(h0, .inr (ci, fs)), (qa, rwE κ C n (va_up f i (some q)))] ++ (R ++ nW S κ z (qss ++ [qs]))) (by rw [nW_s, ← List.append_assoc R]; rfl) ?_
    refine ih (i + 1) (qss ++ [qs]) _ (by omega) (by rw [List.length_append, hl]; rfl) (fun x hx => ?_) (fun j hj => ?_)
    · rcases List.mem_append.mp hx with h | h
      · exact hq x h
      · rw [List.mem_singleton.mp h]; exact l1
    · rcases Nat.lt_or_ge j i with g | g
      · rw [va_up_ne _ _ (by omega), hf j g]
        rw [List.getD_eq_getElem?_getD, List.getD_eq_getElem?_getD, List.getElem?_append_left (by omega)]
      · have e3 : j = i := by omega
        subst e3
        rw [va_up_self, List.getD_eq_getElem?_getD, List.getElem?_append_right (by omega), hl, Nat.sub_self]
        show _ = some (gD qs 0)
        rw [l2]
end NXW
theorem no_X5 : Cond.methodLink RX5 1 Lib.objectInit ∈ GT := gt_t 205 (by decide +kernel) (by decide)
theorem nw_X5_9 : Cond.classLink RX5 9 RX4 ∈ GT := gt_t 206 (by decide +kernel) (by decide)
def Gp (κ : FieldType → ClassId) (h0 : Nat) (w : va_W) : Prop := ∃ (qa : Nat) (qss : List (List Nat)) (f : Nat → Option Nat), qss.length = 16 ∧ (∀ qs ∈ qss, qs.length = (shNight 0).length) ∧ (∀ j, j < 16 → f j = some (gD (qss.getD j []) 0)) ∧ w = [(h0, .inr (5, [.ref qa, .int 0, .int 0])), (qa, rwE κ RX4 16 f)] ++ ([] ++ nW (shNight 0) κ zM qss)
set_option maxHeartbeats 4000000 in
set_option maxRecDepth 100000 in
theorem n_X5 (D : va_G) (κ : FieldType → ClassId) (ρ : Nat → Nat) (h0 : Nat) : NCon yX5_init cX5_init 2 2 113 832 5 [.null, .int 0, .int 0] D κ ρ h0 [] (Gp κ h0) := by
  refine NCon.of_NX (by decide +kernel) rfl (Nat.le_of_ble_eq_true rfl) ?_
  show NX RX5 cX5_init 2 2 D κ ρ _ 113 832 0 [(0, .ref h0)] [] [(h0, .inr (5, [.null, .int 0, .int 0]))]
  refine N_aload_n (pc := 0) (td kX5_init 0 rfl) rfl 0 rfl ?_
  refine N_obj (pc := 1) no_X5 (by decide) (Nat.le_of_ble_eq_true rfl) (td kX5_init 1 rfl) ?_
  refine N_aload_n (pc := 4) (td kX5_init 2 rfl) rfl 0 rfl ?_
  refine N_bipush (pc := 5) (v := 16) (td kX5_init 3 rfl) (by decide) ?_
  refine N_newq (pc := 7) (gc := 112) (gs := 816) (N' := 16) (C := RX4) 5 (fun _ => rfl) nw_X5_9 (Or.inl rfl) (by decide) rfl (by decide) (td kX5_init 4 rfl) (fun qa => ?_)
  refine N_putF (pc := 10) (q0 := 0) fk_X5_11 (fun C T N h => by cases h; rfl) rfl rfl rfl (Nat.le_of_ble_eq_true rfl) (td kX5_init 5 rfl) ?_
  refine N_iconst (pc := 13) (v := 0) (td kX5_init 6 rfl) (by decide) ?_
  refine N_istore_n (pc := 14) (i := 1) (lv' := [(1, .int 0), (0, .ref h0)]) (td kX5_init 7 rfl) rfl (by decide) rfl ?_
  refine N_row (n := 16) (p0 := 15) (pl := 2) (pE := 40) (iF := 11) (iN := 9) (iC := 15) (t0 := 5) (gE := 0) (sE := 0) (C := RX4) (R := []) (fs := [.ref qa, .int 0, .int 0]) (ciE := 4) (mc := 6) (ms := 40) (NF := 11) tyX4 22 (-22) (by decide) (by decide) (td kX5_init 8 rfl) (fun gc gs lv st w h => N_bipush (td kX5_init 9 rfl) (by decide) h) (td kX5_init 10 rfl) (by decide) (td kX5_init 11 rfl) (td kX5_init 12 rfl) fk_X5_11 rfl (td kX5_init 13 rfl) (td kX5_init 14 rfl) rfl wi_X4 tyX4_ok nw_X5_9 nk_X4_a nk_X4_b nk_X4_f (td kX5_init 15 rfl) (td kX5_init 16 rfl) (fun q => n_X4 D κ ρ q) (by decide +kernel) nk_X4_c nk_X4_d nk_X4_b (by decide +kernel) rfl (by decide) (by decide) (td kX5_init 17 rfl) (fun _ => rfl) rfl (td kX5_init 18 rfl) (td kX5_init 19 rfl) (by decide) (fun qss f a1 a2 a3 => ?_) 16 0 [] (fun _ => none) rfl rfl (fun qs h => by cases h) (fun j h => absurd h (Nat.not_lt_zero j))
  exact N_ret ⟨qa, qss, f, a1, a2, a3, rfl⟩ (td kX5_init 20 rfl)
