/-! makings: the world grows -/
def rmN (d mc ms : Nat) : Room := { frames := d, cells := mc, slots := ms, locals := 48 * d }
/-- words of the tables that don't go along by themselves: rows of references, makers of nest mates -/
def nnL : List (String × Nat × MethodName) := [(RX11, 9, yX7_init), (RX11, 27, yX4_init), (RX5, 15, yX4_init), (RX11, 41, yX10_init), (RX11, 52, yX3_init), (RX3, 9, yX4_init), (RX3, 18, yX2_init), (RX3, 25, yX10_init), (RX11, 55, yX0_init), (RX0, 11, yX4_init), (RX11, 62, yX9_init), (RX9, 17, yX1_init), (RX11, 72, yX2_init)]
def NE (U : State) : Prop := va_AO RX4 U ∧ va_AO RX3 U ∧ ∀ q ∈ nnL, va_Nw (.methodLinkNest q.1 q.2.1 q.2.2 RX11) U
theorem NE.warm {s U : State} (h : NE s) (hW : s.WarmedH U.vm) : NE U := ⟨va_AO.moved hW.alike h.1, va_AO.moved hW.alike h.2.1, fun q hq => va_Nw.warmM hW (h.2.2 q hq)⟩
theorem NE.same {U V : State} (h : NE U) (hv : V.vm = U.vm) : NE V := h.warm (by rw [hv]; exact State.WarmedH.refl U)
def NCx (own : String) (cc : ByteArray) (nL d : Nat) (D : va_G) (κ : FieldType → ClassId) (ρ : Nat → Nat) (A : Nat → Prop) (p : Program) (R : Room) (s : State) (m : MethodId) (args : Array Value) (meth : Method) (c : Code) : Prop :=
  p.tables.exec = Jvm.exec ∧ c.code = cc ∧ meth.sig.returnType = none ∧ c.maxLocals = nL ∧ s.vm.findClass own = some m.cls ∧ (∀ w ∈ GT, w.before args s = true) ∧ meth.locks = false ∧ meth.name = "<init>" ∧ d ≤ R.frames ∧ 48 * d ≤ R.locals ∧ va_K D vwCl (tysOf κ) s ∧ (∀ q, s.heap.size ≤ q → A q) ∧ EN ρ A s s.heap ∧ NE s
def NX (own : String) (cc : ByteArray) (nL d : Nat) (D : va_G) (κ : FieldType → ClassId) (ρ : Nat → Nat) (G : va_W → Prop) (gc gs pc : Nat) (lv : List (Nat × Value)) (st : List Value) (w : va_W) : Prop :=
  ∀ (A : Nat → Prop) (p : Program) (l : Launch) (e : Env) (R : Room) (s : State) (m : MethodId) (args : Array Value) (below : List Frame) (meth : Method) (c : Code), NCx own cc nL d D κ ρ A p R s m args meth c →
  ∀ (H : Heap) (locs : List Loc) (cells slots : Nat) (Z : State → Prop) (ls : Array Slot), cells + gc = R.cells ∧ slots + gs = R.slots → va_P D vwCl w H ∧ va_D A w ∧ va_S A s.heap H locs → lv_has ls nL lv →
  (∀ (w' : va_W) (H' : Heap) (locs' : List Loc) (pc' : Nat) (ls' : Array Slot), G w' → va_P D vwCl w' H' ∧ va_D A w' ∧ va_S A s.heap H' locs' → decode cc pc' = .ok (.return_, 1) → W p l e R s m args below meth c H' locs' (cells + gc) (slots + gs) Z (F0 m pc' ls' [])) →
  W p l e R s m args below meth c H locs cells slots Z (F0 m pc ls st)
section NXR
variable {own : String} {cc : ByteArray} {nL d : Nat} {D : va_G} {κ : FieldType → ClassId} {ρ : Nat → Nat} {G : va_W → Prop} {gc gs pc : Nat} {lv lv' : List (Nat × Value)} {st : List Value} {w w' : va_W}
theorem N_eq (h : w = w') (k : NX own cc nL d D κ ρ G gc gs pc lv st w') : NX own cc nL d D κ ρ G gc gs pc lv st w := by rw [h]; exact k
theorem N_ret (h : G w) (hd : decode cc pc = .ok (.return_, 1)) : NX own cc nL d D κ ρ G 0 0 pc lv [] w := by
  intro A p l e R s m args below meth c hC H locs cells slots Z ls hcs hw hl hZ
  exact hZ w H locs pc ls h hw hd
theorem N_aload_n {q : Fin 4} {i x : Nat} (hd : decode cc pc = .ok (.aload_n q, 1)) (hi : (q : Nat) = i) (j : Nat) (hj : lv[j]? = some (i, .ref x)) (k : NX own cc nL d D κ ρ G gc gs (pc + 1) lv (.ref x :: st) w) : NX own cc nL d D κ ρ G gc gs pc lv st w := by
  intro A p l e R s m args below meth c hC H locs cells slots Z ls hcs hw hl hZ
  exact lv_aload_n hC.1 hC.2.1 hd hi (lv_at hl j hj) (k A p l e R s m args below meth c hC H locs cells slots Z ls hcs hw hl hZ)
theorem N_iload_n {q : Fin 4} {i : Nat} {x : Int32} (hd : decode cc pc = .ok (.iload_n q, 1)) (hi : (q : Nat) = i) (j : Nat) (hj : lv[j]? = some (i, .int x)) (k : NX own cc nL d D κ ρ G gc gs (pc + 1) lv (.int x :: st) w) : NX own cc nL d D κ ρ G gc gs pc lv st w := by
  intro A p l e R s m args below meth c hC H locs cells slots Z ls hcs hw hl hZ
  exact lv_iload_n hC.1 hC.2.1 hd hi (lv_at hl j hj) (k A p l e R s m args below meth c hC H locs cells slots Z ls hcs hw hl hZ)
theorem N_iconst {n : Int} {v : Int32} (hd : decode cc pc = .ok (.iconst n, 1)) (hv : Int32.ofInt n = v) (k : NX own cc nL d D κ ρ G gc gs (pc + 1) lv (.int v :: st) w) : NX own cc nL d D κ ρ G gc gs pc lv st w := by
  intro A p l e R s m args below meth c hC H locs cells slots Z ls hcs hw hl hZ
  exact lv_iconst hC.1 hC.2.1 hd hv (k A p l e R s m args below meth c hC H locs cells slots Z ls hcs hw hl hZ)
theorem N_bipush {n : Int} {v : Int32} (hd : decode cc pc = .ok (.bipush n, 2)) (hv : (Int8.ofInt n).toInt32 = v) (k : NX own cc nL d D κ ρ G gc gs (pc + 2) lv (.int v :: st) w) : NX own cc nL d D κ ρ G gc gs pc lv st w := by
  intro A p l e R s m args below meth c hC H locs cells slots Z ls hcs hw hl hZ
  exact lv_bipush hC.1 hC.2.1 hd hv (k A p l e R s m args below meth c hC H locs cells slots Z ls hcs hw hl hZ)
theorem N_sipush {n : Int} {v : Int32} (hd : decode cc pc = .ok (.sipush n, 3)) (hv : (Int16.ofInt n).toInt32 = v) (k : NX own cc nL d D κ ρ G gc gs (pc + 3) lv (.int v :: st) w) : NX own cc nL d D κ ρ G gc gs pc lv st w := by
  intro A p l e R s m args below meth c hC H locs cells slots Z ls hcs hw hl hZ
  exact lv_sipush hC.1 hC.2.1 hd hv (k A p l e R s m args below meth c hC H locs cells slots Z ls hcs hw hl hZ)
theorem N_dup {v : Value} (hd : decode cc pc = .ok (.dup, 1)) (hv : v.category = 1) (k : NX own cc nL d D κ ρ G gc gs (pc + 1) lv (v :: v :: st) w) : NX own cc nL d D κ ρ G gc gs pc lv (v :: st) w := by
  intro A p l e R s m args below meth c hC H locs cells slots Z ls hcs hw hl hZ
  exact lv_dup hC.1 hC.2.1 hd hv (k A p l e R s m args below meth c hC H locs cells slots Z ls hcs hw hl hZ)
theorem N_goto {off : Int} {tgt : Nat} (hd : decode cc pc = .ok (.goto off, 3)) (ht : (pc : Int) + off = (tgt : Int)) (k : NX own cc nL d D κ ρ G gc gs tgt lv st w) : NX own cc nL d D κ ρ G gc gs pc lv st w := by
  intro A p l e R s m args below meth c hC H locs cells slots Z ls hcs hw hl hZ
  exact lv_goto hC.1 hC.2.1 hd ht (k A p l e R s m args below meth c hC H locs cells slots Z ls hcs hw hl hZ)
theorem N_geT {x y : Int32} {off : Int} {tgt : Nat} (hd : decode cc pc = .ok (.if_icmp .ge off, 3)) (ht : (pc : Int) + off = (tgt : Int)) (h : y ≤ x) (k : NX own cc nL d D κ ρ G gc gs tgt lv st w) : NX own cc nL d D κ ρ G gc gs pc lv (.int y :: .int x :: st) w := by
  intro A p l e R s m args below meth c hC H locs cells slots Z ls hcs hw hl hZ
  exact lv_icmp_ge hC.1 hC.2.1 hd ht (fun _ => k A p l e R s m args below meth c hC H locs cells slots Z ls hcs hw hl hZ) (fun q => absurd h q)
theorem N_geF {x y : Int32} {off : Int} {tgt : Nat} (hd : decode cc pc = .ok (.if_icmp .ge off, 3)) (ht : (pc : Int) + off = (tgt : Int)) (h : ¬ y ≤ x) (k : NX own cc nL d D κ ρ G gc gs (pc + 3) lv st w) : NX own cc nL d D κ ρ G gc gs pc lv (.int y :: .int x :: st) w := by
  intro A p l e R s m args below meth c hC H locs cells slots Z ls hcs hw hl hZ
  exact lv_icmp_ge hC.1 hC.2.1 hd ht (fun q => absurd q h) (fun _ => k A p l e R s m args below meth c hC H locs cells slots Z ls hcs hw hl hZ)
theorem N_istore_n {q : Fin 4} {i : Nat} {x : Int32} (hd : decode cc pc = .ok (.istore_n q, 1)) (hi : (q : Nat) = i) (hn : i < nL) (hL : (i, Value.int x) :: lv.filter (fun q => !(q.1 == i) && !(q.1 + 1 == i && q.2.category == 2)) = lv') (k : NX own cc nL d D κ ρ G gc gs (pc + 1) lv' st w) : NX own cc nL d D κ ρ G gc gs pc lv (.int x :: st) w := by
  intro A p l e R s m args below meth c hC H locs cells slots Z ls hcs hw hl hZ
  exact lv_istore_n (lv' := lv') hC.1 hC.2.1 hd hi hl hn hL (fun ls hl => k A p l e R s m args below meth c hC H locs cells slots Z ls hcs hw hl hZ)
theorem N_iinc {i : Nat} {n : Int} {x v : Int32} (hd : decode cc pc = .ok (.iinc i n, 3)) (j : Nat) (hj : lv[j]? = some (i, .int x)) (hv : x + Int32.ofInt n = v) (hn : i < nL) (hL : (i, Value.int v) :: lv.filter (fun q => !(q.1 == i) && !(q.1 + 1 == i && q.2.category == 2)) = lv') (k : NX own cc nL d D κ ρ G gc gs (pc + 3) lv' st w) : NX own cc nL d D κ ρ G gc gs pc lv st w := by
  intro A p l e R s m args below meth c hC H locs cells slots Z ls hcs hw hl hZ
  exact lv_iinc (lv' := lv') hC.1 hC.2.1 hd hl (k := j) hj hv hn hL (fun ls hl => k A p l e R s m args below meth c hC H locs cells slots Z ls hcs hw hl hZ)
theorem N_sub (ks : List Nat) (hL : lv_pick lv ks = lv') (k : NX own cc nL d D κ ρ G gc gs pc lv' st w) : NX own cc nL d D κ ρ G gc gs pc lv st w := by
  intro A p l e R s m args below meth c hC H locs cells slots Z ls hcs hw hl hZ
  exact k A p l e R s m args below meth c hC H locs cells slots Z ls hcs hw (lv_sub hl ks hL) hZ
theorem no_i : Cond.instanceMethod Lib.objectInit ∈ GT := gt_t 32 (by decide +kernel) (by decide)
theorem no_c : Cond.code Lib.objectInit ⟨#[0xb1]⟩ 1 none ∈ GT := gt_t 33 (by decide +kernel) (by decide)
theorem N_obj {idx a : Nat} (hlink : Cond.methodLink own idx Lib.objectInit ∈ GT) (hd1 : 1 ≤ d) (hsum : (st.map fun v => v.category).sum ≤ 8) (hd : decode cc pc = .ok (.invokespecial idx, 3)) (k : NX own cc nL d D κ ρ G gc gs (pc + 3) lv st w) : NX own cc nL d D κ ρ G gc gs pc lv (.ref a :: st) w := by
  intro A p l e R s m args below meth c hC H locs cells slots Z ls hcs hw hl hZ
  obtain ⟨hx, hb, hr, hml, hown, hts, hlk, hin, hfr, hlo, -⟩ := id hC
  refine W.objInit hx hb hown (hts _ hlink) (hts _ no_i) (hts _ no_c) rfl (by rw [hml]; exact hl.1) rfl hd (by omega) (by show 2 * 0 + _ + 12 ≤ _; omega) ?_
  exact k A p l e R s m args below meth c hC H locs cells slots Z ls hcs hw hl hZ
/-- an array's class is the one of its type -/
theorem ra_eq {U : State} {a b : ClassId} {ty : FieldType} (h1 : va_RA U a ty) (h2 : va_RA U b ty) : a = b := by
  cases ty with
  | object C =>
    obtain ⟨_, _, _, _, _, q1⟩ := h1
    obtain ⟨_, _, _, _, _, q2⟩ := h2
    exact Option.some.inj (q1.symm.trans q2)
  | _ => exact Option.some.inj (Eq.trans (Eq.symm h1) h2)
theorem N_newa {n : Int32} {N' : Nat} {atype : ArrayType} {ty : FieldType} {a0 : vp_A} (t0 : Nat) (ht : ∀ κ, (tysOf κ)[t0]? = some (κ ty, ty)) (harr : Cond.arrayClass (newarray.typeOf atype) ∈ GT) (hty : newarray.typeOf atype = ty) (ha : ∀ cA : ClassId, vp_cell cA a0 = arrV cA N' (fun _ => defaultValue ty)) (hn : ¬ n < 0) (hN : n.toNatClampNeg = N') (hby : N' * componentBytes ty ≤ 536870912) (hd : decode cc pc = .ok (.newarray atype, 2)) (k : ∀ q : Nat, NX own cc nL d D κ ρ G gc gs (pc + 2) lv (.ref q :: st) (w ++ [(q, .inl (κ ty, a0))])) : NX own cc nL d D κ ρ G (gc + 1) (gs + N') pc lv (.int n :: st) w := by
  intro A p l e R s m args below meth c hC H locs cells slots Z ls hcs hw hl hZ
  obtain ⟨hx, hb, hr, hml, hown, hts, hlk, hin, hfr, hlo, hK, hA, hEN⟩ := id hC
  refine va_newa hx hb (hts _ harr) hty hK hw.1 hw.2.1 hw.2.2 hA ha hn hN hby (by omega) (by omega) hd (fun q cA H1 hK1 hP1 hD1 hS1 => ?_)
  have e9 : cA = κ ty := by
    have h1 := (hK1.2 (tysOf κ).length (cA, ty) (by simp)).2
    exact ra_eq h1 (hK.2 t0 _ (ht κ)).2
  rw [e9] at hP1 hD1
  refine k q A p l e R s m args below meth c hC H1 locs (cells + 1) (slots + N') Z ls ⟨by omega, by omega⟩ ⟨hP1, hD1, hS1⟩ hl (fun w' H' locs' pc' ls' hG hw' hd' => ?_)
  have := hZ w' H' locs' pc' ls' hG hw' hd'
  rw [show cells + (gc + 1) = cells + 1 + gc by omega, show slots + (gs + N') = slots + N' + gs by omega] at this
  exact this
theorem N_newq {n : Int32} {N' index : Nat} {C : String} (t0 : Nat) (ht : ∀ κ, (tysOf κ)[t0]? = some (κ (.object C), .object C)) (hcl : Cond.classLink own index C ∈ GT) (hC0 : C = RX4 ∨ C = RX3) (hn : ¬ n < 0) (hN : n.toNatClampNeg = N') (hby : N' * 4 ≤ 536870912) (hd : decode cc pc = .ok (.anewarray index, 3)) (k : ∀ q : Nat, NX own cc nL d D κ ρ G gc gs (pc + 3) lv (.ref q :: st) (w ++ [(q, .inl (κ (.object C), N', .inr (.inr (.inr (.inr (fun _ => none))))))])) : NX own cc nL d D κ ρ G (gc + 1) (gs + N') pc lv (.int n :: st) w := by
  intro A p l e R s m args below meth c hC H locs cells slots Z ls hcs hw hl hZ
  obtain ⟨hx, hb, hr, hml, hown, hts, hlk, hin, hfr, hlo, hK, hA, hEN, hO4, hO3, -⟩ := id hC
  have hO : va_AO C s := by rcases hC0 with e9 | e9 <;> rw [e9] <;> assumption
  refine va_newq hx hb hown (hts _ hcl) hO hK hw.1 hw.2.1 hw.2.2 hA hn hN hby (by omega) (by omega) hd (fun q cA H1 hK1 hP1 hD1 hS1 => ?_)
  have e9 : cA = κ (.object C) := by
    have h1 := (hK1.2 (tysOf κ).length (cA, .object C) (by simp)).2
    exact ra_eq h1 (hK.2 t0 _ (ht κ)).2
  rw [e9] at hP1 hD1
  refine k q A p l e R s m args below meth c hC H1 locs (cells + 1) (slots + N') Z ls ⟨by omega, by omega⟩ ⟨hP1, hD1, hS1⟩ hl (fun w' H' locs' pc' ls' hG hw' hd' => ?_)
  have := hZ w' H' locs' pc' ls' hG hw' hd'
  rw [show cells + (gc + 1) = cells + 1 + gc by omega, show slots + (gs + N') = slots + N' + gs by omega] at this
  exact this
theorem N_new {C : String} {T : u_T} {N ci index : Nat} {fs : List Value} (ty : Nat → FieldType) (hc : vwCl[ci]? = some (C, T, N)) (hin : ∀ w ∈ u_ws C T N, w ∈ GT) (hty : ∀ k, k < N → parseFieldDescriptor (T k).2.2.1 = some (ty k)) (h1 : Cond.classLink own index C ∈ GT) (h2 : Cond.instantiable C N ∈ GT) (h3 : Cond.initialized C ∈ GT) (hfs : ∀ j, j < N → defaultValue (ty j) = vp_V fs j) (hd : decode cc pc = .ok (.new index, 3)) (k : ∀ q : Nat, NX own cc nL d D κ ρ G gc gs (pc + 3) lv (.ref q :: st) (w ++ [(q, .inr (ci, fs))])) : NX own cc nL d D κ ρ G (gc + 1) (gs + N) pc lv st w := by
  intro A p l e R s m args below meth c hC H locs cells slots Z ls hcs hw hl hZ
  obtain ⟨hx, hb, hr, hml, hown, hts, hlk, hin0, hfr, hlo, hK, hA, hEN⟩ := id hC
  refine va_new hx hb hts hin ty hty hown (hts _ h1) (hts _ h2) (hts _ h3) hK hw.1 hw.2.1 hw.2.2 hA hc hfs (by omega) (by omega) hd (fun q H1 hP1 hD1 hS1 => ?_)
  refine k q A p l e R s m args below meth c hC H1 locs (cells + 1) (slots + N) Z ls ⟨by omega, by omega⟩ ⟨hP1, hD1, hS1⟩ hl (fun w' H' locs' pc' ls' hG hw' hd' => ?_)
  have := hZ w' H' locs' pc' ls' hG hw' hd'
  rw [show cells + (gc + 1) = cells + 1 + gc by omega, show slots + (gs + N) = slots + N + gs by omega] at this
  exact this
theorem N_putF {ci index k q0 a : Nat} {ty : FieldType} {v : Value} {fs : List Value} (fk : FLk own index ci k ty true) (hown0 : ∀ C T N, vwCl[ci]? = some (C, T, N) → C = own) (he : w[q0]? = some (a, .inr (ci, fs))) (hn : narrow ty v = v) (hfit : fits ty v = true) (hl0 : k < fs.length) (hd : decode cc pc = .ok (.putfield index, 3)) (kk : NX own cc nL d D κ ρ G gc gs (pc + 3) lv st (w.set q0 (a, .inr (ci, fs.set k v)))) : NX own cc nL d D κ ρ G gc gs pc lv (v :: .ref a :: st) w := by
  intro A p l e R s m args below meth c hC H locs cells slots Z ls hcs hw hl hZ
  obtain ⟨C, T, N, ty0, h1, h2, h3, h4, h5, h6, h7, h8, h9⟩ := fk
  obtain ⟨hx, hb, hr, hml, hown, hts, hlk, hin, hfr, hlo, hK, hA, hEN⟩ := id hC
  refine va_putF (ref := C) hx hb hts h4 ty0 h5 h6 hown hK hw.1 hw.2.1 hw.2.2 q0 he h1 k h2 (hts _ h3) (fun x h => by rw [h7] at h; exact h) h9 hin (by rw [h7]; exact hown0 _ _ _ h1) h8 hn hfit hl0 hd (fun H1 locs1 hP hD hS => ?_)
  exact kk A p l e R s m args below meth c hC H1 locs1 cells slots Z ls hcs ⟨hP, hD, hS⟩ hl hZ
theorem N_put {ci index k q0 a : Nat} {ty : FieldType} {v : Value} {fs : List Value} (fk : FLk own index ci k ty false) (he : w[q0]? = some (a, .inr (ci, fs))) (hn : narrow ty v = v) (hfit : fits ty v = true) (hl0 : k < fs.length) (hd : decode cc pc = .ok (.putfield index, 3)) (kk : NX own cc nL d D κ ρ G gc gs (pc + 3) lv st (w.set q0 (a, .inr (ci, fs.set k v)))) : NX own cc nL d D κ ρ G gc gs pc lv (v :: .ref a :: st) w := by
  intro A p l e R s m args below meth c hC H locs cells slots Z ls hcs hw hl hZ
  obtain ⟨C, T, N, ty0, h1, h2, h3, h4, h5, h6, h7, h8, h9⟩ := fk
  obtain ⟨hx, hb, hr, hml, hown, hts, hlk, hin, hfr, hlo, hK, hA, hEN⟩ := id hC
  refine va_put (ref := C) hx hb hts h4 ty0 h5 h6 hown hK hw.1 hw.2.1 hw.2.2 q0 he h1 k h2 (hts _ h3) (fun x h => by rw [h7] at h; exact h) h9 h8 hn hfit hl0 hd (fun H1 locs1 hP hD hS => ?_)
  exact kk A p l e R s m args below meth c hC H1 locs1 cells slots Z ls hcs ⟨hP, hD, hS⟩ hl hZ
theorem N_get {ci index k q0 a : Nat} {ty : FieldType} {fin : Bool} {v : Value} {fs : List Value} (fk : FLk own index ci k ty fin) (he : w[q0]? = some (a, .inr (ci, fs))) (hv : fs[k]? = some v) (hd : decode cc pc = .ok (.getfield index, 3)) (kk : NX own cc nL d D κ ρ G gc gs (pc + 3) lv (v :: st) w) : NX own cc nL d D κ ρ G gc gs pc lv (.ref a :: st) w := by
  intro A p l e R s m args below meth c hC H locs cells slots Z ls hcs hw hl hZ
  obtain ⟨C, T, N, ty0, h1, h2, h3, h4, -, -, h7, -, -⟩ := fk
  obtain ⟨hx, hb, hr, hml, hown, hts, hlk, hin, hfr, hlo, hK, hA, hEN⟩ := id hC
  exact va_get (ref := C) hx hb hts h4 hown hK hw.1 q0 he h1 k h2 (hts _ h3) (fun x h => by rw [h7] at h; exact h) (v := v) hv hd (kk A p l e R s m args below meth c hC H locs cells slots Z ls hcs hw hl hZ)
theorem N_ast {q0 qk ci t0 a v n : Nat} {C : String} {T : u_T} {N : Nat} {vs : List Value} {f : Nat → Option Nat} {i : Int32} (ha : w[q0]? = some (a, .inl (κ (.object C), n, .inr (.inr (.inr (.inr f)))))) (ht : ∀ κ, (tysOf κ)[t0]? = some (κ (.object C), .object C)) (hv : w[qk]? = some (v, .inr (ci, vs))) (hc : vwCl[ci]? = some (C, T, N)) (hin : vp_in i n) (hd : decode cc pc = .ok (.aastore, 1)) (kk : NX own cc nL d D κ ρ G gc gs (pc + 1) lv st (w.set q0 (a, .inl (κ (.object C), n, .inr (.inr (.inr (.inr (va_up f i.toNatClampNeg (some v)))))))) ) : NX own cc nL d D κ ρ G gc gs pc lv (.ref v :: .int i :: .ref a :: st) w := by
  intro A p l e R s m args below meth c hC H locs cells slots Z ls hcs hw hl hZ
  obtain ⟨hx, hb, hr, hml, hown, hts, hlk, hin0, hfr, hlo, hK, hA, hEN⟩ := id hC
  exact va_astq hx hb hK hw.1 hw.2.1 hw.2.2 q0 t0 qk ci ha (ht κ) hv hc hin hd (fun H1 locs1 hP hD hS => kk A p l e R s m args below meth c hC H1 locs1 cells slots Z ls hcs ⟨hP, hD, hS⟩ hl hZ)
theorem EN.ren {ρ θ : Nat → Nat} {A : Nat → Prop} {U : State} {H : Heap} (h : EN ρ A U H) (hθ : ∀ i, 1000000 ≤ i → θ i = ρ i) : EN θ A U H := by
  have f0 : (fun i => θ (1000000 + 2 * i)) = fun i => ρ (1000000 + 2 * i) := funext (fun i => hθ _ (by omega))
  have f1 : (fun i => θ (1000001 + 2 * i)) = fun i => ρ (1000001 + 2 * i) := funext (fun i => hθ _ (by omega))
  unfold EN at h ⊢
  rw [f0, f1, hθ 1000000 (by omega), hθ 1000002 (by omega), hθ 1000010 (by omega)]
  exact h
/-- the rest of a maker that makes nothing more -/
theorem N_X {S : List Sh} {θ : Nat → Nat} {σ τ : Mm} {r : Int32} {L : List (Nat × Value)} {stk : List Value} (hθ : ∀ i, 1000000 ≤ i → θ i = ρ i) (hX : X (wsOf S) own cc nL none d 0 pc L stk σ (some (r, τ))) (hlv : lv = L.map (trL θ)) (hst : st = stk.map (tr θ)) (hG : G (wsOf S κ θ τ)) : NX own cc nL d D κ ρ G 0 0 pc lv st (wsOf S κ θ σ) := by
  intro A p l e R s m args below meth c hC H locs cells slots Z ls hcs hw hl hZ
  obtain ⟨hx, hb, hr, hml, hown, hts, hlk, hin, hfr, hlo, hK, hA, hEN, hNE⟩ := id hC
  rw [hst]
  rw [hlv] at hl
  refine hX D κ θ A p l e R s m args below meth c ⟨hx, hb, hr, hml, hown, hts, hlk, hfr, hlo, hK, hA, hEN.ren hθ⟩ H locs cells slots Z ls r τ ⟨by omega, by omega⟩ hw hl rfl ?_
  intro H' locs' cells' slots' pc' ls' hcs' hR hd
  refine W.widen (k := cells + 0) (n := slots + 0) (by omega) (by omega) ?_
  exact hZ _ H' locs' pc' ls' hG hR hd
end NXR
