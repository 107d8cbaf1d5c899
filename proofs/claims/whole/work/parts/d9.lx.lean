/-! the law: from here it ends with 1 -/
def R_law : String := "NextLightLaw"
def lw_Q (_ : Array Value) (s : State) (o : Outcome) (t : State) : Prop := o = .returned (some (.int 1)) ∧ Framed s o t [] 601024 7293034
def lw_Z (below : List Frame) (a : Array Value) (s : State) : State → Prop := fun t => ∃ o, t.status = .running ∧ Ended t below o ∧ lw_Q a s o t
/-- the law's own end, with 1 on the stack, nothing written that was there before, its room as the claim has it -/
theorem lw_ret {p : Program} {l : Launch} {e : Env} {s : State} {m : MethodId} {below : List Frame} {meth : Method} {c : Code} {b : Nat} (hx : p.tables.exec = Jvm.exec) (hb : c.code = code) (hr : meth.sig.returnType = ret) (hlocks : meth.locks = false) {pc : Nat} {H : Heap} {ls : Array Slot} (hdg : decode code pc = .ok (.ireturn, 1)) : W p l e room_1 s m #[Value.ref b] below meth c H [] 601024 7293034 (lw_Z below #[Value.ref b] s) (F0 m pc ls [.int 1]) := by
  intro T hT X
  obtain ⟨fs, hret, hrun, hended, hW, hframe⟩ := X.leave (v := some (.int 1)) (hlocks := hlocks) (fun h => by rw [hr] at h; cases h)
  have hmeth' : T.vm.method? m = some meth := X.method'
  refine ⟨T.setFrames fs, ?_, .returned (some (.int 1)), hrun, hended, rfl, ⟨_, rfl⟩, hW, hframe⟩
  jvm_step X.here [X.here.top, hx, hb, hdg, hmeth', hr, ret, narrow_b1]
  (try refine ⟨rfl, ?_⟩); (try refine ⟨rfl, ?_⟩)
  first | (intro acts; rw [hret _ acts rfl rfl rfl]) | rw [hret _ _ rfl rfl rfl]
  exact Steps.refl _
/-- addresses: the class's object and all below it from 0, the reference's from 2000, the row out 3000, the script 4000 -/
def rM (ρ : Nat → Nat) (i : Nat) : Nat := if i < 2000 then ρ (2000 + i) else ρ i
def wO (κ : FieldType → ClassId) (ρ : Nat → Nat) (ov : Nat → Int64) : va_W := [(ρ 3000, .inl (κ .long, 1, .inr (.inl ov)))]
def dmL (i : Nat) : Prop := i < 245 ∨ (2000 ≤ i ∧ i < 2050) ∨ i = 3000
def LCx (L : Nat) (xs : Nat → Int32) (D : va_G) (κ : FieldType → ClassId) (ρ : Nat → Nat) (p : Program) (l : Launch) (s : State) (m : MethodId) (meth : Method) (c : Code) (b : Nat) : Prop :=
  (p.tables.exec = Jvm.exec ∧ c.code = code ∧ meth.sig.returnType = ret ∧ c.maxLocals = 7 ∧ s.vm.findClass RL = some m.cls ∧ (∀ w ∈ GT, w.before #[Value.ref b] s = true) ∧ meth.locks = false) ∧ va_X b L xs s s.heap ∧ b < s.heap.size ∧ ρ 4000 = b ∧ va_K D vwCl (tysOf κ) s ∧ EN ρ (fun q => s.heap.size ≤ q) s s.heap ∧ NW s ∧ l.stackTraces = false ∧ ∀ w ∈ lw_tbl, w.before #[Value.ref b] s = true
def LWS (D : va_G) (κ : FieldType → ClassId) (ρ : Nat → Nat) (s : State) (σ μ : Mm) (ov : Nat → Int64) (H : Heap) (locs : List Loc) : Prop :=
  va_P D vwCl (wsOf SHC κ ρ σ) H ∧ va_P D vwCl (wsOf SHM κ (rM ρ) μ) H ∧ va_P D vwCl (wO κ ρ ov) H ∧ (∀ i j, dmL i → dmL j → ρ i = ρ j → i = j) ∧ (∀ i, dmL i → s.heap.size ≤ ρ i) ∧ va_S (fun q => s.heap.size ≤ q) s.heap H locs
def LX (L : Nat) (xs : Nat → Int32) (g pc : Nat) (lv : List (Nat × Value)) (st : List Value) (σ μ : Mm) (ov : Nat → Int64) : Prop :=
  ∀ (D : va_G) (κ : FieldType → ClassId) (ρ : Nat → Nat) (p : Program) (l : Launch) (e : Env) (s : State) (m : MethodId) (below : List Frame) (meth : Method) (c : Code) (b : Nat), LCx L xs D κ ρ p l s m meth c b →
  ∀ (H : Heap) (locs : List Loc) (cells slots : Nat) (ls : Array Slot), cells + g ≤ 601024 ∧ slots + 16 * g ≤ 7293034 → LWS D κ ρ s σ μ ov H locs → lv_has ls 7 (lv.map (trL ρ)) →
  W p l e room_1 s m #[Value.ref b] below meth c H locs cells slots (lw_Z below #[Value.ref b] s) (F0 m pc ls (st.map (tr ρ)))
section LXR
variable {L : Nat} {xs : Nat → Int32} {g pc : Nat} {lv lv' : List (Nat × Value)} {st : List Value} {σ μ : Mm} {ov : Nat → Int64}
theorem LX_iconst {n : Int} {v : Int32} (hd : decode code pc = .ok (.iconst n, 1)) (hv : Int32.ofInt n = v) (k : LX L xs g (pc + 1) lv (.int v :: st) σ μ ov) : LX L xs g pc lv (st) σ μ ov := by
  intro D κ ρ p l e s m below meth c b hC H locs cells slots ls hcs hS hl
  exact lv_iconst hC.1.1 hC.1.2.1 hd hv (k D κ ρ p l e s m below meth c b hC H locs cells slots ls hcs hS hl)
theorem LX_bipush {n : Int} {v : Int32} (hd : decode code pc = .ok (.bipush n, 2)) (hv : (Int8.ofInt n).toInt32 = v) (k : LX L xs g (pc + 2) lv (.int v :: st) σ μ ov) : LX L xs g pc lv (st) σ μ ov := by
  intro D κ ρ p l e s m below meth c b hC H locs cells slots ls hcs hS hl
  exact lv_bipush hC.1.1 hC.1.2.1 hd hv (k D κ ρ p l e s m below meth c b hC H locs cells slots ls hcs hS hl)
theorem LX_ldc2 {index : Nat} {v : Int64} (hd : decode code pc = .ok (.ldc2_w index, 3)) (hw : Cond.constantLong RL index v ∈ GT) (k : LX L xs g (pc + 3) lv (.long v :: st) σ μ ov) : LX L xs g pc lv (st) σ μ ov := by
  intro D κ ρ p l e s m below meth c b hC H locs cells slots ls hcs hS hl
  exact lv_ldc2 hC.1.1 hC.1.2.1 hC.1.2.2.2.2.1 (hC.1.2.2.2.2.2.1 _ hw) hd (k D κ ρ p l e s m below meth c b hC H locs cells slots ls hcs hS hl)
theorem LX_iload {i : Nat} {x : Int32} (hd : decode code pc = .ok (.iload i, 2)) (j : Nat) (hj : lv[j]? = some (i, .int x)) (k : LX L xs g (pc + 2) lv (.int x :: st) σ μ ov) : LX L xs g pc lv (st) σ μ ov := by
  intro D κ ρ p l e s m below meth c b hC H locs cells slots ls hcs hS hl
  exact lv_iload hC.1.1 hC.1.2.1 hd (lv_at hl j (trL_at hj)) (k D κ ρ p l e s m below meth c b hC H locs cells slots ls hcs hS hl)
theorem LX_aload_n {q : Fin 4} {i : Nat} {x : Nat} (hd : decode code pc = .ok (.aload_n q, 1)) (hi : (q : Nat) = i) (j : Nat) (hj : lv[j]? = some (i, .ref x)) (k : LX L xs g (pc + 1) lv (.ref x :: st) σ μ ov) : LX L xs g pc lv (st) σ μ ov := by
  intro D κ ρ p l e s m below meth c b hC H locs cells slots ls hcs hS hl
  exact lv_aload_n hC.1.1 hC.1.2.1 hd hi (lv_at hl j (trL_at hj)) (k D κ ρ p l e s m below meth c b hC H locs cells slots ls hcs hS hl)
theorem LX_iadd {x y : Int32} (hd : decode code pc = .ok (.iadd, 1)) (k : LX L xs g (pc + 1) lv (.int (x + y) :: st) σ μ ov) : LX L xs g pc lv (.int y :: .int x :: st) σ μ ov := by
  intro D κ ρ p l e s m below meth c b hC H locs cells slots ls hcs hS hl
  exact lv_iadd hC.1.1 hC.1.2.1 hd (k D κ ρ p l e s m below meth c b hC H locs cells slots ls hcs hS hl)
theorem LX_isub {x y : Int32} (hd : decode code pc = .ok (.isub, 1)) (k : LX L xs g (pc + 1) lv (.int (x - y) :: st) σ μ ov) : LX L xs g pc lv (.int y :: .int x :: st) σ μ ov := by
  intro D κ ρ p l e s m below meth c b hC H locs cells slots ls hcs hS hl
  exact lv_isub hC.1.1 hC.1.2.1 hd (k D κ ρ p l e s m below meth c b hC H locs cells slots ls hcs hS hl)
theorem LX_iand {x y : Int32} (hd : decode code pc = .ok (.iand, 1)) (k : LX L xs g (pc + 1) lv (.int (x &&& y) :: st) σ μ ov) : LX L xs g pc lv (.int y :: .int x :: st) σ μ ov := by
  intro D κ ρ p l e s m below meth c b hC H locs cells slots ls hcs hS hl
  exact lv_iand hC.1.1 hC.1.2.1 hd (k D κ ρ p l e s m below meth c b hC H locs cells slots ls hcs hS hl)
theorem LX_land {x y : Int64} (hd : decode code pc = .ok (.land, 1)) (k : LX L xs g (pc + 1) lv (.long (x &&& y) :: st) σ μ ov) : LX L xs g pc lv (.long y :: .long x :: st) σ μ ov := by
  intro D κ ρ p l e s m below meth c b hC H locs cells slots ls hcs hS hl
  exact lv_land hC.1.1 hC.1.2.1 hd (k D κ ρ p l e s m below meth c b hC H locs cells slots ls hcs hS hl)
theorem LX_lor {x y : Int64} (hd : decode code pc = .ok (.lor, 1)) (k : LX L xs g (pc + 1) lv (.long (x ||| y) :: st) σ μ ov) : LX L xs g pc lv (.long y :: .long x :: st) σ μ ov := by
  intro D κ ρ p l e s m below meth c b hC H locs cells slots ls hcs hS hl
  exact lv_lor hC.1.1 hC.1.2.1 hd (k D κ ρ p l e s m below meth c b hC H locs cells slots ls hcs hS hl)
theorem LX_lshl {x : Int64} {y : Int32} (hd : decode code pc = .ok (.lshl, 1)) (k : LX L xs g (pc + 1) lv (.long (lshl x y) :: st) σ μ ov) : LX L xs g pc lv (.int y :: .long x :: st) σ μ ov := by
  intro D κ ρ p l e s m below meth c b hC H locs cells slots ls hcs hS hl
  exact lv_lshl hC.1.1 hC.1.2.1 hd rfl (k D κ ρ p l e s m below meth c b hC H locs cells slots ls hcs hS hl)
theorem LX_i2l {x : Int32} (hd : decode code pc = .ok (.i2l, 1)) (k : LX L xs g (pc + 1) lv (.long x.toInt64 :: st) σ μ ov) : LX L xs g pc lv (.int x :: st) σ μ ov := by
  intro D κ ρ p l e s m below meth c b hC H locs cells slots ls hcs hS hl
  exact lv_i2l hC.1.1 hC.1.2.1 hd rfl (k D κ ρ p l e s m below meth c b hC H locs cells slots ls hcs hS hl)
theorem LX_lcmp {x y : Int64} (hd : decode code pc = .ok (.lcmp, 1)) (k : LX L xs g (pc + 1) lv (.int (lg_cmp x y) :: st) σ μ ov) : LX L xs g pc lv (.long y :: .long x :: st) σ μ ov := by
  intro D κ ρ p l e s m below meth c b hC H locs cells slots ls hcs hS hl
  exact W.lcmp hC.1.1 hC.1.2.1 hd (k D κ ρ p l e s m below meth c b hC H locs cells slots ls hcs hS hl)
theorem LX_goto {off : Int} {tgt : Nat} (hd : decode code pc = .ok (.goto off, 3)) (ht : (pc : Int) + off = (tgt : Int)) (k : LX L xs g tgt lv st σ μ ov) : LX L xs g pc lv st σ μ ov := by
  intro D κ ρ p l e s m below meth c b hC H locs cells slots ls hcs hS hl
  exact lv_goto hC.1.1 hC.1.2.1 hd ht (k D κ ρ p l e s m below meth c b hC H locs cells slots ls hcs hS hl)
theorem LX_eqr {x y : Int32} {off : Int} {tgt : Nat} (hd : decode code pc = .ok (.if_icmp .eq off, 3)) (ht : (pc : Int) + off = (tgt : Int)) (hxy : x = y) (k : LX L xs g tgt lv st σ μ ov) : LX L xs g pc lv (.int y :: .int x :: st) σ μ ov := by
  intro D κ ρ p l e s m below meth c b hC H locs cells slots ls hcs hS hl
  exact lv_icmp_eq hC.1.1 hC.1.2.1 hd ht (fun _ => k D κ ρ p l e s m below meth c b hC H locs cells slots ls hcs hS hl) (fun q => absurd hxy q)
theorem LX_gt {x y : Int32} {off : Int} {tgt : Nat} (hd : decode code pc = .ok (.if_icmp .gt off, 3)) (ht : (pc : Int) + off = (tgt : Int)) (kt : y < x → LX L xs g tgt lv st σ μ ov) (kf : ¬ y < x → LX L xs g (pc + 3) lv st σ μ ov) : LX L xs g pc lv (.int y :: .int x :: st) σ μ ov := by
  intro D κ ρ p l e s m below meth c b hC H locs cells slots ls hcs hS hl
  exact lv_icmp_gt hC.1.1 hC.1.2.1 hd ht (fun q => kt q D κ ρ p l e s m below meth c b hC H locs cells slots ls hcs hS hl) (fun q => kf q D κ ρ p l e s m below meth c b hC H locs cells slots ls hcs hS hl)
theorem LX_ifeq {x : Int32} {off : Int} {tgt : Nat} (hd : decode code pc = .ok (.ifCond .eq off, 3)) (ht : (pc : Int) + off = (tgt : Int)) (kt : x = 0 → LX L xs g tgt lv st σ μ ov) (kf : ¬ x = 0 → LX L xs g (pc + 3) lv st σ μ ov) : LX L xs g pc lv (.int x :: st) σ μ ov := by
  intro D κ ρ p l e s m below meth c b hC H locs cells slots ls hcs hS hl
  exact lv_if_eq hC.1.1 hC.1.2.1 hd ht (fun q => kt q D κ ρ p l e s m below meth c b hC H locs cells slots ls hcs hS hl) (fun q => kf q D κ ρ p l e s m below meth c b hC H locs cells slots ls hcs hS hl)
theorem LX_ifne {x : Int32} {off : Int} {tgt : Nat} (hd : decode code pc = .ok (.ifCond .ne off, 3)) (ht : (pc : Int) + off = (tgt : Int)) (kt : ¬ x = 0 → LX L xs g tgt lv st σ μ ov) (kf : x = 0 → LX L xs g (pc + 3) lv st σ μ ov) : LX L xs g pc lv (.int x :: st) σ μ ov := by
  intro D κ ρ p l e s m below meth c b hC H locs cells slots ls hcs hS hl
  exact lv_if_ne hC.1.1 hC.1.2.1 hd ht (fun q => kt q D κ ρ p l e s m below meth c b hC H locs cells slots ls hcs hS hl) (fun q => kf q D κ ρ p l e s m below meth c b hC H locs cells slots ls hcs hS hl)
theorem LX_istore {i : Nat} {x : Int32} (hd : decode code pc = .ok (.istore i, 2)) (hn : i < 7) (hL : (i, Value.int x) :: lv.filter (fun q => !(q.1 == i) && !(q.1 + 1 == i && q.2.category == 2)) = lv') (k : LX L xs g (pc + 2) lv' st σ μ ov) : LX L xs g pc lv (.int x :: st) σ μ ov := by
  intro D κ ρ p l e s m below meth c b hC H locs cells slots ls hcs hS hl
  refine lv_istore (lv' := lv'.map (trL ρ)) hC.1.1 hC.1.2.1 hd hl hn ?_ (fun ls hl => k D κ ρ p l e s m below meth c b hC H locs cells slots ls hcs hS hl)
  rw [← hL, List.map_cons, ← trL_filter (fun a b => !(a == i) && !(a + 1 == i && b == 2))]
  rfl
theorem LX_iinc {i : Nat} {n : Int} {x v : Int32} (hd : decode code pc = .ok (.iinc i n, 3)) (j : Nat) (hj : lv[j]? = some (i, .int x)) (hv : x + Int32.ofInt n = v) (hn : i < 7) (hL : (i, Value.int v) :: lv.filter (fun q => !(q.1 == i) && !(q.1 + 1 == i && q.2.category == 2)) = lv') (k : LX L xs g (pc + 3) lv' st σ μ ov) : LX L xs g pc lv st σ μ ov := by
  intro D κ ρ p l e s m below meth c b hC H locs cells slots ls hcs hS hl
  refine lv_iinc (lv' := lv'.map (trL ρ)) hC.1.1 hC.1.2.1 hd hl (k := j) (trL_at hj) hv hn ?_ (fun ls hl => k D κ ρ p l e s m below meth c b hC H locs cells slots ls hcs hS hl)
  rw [← hL, List.map_cons, ← trL_filter (fun a b => !(a == i) && !(a + 1 == i && b == 2))]
  rfl
theorem LX_sub (ks : List Nat) (hL : lv_pick lv ks = lv') (k : LX L xs g pc lv' st σ μ ov) : LX L xs g pc lv st σ μ ov := by
  intro D κ ρ p l e s m below meth c b hC H locs cells slots ls hcs hS hl
  refine k D κ ρ p l e s m below meth c b hC H locs cells slots ls hcs hS (lv_sub hl ks ?_)
  rw [← hL]
  simp only [lv_pick, List.map_filterMap, List.getElem?_map, List.filterMap_map]
theorem LX_less {g' : Nat} (h : g' ≤ g) (k : LX L xs g' pc lv st σ μ ov) : LX L xs g pc lv st σ μ ov := by
  intro D κ ρ p l e s m below meth c b hC H locs cells slots ls hcs hS hl
  exact k D κ ρ p l e s m below meth c b hC H locs cells slots ls ⟨by omega, by omega⟩ hS hl
theorem LX_swI {x c : Int32} {dflt lo hi : Int} {offs : Array Int} {len : Nat} {off : Int} {tgt : Nat} (hd : decode code pc = .ok (.tableswitch dflt lo hi offs, len)) (hx : x = c) (h1 : ¬ c.toInt < lo) (h2 : ¬ hi < c.toInt) (ho : offs[(c.toInt - lo).toNat]? = some off) (ht : (pc : Int) + off = (tgt : Int)) (k : LX L xs g tgt lv st σ μ ov) : LX L xs g pc lv (.int x :: st) σ μ ov := by
  intro D κ ρ p l e s m below meth c9 b hC H locs cells slots ls hcs hS hl
  subst hx
  exact lv_tableIn hC.1.1 hC.1.2.1 hd h1 h2 ho ht (k D κ ρ p l e s m below meth c9 b hC H locs cells slots ls hcs hS hl)
theorem LX_swO {x : Int32} {dflt lo hi : Int} {offs : Array Int} {len : Nat} {tgt : Nat} (hd : decode code pc = .ok (.tableswitch dflt lo hi offs, len)) (h : x.toInt < lo ∨ hi < x.toInt) (ht : (pc : Int) + dflt = (tgt : Int)) (k : LX L xs g tgt lv st σ μ ov) : LX L xs g pc lv (.int x :: st) σ μ ov := by
  intro D κ ρ p l e s m below meth c b hC H locs cells slots ls hcs hS hl
  exact lv_tableOut hC.1.1 hC.1.2.1 hd h ht (k D κ ρ p l e s m below meth c b hC H locs cells slots ls hcs hS hl)
theorem LX_slen (hd : decode code pc = .ok (.arraylength, 1)) (k : LX L xs g (pc + 1) lv (.int (Int32.ofNat L) :: st) σ μ ov) : LX L xs g pc lv (.ref 4000 :: st) σ μ ov := by
  intro D κ ρ p l e s m below meth c b hC H locs cells slots ls hcs hS hl
  show W _ _ _ _ _ _ _ _ _ _ _ _ _ _ _ (F0 m pc ls (.ref (ρ 4000) :: st.map (tr ρ)))
  rw [hC.2.2.2.1]
  exact va_slen hC.1.1 hC.1.2.1 hC.2.1 hC.2.2.1 (Nat.not_le.mpr hC.2.2.1) hS.2.2.2.2.2 hd (k D κ ρ p l e s m below meth c b hC H locs cells slots ls hcs hS hl)
theorem LX_sld {j : Nat} (hj : j < L) (hL : L ≤ 3584) (hd : decode code pc = .ok (.iaload, 1)) (k : LX L xs g (pc + 1) lv (.int (xs j) :: st) σ μ ov) : LX L xs g pc lv (.int (nI j) :: .ref 4000 :: st) σ μ ov := by
  intro D κ ρ p l e s m below meth c b hC H locs cells slots ls hcs hS hl
  show W _ _ _ _ _ _ _ _ _ _ _ _ _ _ _ (F0 m pc ls (.int (nI j) :: .ref (ρ 4000) :: st.map (tr ρ)))
  rw [hC.2.2.2.1]
  have e9 : (nI j).toNatClampNeg = j := nI_tn (by omega)
  refine va_sld hC.1.1 hC.1.2.1 hC.2.1 hC.2.2.1 (Nat.not_le.mpr hC.2.2.1) hS.2.2.2.2.2 (vp_in_nI hj (by omega)) hd ?_
  rw [e9]
  exact k D κ ρ p l e s m below meth c b hC H locs cells slots ls hcs hS hl
theorem LX_old (hd : decode code pc = .ok (.laload, 1)) (k : LX L xs g (pc + 1) lv (.long (ov 0) :: st) σ μ ov) : LX L xs g pc lv (.int 0 :: .ref 3000 :: st) σ μ ov := by
  intro D κ ρ p l e s m below meth c b hC H locs cells slots ls hcs hS hl
  exact va_lald hC.1.1 hC.1.2.1 hC.2.2.2.2.1 hS.2.2.1 0 1 (n := 1) rfl rfl (by unfold vp_in; decide) hd (k D κ ρ p l e s m below meth c b hC H locs cells slots ls hcs hS hl)
theorem LX_end (hd : decode code pc = .ok (.ireturn, 1)) : LX L xs g pc lv [.int 1] σ μ ov := by
  intro D κ ρ p l e s m below meth c b hC H locs cells slots ls hcs hS hl
  refine va_forget (fun q hq => hS.2.2.2.2.2.2.2 q hq) ?_
  refine W.widen (k := 601024) (n := 7293034) (by omega) (by omega) ?_
  exact lw_ret hC.1.1 hC.1.2.1 hC.1.2.2.1 hC.1.2.2.2.2.2.2 hd
end LXR
/-! calls of the class and of the reference -/
theorem ws_mem {S : List Sh} {κ : FieldType → ClassId} {ρ : Nat → Nat} {σ : Mm} {k : Nat} {q : Nat × va_E} (h : (wsOf S κ ρ σ)[k]? = some q) : k < S.length ∧ q.1 = ρ k := by
  simp only [wsOf, List.getElem?_mapIdx, Option.map_eq_some_iff] at h
  obtain ⟨sh, h1, h2⟩ := h
  exact ⟨(List.getElem?_eq_some_iff.mp h1).1, by rw [← h2]⟩
theorem ws_D {S : List Sh} {κ : FieldType → ClassId} {ρ : Nat → Nat} {σ : Mm} {A : Nat → Prop} (h1 : ∀ i j, i < S.length → j < S.length → ρ i = ρ j → i = j) (h2 : ∀ i, i < S.length → A (ρ i)) : va_D A (wsOf S κ ρ σ) :=
  ⟨fun i j p q hp hq e => h1 i j (ws_mem hp).1 (ws_mem hq).1 (by rw [← (ws_mem hp).2, ← (ws_mem hq).2]; exact e), fun k q hk => by rw [(ws_mem hk).2]; exact h2 k (ws_mem hk).1⟩
theorem ws_A {S : List Sh} {κ : FieldType → ClassId} {ρ : Nat → Nat} {σ : Mm} {sz q : Nat} (h : va_A (wsOf S κ ρ σ) sz q) : (∃ k, k < S.length ∧ q = ρ k) ∨ sz ≤ q := by
  rcases h with ⟨k, e, hk⟩ | h
  · exact Or.inl ⟨k, (ws_mem hk).1, (ws_mem hk).2⟩
  · exact Or.inr h
theorem EN.rm {ρ : Nat → Nat} {A : Nat → Prop} {U : State} {H : Heap} (h : EN ρ A U H) : EN (rM ρ) A U H := by
  have e0 : ∀ n, rM ρ (1000000 + n) = ρ (1000000 + n) := fun n => by unfold rM; rw [if_neg (by omega)]
  have e1 : ∀ n, rM ρ (1000001 + n) = ρ (1000001 + n) := fun n => by unfold rM; rw [if_neg (by omega)]
  have f0 : (fun i => rM ρ (1000000 + 2 * i)) = fun i => ρ (1000000 + 2 * i) := funext (fun i => e0 (2 * i))
  have f1 : (fun i => rM ρ (1000001 + 2 * i)) = fun i => ρ (1000001 + 2 * i) := funext (fun i => e1 (2 * i))
  unfold EN at h ⊢
  rw [f0, f1, show rM ρ 1000000 = ρ 1000000 from e0 0, show rM ρ 1000002 = ρ 1000002 from e0 2, show rM ρ 1000010 = ρ 1000010 from e0 10]
  exact h
theorem shc_len : SHC.length = 245 := by decide +kernel
theorem shm_len : SHM.length = 50 := by decide +kernel
theorem rM_lt {ρ : Nat → Nat} {i : Nat} (h : i < 50) : rM ρ i = ρ (2000 + i) := by unfold rM; rw [if_pos (by omega)]
set_option maxHeartbeats 4000000 in
theorem LX_calli {L : Nat} {xs : Nat → Int32} {g pc : Nat} {lv : List (Nat × Value)} {st stk As : List Value} {σ μ σ' : Mm} {ov : Nat → Int64} {y : MethodName} {cc' : ByteArray} {nL' n d' index : Nat} {ty : FieldType} {r : Int32} (hcon : Con (wsOf SHC) y cc' nL' (some ty) d' (.ref 0 :: As) σ (some (r, σ'))) (mk : MkV y cc' nL' (some ty) n 11) (hlink : Cond.methodLink RL index y ∈ GT) (hdd : d' ≤ 1000) (hn : As.length = n) (hAs : ∀ ρ', As.map (tr ρ') = As) (hst : stk = As.reverse ++ .ref 0 :: st) (hsum : (st.map fun v => v.category).sum ≤ 8) (hd : decode code pc = .ok (.invokevirtual index, 3)) (kk : LX L xs g (pc + 3) lv (.int r :: st) σ' μ ov) : LX L xs g pc lv stk σ μ ov := by
  intro D κ ρ p l e s m below meth c b hC H locs cells slots ls hcs hLS hl
  obtain ⟨⟨hx, hb, -, hml, hown, hts, -⟩, -, -, -, hK, hEN, -⟩ := id hC
  obtain ⟨hP1, hP2, hP3, hinj, hgeq, hS⟩ := id hLS
  obtain ⟨m1, m2, m3, m4, m5, ⟨T0, N0, m6⟩, m7⟩ := mk
  have hM := hcon l D κ ρ H.size r σ' rfl
  have inj : ∀ i j, i < SHC.length → j < SHC.length → ρ i = ρ j → i = j := fun i j hi hj e => hinj i j (Or.inl (by rw [shc_len] at hi; exact hi)) (Or.inl (by rw [shc_len] at hj; exact hj)) e
  have gq : ∀ i, i < SHC.length → s.heap.size ≤ ρ i := fun i hi => hgeq i (Or.inl (by rw [shc_len] at hi; exact hi))
  have hD : va_D (fun q => s.heap.size ≤ q) (wsOf SHC κ ρ σ) := ws_D inj gq
  have hFc : ∀ q, va_A (wsOf SHC κ ρ σ) H.size q → s.heap.size ≤ q := fun q h => by
    rcases ws_A h with ⟨k, hk, rfl⟩ | h
    · exact gq k hk
    · exact Nat.le_trans hS.1 h
  have eA : As.map (tr ρ) = As := hAs ρ
  have hstk : stk.map (tr ρ) = (As.map (tr ρ)).reverse ++ .ref (ρ 0) :: st.map (tr ρ) := by
    rw [hst, List.map_append, List.map_reverse, eA]
    rfl
  rw [hstk]
  refine va_calli (va_runV (As := As.map (tr ρ)) (rest := st.map (tr ρ)) ⟨hx, hb, hml, hown, hts⟩ hM ⟨callB_of n hts (gt_in m4) rfl rfl rfl (hts _ m3) (hts _ hlink) m5 ⟨by show d' + 1 ≤ 2048; omega, by show 8 + (nL' + 11) + 48 * d' ≤ 84000; omega⟩, hts _ m1, hts _ m2⟩ ⟨nl_blind, va_recv hK hP1 m6 (ws_get sC_0), fun U hU hW => ⟨rfl, by rw [hU], by rw [hU]; exact hP1, va_K.moved hW.alike hK, hD.weaken (fun _ _ _ _ => trivial), hEN.call hS hFc hW hU⟩⟩ rfl (by rw [List.length_map]; exact hn) hl.1 rfl (by show 2 * 0 + _ ≤ 8; rw [tr_sum]; omega) hd ⟨by show cells + 0 ≤ 601024; omega, by show slots + 0 ≤ 7293034; omega⟩) hS (fun q _ h => hFc q h) hFc (fun r2 u t H1 locs1 ht hvm hw hB hz1 hk1 hS1 => ?_)
  obtain ⟨rfl, rfl, hnr⟩ := hw
  rw [ht] at hB
  have keep : ∀ q : Nat, q < H.size → (∀ k, k < SHC.length → q ≠ ρ k) → H1[q]? = H[q]? := fun q h1 h2 => hk1 q h1 (fun h => by
    rcases ws_A h with ⟨k, hk, e⟩ | h
    · exact h2 k hk e
    · exact Nat.not_le.mpr h1 h)
  have nq : ∀ i, dmL i → ¬ i < 245 → ∀ k, k < SHC.length → ρ i ≠ ρ k := fun i hi h1 k hk e => h1 (by rw [hinj i k hi (Or.inl (by rw [shc_len] at hk; exact hk)) e]; rw [shc_len] at hk; exact hk)
  refine kk D κ ρ p l e s m below meth c b hC H1 locs1 cells slots ls hcs ⟨hB.1, hP2.kept (fun k q hk => keep _ (va_at_lt (hP2 k q hk)) ?_), hP3.kept (fun k q hk => keep _ (va_at_lt (hP3 k q hk)) ?_), hinj, hgeq, hS1⟩ hl
  · obtain ⟨w1, w2⟩ := ws_mem hk
    rw [shm_len] at w1
    rw [w2, rM_lt w1]
    exact nq _ (Or.inr (Or.inl ⟨by omega, by omega⟩)) (by omega)
  · have w : q.1 = ρ 3000 := by
      cases k with
      | zero => cases hk; rfl
      | succ k => simp [wO] at hk
    rw [w]
    exact nq 3000 (Or.inr (Or.inr rfl)) (by omega)
set_option maxHeartbeats 4000000 in
theorem LX_mcalli {L : Nat} {xs : Nat → Int32} {g pc : Nat} {lv : List (Nat × Value)} {st stk As : List Value} {σ μ μ' : Mm} {ov : Nat → Int64} {y : MethodName} {cc' : ByteArray} {nL' n d' index : Nat} {ty : FieldType} {r : Int32} (hcon : Con (wsOf SHM) y cc' nL' (some ty) d' (.ref 0 :: As) μ (some (r, μ'))) (mk : MkV y cc' nL' (some ty) n 12) (hlink : Cond.methodLink RL index y ∈ GT) (hdd : d' ≤ 1000) (hn : As.length = n) (hAs : ∀ ρ', As.map (tr ρ') = As) (hst : stk = As.reverse ++ .ref 2000 :: st) (hsum : (st.map fun v => v.category).sum ≤ 8) (hd : decode code pc = .ok (.invokevirtual index, 3)) (kk : LX L xs g (pc + 3) lv (.int r :: st) σ μ' ov) : LX L xs g pc lv stk σ μ ov := by
  intro D κ ρ p l e s m below meth c b hC H locs cells slots ls hcs hLS hl
  obtain ⟨⟨hx, hb, -, hml, hown, hts, -⟩, -, -, -, hK, hEN, -⟩ := id hC
  obtain ⟨hP1, hP2, hP3, hinj, hgeq, hS⟩ := id hLS
  obtain ⟨m1, m2, m3, m4, m5, ⟨T0, N0, m6⟩, m7⟩ := mk
  have hM := hcon l D κ (rM ρ) H.size r μ' rfl
  have dm : ∀ i, i < SHM.length → i < 50 := fun i hi => by rw [shm_len] at hi; exact hi
  have inj : ∀ i j, i < SHM.length → j < SHM.length → rM ρ i = rM ρ j → i = j := fun i j hi hj e => by
    rw [rM_lt (dm i hi), rM_lt (dm j hj)] at e
    have h1 := dm i hi
    have h2 := dm j hj
    have := hinj _ _ (Or.inr (Or.inl ⟨by omega, by omega⟩)) (Or.inr (Or.inl ⟨by omega, by omega⟩)) e
    omega
  have gq : ∀ i, i < SHM.length → s.heap.size ≤ rM ρ i := fun i hi => by
    have h1 := dm i hi
    rw [rM_lt h1]
    exact hgeq _ (Or.inr (Or.inl ⟨by omega, by omega⟩))
  have hD : va_D (fun q => s.heap.size ≤ q) (wsOf SHM κ (rM ρ) μ) := ws_D inj gq
  have hFc : ∀ q, va_A (wsOf SHM κ (rM ρ) μ) H.size q → s.heap.size ≤ q := fun q h => by
    rcases ws_A h with ⟨k, hk, rfl⟩ | h
    · exact gq k hk
    · exact Nat.le_trans hS.1 h
  have eA : As.map (tr ρ) = As := hAs ρ
  have hstk : stk.map (tr ρ) = (As.map (tr (rM ρ))).reverse ++ .ref ((rM ρ) 0) :: st.map (tr ρ) := by
    rw [hst, List.map_append, List.map_reverse, eA, hAs]
    rfl
  rw [hstk]
  refine va_calli (va_runV (As := As.map (tr (rM ρ))) (rest := st.map (tr ρ)) ⟨hx, hb, hml, hown, hts⟩ hM ⟨callB_of n hts (gt_in m4) rfl rfl rfl (hts _ m3) (hts _ hlink) m5 ⟨by show d' + 1 ≤ 2048; omega, by show 8 + (nL' + 11) + 48 * d' ≤ 84000; omega⟩, hts _ m1, hts _ m2⟩ ⟨nl_blind, va_recv hK hP2 m6 (ws_get sM_0), fun U hU hW => ⟨rfl, by rw [hU], by rw [hU]; exact hP2, va_K.moved hW.alike hK, hD.weaken (fun _ _ _ _ => trivial), hEN.rm.call hS hFc hW hU⟩⟩ rfl (by rw [List.length_map]; exact hn) hl.1 rfl (by show 2 * 0 + _ ≤ 8; rw [tr_sum]; omega) hd ⟨by show cells + 0 ≤ 601024; omega, by show slots + 0 ≤ 7293034; omega⟩) hS (fun q _ h => hFc q h) hFc (fun r2 u t H1 locs1 ht hvm hw hB hz1 hk1 hS1 => ?_)
  obtain ⟨rfl, rfl, hnr⟩ := hw
  rw [ht] at hB
  have keep : ∀ q : Nat, q < H.size → (∀ k, k < SHM.length → q ≠ (rM ρ) k) → H1[q]? = H[q]? := fun q h1 h2 => hk1 q h1 (fun h => by
    rcases ws_A h with ⟨k, hk, e⟩ | h
    · exact h2 k hk e
    · exact Nat.not_le.mpr h1 h)
  have nq : ∀ i, dmL i → ¬ (2000 ≤ i ∧ i < 2050) → ∀ k, k < SHM.length → ρ i ≠ rM ρ k := fun i hi h1 k hk e => by
    have h2 := dm k hk
    rw [rM_lt h2] at e
    have := hinj i _ hi (Or.inr (Or.inl ⟨by omega, by omega⟩)) e
    exact h1 ⟨by omega, by omega⟩
  refine kk D κ ρ p l e s m below meth c b hC H1 locs1 cells slots ls hcs ⟨hP1.kept (fun k q hk => keep _ (va_at_lt (hP1 k q hk)) ?_), hB.1, hP3.kept (fun k q hk => keep _ (va_at_lt (hP3 k q hk)) ?_), hinj, hgeq, hS1⟩ hl
  · obtain ⟨w1, w2⟩ := ws_mem hk
    rw [shc_len] at w1
    rw [w2]
    exact nq _ (Or.inl w1) (by omega)
  · have w : q.1 = ρ 3000 := by
      cases k with
      | zero => cases hk; rfl
      | succ k => simp [wO] at hk
    rw [w]
    exact nq 3000 (Or.inr (Or.inr rfl)) (by omega)
