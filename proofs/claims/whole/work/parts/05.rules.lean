/-- references by the map of addresses -/
def tr (ρ : Nat → Nat) (v : Value) : Value := match v with
  | .ref q => .ref (ρ q)
  | .int x => .int x
  | .long x => .long x
  | w => w
def trL (ρ : Nat → Nat) (q : Nat × Value) : Nat × Value := (q.1, tr ρ q.2)
theorem tr_cat (ρ : Nat → Nat) (v : Value) : (tr ρ v).category = v.category := by cases v <;> rfl
theorem tr_sum (ρ : Nat → Nat) (st : List Value) : ((st.map (tr ρ)).map fun v => v.category).sum = (st.map fun v => v.category).sum := by
  rw [List.map_map]
  congr 1
  apply List.map_congr_left
  intro v _
  exact tr_cat ρ v
theorem mw_0 : Cond.initialized "java/lang/Math" ∈ GT := gt_t 18 (by decide +kernel) (by decide)
theorem mw_max_1 : Cond.static Lib.Math.max.name ∈ GT := gt_t 517 (by decide +kernel) (by decide)
theorem mw_max_2 : Cond.code Lib.Math.max.name Lib.Math.max.code 2 (some .int) ∈ GT := gt_t 518 (by decide +kernel) (by decide)
theorem mw_min_1 : Cond.static Lib.Math.min.name ∈ GT := gt_t 520 (by decide +kernel) (by decide)
theorem mw_min_2 : Cond.code Lib.Math.min.name Lib.Math.min.code 2 (some .int) ∈ GT := gt_t 521 (by decide +kernel) (by decide)
theorem mw_ac_0 : Cond.initialized "java/lang/System" ∈ GT := gt_t 20 (by decide +kernel) (by decide)
theorem mw_ac_1 : Cond.native arraycopyName ∈ GT := gt_t 791 (by decide +kernel) (by decide)
theorem mw_ac_2 : Cond.static arraycopyName ∈ GT := gt_t 790 (by decide +kernel) (by decide)
theorem trL_at {ρ : Nat → Nat} {L : List (Nat × Value)} {j i : Nat} {v : Value} (h : L[j]? = some (i, v)) : (L.map (trL ρ))[j]? = some (i, tr ρ v) := by
  simp [h, trL]
theorem trL_filter {ρ : Nat → Nat} (f : Nat → Nat → Bool) (L : List (Nat × Value)) : (L.map (trL ρ)).filter (fun q => f q.1 q.2.category) = (L.filter (fun q => f q.1 q.2.category)).map (trL ρ) := by
  induction L with
  | nil => rfl
  | cons q t ih =>
    simp only [List.map_cons, List.filter_cons, trL, tr_cat]
    split
    · simp only [List.map_cons, trL]; rw [← ih]
    · exact ih
/-- the array types of the worlds -/
def tysOf (κ : FieldType → ClassId) : List (ClassId × FieldType) := [(κ .int, .int), (κ .long, .long), (κ .byte, .byte), (κ .short, .short), (κ .boolean, .boolean), (κ (.object RX4), .object RX4), (κ (.object RX3), .object RX3)]
/-- the machine's side of a method's frame -/
def Cx (own : String) (cc : ByteArray) (nL : Nat) (ret : Option FieldType) (d : Nat) (D : va_G) (κ : FieldType → ClassId) (ρ : Nat → Nat) (A : Nat → Prop) (p : Program) (R : Room) (s : State) (m : MethodId) (args : Array Value) (meth : Method) (c : Code) : Prop :=
  p.tables.exec = Jvm.exec ∧ c.code = cc ∧ meth.sig.returnType = ret ∧ c.maxLocals = nL ∧ s.vm.findClass own = some m.cls ∧ (∀ w ∈ GT, w.before args s = true) ∧ meth.locks = false ∧ d ≤ R.frames ∧ 48 * d ≤ R.locals ∧ va_K D vwCl (tysOf κ) s ∧ (∀ q, s.heap.size ≤ q → A q) ∧ EN ρ A s s.heap
/-- the heap holds the world -/
def Rp {T : Type} (wf : (FieldType → ClassId) → (Nat → Nat) → T → va_W) (D : va_G) (κ : FieldType → ClassId) (ρ : Nat → Nat) (A : Nat → Prop) (s : State) (σ : T) (H : Heap) (locs : List Loc) : Prop :=
  va_P D vwCl (wf κ ρ σ) H ∧ va_D A (wf κ ρ σ) ∧ va_S A s.heap H locs
/-- what the end of the method owes: with g even its return, with g odd the place where it throws (r: that place) -/
def Rt {T : Type} (wf : (FieldType → ClassId) → (Nat → Nat) → T → va_W) (cc : ByteArray) (nL : Nat) (ret : Option FieldType) (g : Nat) (D : va_G) (κ : FieldType → ClassId) (ρ : Nat → Nat) (A : Nat → Prop) (p : Program) (l : Launch) (e : Env) (R : Room) (s : State) (m : MethodId) (args : Array Value) (below : List Frame) (meth : Method) (c : Code) (Z : State → Prop) (r : Int32) (τ : T) : Prop :=
  ∀ (H : Heap) (locs : List Loc) (cells slots pc : Nat) (ls : Array Slot), cells ≤ R.cells ∧ slots ≤ R.slots → Rp wf D κ ρ A s τ H locs → match g % 2, ret with
    | 0, none => decode cc pc = .ok (.return_, 1) → W p l e R s m args below meth c H locs cells slots Z (F0 m pc ls [])
    | 0, some ty => narrow ty (.int r) = .int r → decode cc pc = .ok (.ireturn, 1) → W p l e R s m args below meth c H locs cells slots Z (F0 m pc ls [.int r])
    | _, _ => cells + 1 ≤ R.cells ∧ slots + 6 ≤ R.slots → ls.size = nL → r = nI pc → pc < 1000000 → (∃ ik, decode cc pc = .ok (.new ik, 3)) → W p l e R s m args below meth c H locs cells slots Z (F0 m pc ls [])
/-- from the frame at pc, with locals L, stack st and memory σ, the method comes to the end that E tells; g: how many things may still be made -/
def X {T : Type} (wf : (FieldType → ClassId) → (Nat → Nat) → T → va_W) (own : String) (cc : ByteArray) (nL : Nat) (ret : Option FieldType) (d g : Nat) (pc : Nat) (L : List (Nat × Value)) (st : List Value) (σ : T) (E : Option (Int32 × T)) : Prop :=
  ∀ (D : va_G) (κ : FieldType → ClassId) (ρ : Nat → Nat) (A : Nat → Prop) (p : Program) (l : Launch) (e : Env) (R : Room) (s : State) (m : MethodId) (args : Array Value) (below : List Frame) (meth : Method) (c : Code), Cx own cc nL ret d D κ ρ A p R s m args meth c →
  ∀ (H : Heap) (locs : List Loc) (cells slots : Nat) (Z : State → Prop) (ls : Array Slot) (r : Int32) (τ : T), cells + g ≤ R.cells ∧ slots + 16 * g ≤ R.slots → Rp wf D κ ρ A s σ H locs → lv_has ls nL (L.map (trL ρ)) → E = some (r, τ) → Rt wf cc nL ret g D κ ρ A p l e R s m args below meth c Z r τ →
  W p l e R s m args below meth c H locs cells slots Z (F0 m pc ls (st.map (tr ρ)))
section XR
variable {T : Type} {wf : (FieldType → ClassId) → (Nat → Nat) → T → va_W} {own : String} {cc : ByteArray} {nL : Nat} {ret : Option FieldType} {d g : Nat} {pc : Nat} {L L' : List (Nat × Value)} {st : List Value} {σ : T} {E : Option (Int32 × T)}
theorem X_none : X wf own cc nL ret d g pc L st σ none := by
  intro D κ ρ A p l e R s m args below meth c hC H locs cells slots Z ls r τ hcs hR hl hE
  cases hE
theorem X_sub (ks : List Nat) (hL : lv_pick L ks = L') (k : X wf own cc nL ret d g pc L' st σ E) : X wf own cc nL ret d g pc L st σ E := by
  intro D κ ρ A p l e R s m args below meth c hC H locs cells slots Z ls r τ hcs hR hl hE hZ
  refine k D κ ρ A p l e R s m args below meth c hC H locs cells slots Z ls r τ hcs hR (lv_sub hl ks ?_) hE hZ
  rw [← hL]
  simp only [lv_pick, List.getElem?_map]
  rw [List.map_filterMap]
theorem X_ck {b : Bool} (k : b = true → X wf own cc nL ret d g pc L st σ E) : X wf own cc nL ret d g pc L st σ (ck b E) := by
  cases b with
  | true => exact k rfl
  | false => exact X_none
theorem X_bn {α : Type} {v : α} {F : α → Option (Int32 × T)} (k : X wf own cc nL ret d g pc L st σ (F v)) : X wf own cc nL ret d g pc L st σ (bn v F) := k
theorem X_bi {v : Int32} {F : Int32 → Option (Int32 × T)} (k : ∀ x, X wf own cc nL ret d g pc L (.int x :: st) σ (F x)) : X wf own cc nL ret d g pc L (.int v :: st) σ (bn v F) := k v
theorem X_bl {v : Int64} {F : Int64 → Option (Int32 × T)} (k : ∀ x, X wf own cc nL ret d g pc L (.long x :: st) σ (F x)) : X wf own cc nL ret d g pc L (.long v :: st) σ (bn v F) := k v
theorem X_jn {α : Type} {K : α} {B : α → Option (Int32 × T)} (P : α → Prop) (h : P K) (k : ∀ K, P K → X wf own cc nL ret d g pc L st σ (B K)) : X wf own cc nL ret d g pc L st σ (jn K B) := k K h

theorem X_iconst {n : Int} {v : Int32} (hd : decode cc pc = .ok (.iconst n, 1)) (hv : Int32.ofInt n = v) (k : X wf own cc nL ret d g (pc + 1) L (.int v :: st) σ E) : X wf own cc nL ret d g pc L st σ E := by
  intro D κ ρ A p l e R s m args below meth c hC H locs cells slots Z ls r τ hcs hR hl hE hZ
  exact lv_iconst hC.1 hC.2.1 hd hv (k D κ ρ A p l e R s m args below meth c hC H locs cells slots Z ls r τ hcs hR hl hE hZ)
theorem X_bipush {n : Int} {v : Int32} (hd : decode cc pc = .ok (.bipush n, 2)) (hv : (Int8.ofInt n).toInt32 = v) (k : X wf own cc nL ret d g (pc + 2) L (.int v :: st) σ E) : X wf own cc nL ret d g pc L st σ E := by
  intro D κ ρ A p l e R s m args below meth c hC H locs cells slots Z ls r τ hcs hR hl hE hZ
  exact lv_bipush hC.1 hC.2.1 hd hv (k D κ ρ A p l e R s m args below meth c hC H locs cells slots Z ls r τ hcs hR hl hE hZ)
theorem X_sipush {n : Int} {v : Int32} (hd : decode cc pc = .ok (.sipush n, 3)) (hv : (Int16.ofInt n).toInt32 = v) (k : X wf own cc nL ret d g (pc + 3) L (.int v :: st) σ E) : X wf own cc nL ret d g pc L st σ E := by
  intro D κ ρ A p l e R s m args below meth c hC H locs cells slots Z ls r τ hcs hR hl hE hZ
  exact lv_sipush hC.1 hC.2.1 hd hv (k D κ ρ A p l e R s m args below meth c hC H locs cells slots Z ls r τ hcs hR hl hE hZ)
theorem X_lconst {n : Fin 2} {v : Int64} (hd : decode cc pc = .ok (.lconst n, 1)) (hv : Int64.ofNat (n : Nat) = v) (k : X wf own cc nL ret d g (pc + 1) L (.long v :: st) σ E) : X wf own cc nL ret d g pc L st σ E := by
  intro D κ ρ A p l e R s m args below meth c hC H locs cells slots Z ls r τ hcs hR hl hE hZ
  exact lv_lconst hC.1 hC.2.1 hd hv (k D κ ρ A p l e R s m args below meth c hC H locs cells slots Z ls r τ hcs hR hl hE hZ)
theorem X_ldc {index : Nat} {v : Int32} (hd : decode cc pc = .ok (.ldc index, 2)) (hw : Cond.constant own index v ∈ GT) (k : X wf own cc nL ret d g (pc + 2) L (.int v :: st) σ E) : X wf own cc nL ret d g pc L st σ E := by
  intro D κ ρ A p l e R s m args below meth c hC H locs cells slots Z ls r τ hcs hR hl hE hZ
  exact lv_ldc hC.1 hC.2.1 hC.2.2.2.2.1 (hC.2.2.2.2.2.1 _ hw) hd (k D κ ρ A p l e R s m args below meth c hC H locs cells slots Z ls r τ hcs hR hl hE hZ)
theorem X_ldcw {index : Nat} {v : Int32} (hd : decode cc pc = .ok (.ldc_w index, 3)) (hw : Cond.constant own index v ∈ GT) (k : X wf own cc nL ret d g (pc + 3) L (.int v :: st) σ E) : X wf own cc nL ret d g pc L st σ E := by
  intro D κ ρ A p l e R s m args below meth c hC H locs cells slots Z ls r τ hcs hR hl hE hZ
  exact lv_ldcw hC.1 hC.2.1 hC.2.2.2.2.1 (hC.2.2.2.2.2.1 _ hw) hd (k D κ ρ A p l e R s m args below meth c hC H locs cells slots Z ls r τ hcs hR hl hE hZ)
theorem X_ldc2 {index : Nat} {v : Int64} (hd : decode cc pc = .ok (.ldc2_w index, 3)) (hw : Cond.constantLong own index v ∈ GT) (k : X wf own cc nL ret d g (pc + 3) L (.long v :: st) σ E) : X wf own cc nL ret d g pc L st σ E := by
  intro D κ ρ A p l e R s m args below meth c hC H locs cells slots Z ls r τ hcs hR hl hE hZ
  exact lv_ldc2 hC.1 hC.2.1 hC.2.2.2.2.1 (hC.2.2.2.2.2.1 _ hw) hd (k D κ ρ A p l e R s m args below meth c hC H locs cells slots Z ls r τ hcs hR hl hE hZ)
theorem X_iload_n {q : Fin 4} {i : Nat} {x : Int32} (hd : decode cc pc = .ok (.iload_n q, 1)) (hi : (q : Nat) = i) (j : Nat) (hj : L[j]? = some (i, .int x)) (k : X wf own cc nL ret d g (pc + 1) L (.int x :: st) σ E) : X wf own cc nL ret d g pc L st σ E := by
  intro D κ ρ A p l e R s m args below meth c hC H locs cells slots Z ls r τ hcs hR hl hE hZ
  exact lv_iload_n hC.1 hC.2.1 hd hi (lv_at hl j (trL_at hj)) (k D κ ρ A p l e R s m args below meth c hC H locs cells slots Z ls r τ hcs hR hl hE hZ)
theorem X_iload {i : Nat} {x : Int32} (hd : decode cc pc = .ok (.iload i, 2)) (j : Nat) (hj : L[j]? = some (i, .int x)) (k : X wf own cc nL ret d g (pc + 2) L (.int x :: st) σ E) : X wf own cc nL ret d g pc L st σ E := by
  intro D κ ρ A p l e R s m args below meth c hC H locs cells slots Z ls r τ hcs hR hl hE hZ
  exact lv_iload hC.1 hC.2.1 hd (lv_at hl j (trL_at hj)) (k D κ ρ A p l e R s m args below meth c hC H locs cells slots Z ls r τ hcs hR hl hE hZ)
theorem X_lload_n {q : Fin 4} {i : Nat} {x : Int64} (hd : decode cc pc = .ok (.lload_n q, 1)) (hi : (q : Nat) = i) (j : Nat) (hj : L[j]? = some (i, .long x)) (k : X wf own cc nL ret d g (pc + 1) L (.long x :: st) σ E) : X wf own cc nL ret d g pc L st σ E := by
  intro D κ ρ A p l e R s m args below meth c hC H locs cells slots Z ls r τ hcs hR hl hE hZ
  exact lv_lload_n hC.1 hC.2.1 hd hi (lv_at hl j (trL_at hj)) (k D κ ρ A p l e R s m args below meth c hC H locs cells slots Z ls r τ hcs hR hl hE hZ)
theorem X_lload {i : Nat} {x : Int64} (hd : decode cc pc = .ok (.lload i, 2)) (j : Nat) (hj : L[j]? = some (i, .long x)) (k : X wf own cc nL ret d g (pc + 2) L (.long x :: st) σ E) : X wf own cc nL ret d g pc L st σ E := by
  intro D κ ρ A p l e R s m args below meth c hC H locs cells slots Z ls r τ hcs hR hl hE hZ
  exact lv_lload hC.1 hC.2.1 hd (lv_at hl j (trL_at hj)) (k D κ ρ A p l e R s m args below meth c hC H locs cells slots Z ls r τ hcs hR hl hE hZ)
theorem X_aload_n {q : Fin 4} {i : Nat} {x : Nat} (hd : decode cc pc = .ok (.aload_n q, 1)) (hi : (q : Nat) = i) (j : Nat) (hj : L[j]? = some (i, .ref x)) (k : X wf own cc nL ret d g (pc + 1) L (.ref x :: st) σ E) : X wf own cc nL ret d g pc L st σ E := by
  intro D κ ρ A p l e R s m args below meth c hC H locs cells slots Z ls r τ hcs hR hl hE hZ
  exact lv_aload_n hC.1 hC.2.1 hd hi (lv_at hl j (trL_at hj)) (k D κ ρ A p l e R s m args below meth c hC H locs cells slots Z ls r τ hcs hR hl hE hZ)
theorem X_aload {i : Nat} {x : Nat} (hd : decode cc pc = .ok (.aload i, 2)) (j : Nat) (hj : L[j]? = some (i, .ref x)) (k : X wf own cc nL ret d g (pc + 2) L (.ref x :: st) σ E) : X wf own cc nL ret d g pc L st σ E := by
  intro D κ ρ A p l e R s m args below meth c hC H locs cells slots Z ls r τ hcs hR hl hE hZ
  exact lv_aload hC.1 hC.2.1 hd (lv_at hl j (trL_at hj)) (k D κ ρ A p l e R s m args below meth c hC H locs cells slots Z ls r τ hcs hR hl hE hZ)
theorem X_istore_n {q : Fin 4} {i : Nat} {x : Int32} (hd : decode cc pc = .ok (.istore_n q, 1)) (hi : (q : Nat) = i) (hn : i < nL) (hL : (i, Value.int x) :: L.filter (fun q => !(q.1 == i) && !(q.1 + 1 == i && q.2.category == 2)) = L') (k : X wf own cc nL ret d g (pc + 1) L' st σ E) : X wf own cc nL ret d g pc L (.int x :: st) σ E := by
  intro D κ ρ A p l e R s m args below meth c hC H locs cells slots Z ls r τ hcs hR hl hE hZ
  refine lv_istore_n (lv' := L'.map (trL ρ)) hC.1 hC.2.1 hd hi hl hn ?_ (fun ls hl => k D κ ρ A p l e R s m args below meth c hC H locs cells slots Z ls r τ hcs hR hl hE hZ)
  rw [← hL, List.map_cons, ← trL_filter (fun a b => !(a == i) && !(a + 1 == i && b == 2))]
  rfl
theorem X_istore {i : Nat} {x : Int32} (hd : decode cc pc = .ok (.istore i, 2)) (hn : i < nL) (hL : (i, Value.int x) :: L.filter (fun q => !(q.1 == i) && !(q.1 + 1 == i && q.2.category == 2)) = L') (k : X wf own cc nL ret d g (pc + 2) L' st σ E) : X wf own cc nL ret d g pc L (.int x :: st) σ E := by
  intro D κ ρ A p l e R s m args below meth c hC H locs cells slots Z ls r τ hcs hR hl hE hZ
  refine lv_istore (lv' := L'.map (trL ρ)) hC.1 hC.2.1 hd hl hn ?_ (fun ls hl => k D κ ρ A p l e R s m args below meth c hC H locs cells slots Z ls r τ hcs hR hl hE hZ)
  rw [← hL, List.map_cons, ← trL_filter (fun a b => !(a == i) && !(a + 1 == i && b == 2))]
  rfl
theorem X_lstore_n {q : Fin 4} {i : Nat} {x : Int64} (hd : decode cc pc = .ok (.lstore_n q, 1)) (hi : (q : Nat) = i) (hn : i + 1 < nL) (hL : (i, Value.long x) :: L.filter (fun q => !(q.1 == i) && (!(q.1 == i + 1) && !(q.1 + 1 == i && q.2.category == 2))) = L') (k : X wf own cc nL ret d g (pc + 1) L' st σ E) : X wf own cc nL ret d g pc L (.long x :: st) σ E := by
  intro D κ ρ A p l e R s m args below meth c hC H locs cells slots Z ls r τ hcs hR hl hE hZ
  refine lv_lstore_n (lv' := L'.map (trL ρ)) hC.1 hC.2.1 hd hi hl hn ?_ (fun ls hl => k D κ ρ A p l e R s m args below meth c hC H locs cells slots Z ls r τ hcs hR hl hE hZ)
  rw [← hL, List.map_cons, ← trL_filter (fun a b => !(a == i) && (!(a == i + 1) && !(a + 1 == i && b == 2)))]
  rfl
theorem X_lstore {i : Nat} {x : Int64} (hd : decode cc pc = .ok (.lstore i, 2)) (hn : i + 1 < nL) (hL : (i, Value.long x) :: L.filter (fun q => !(q.1 == i) && (!(q.1 == i + 1) && !(q.1 + 1 == i && q.2.category == 2))) = L') (k : X wf own cc nL ret d g (pc + 2) L' st σ E) : X wf own cc nL ret d g pc L (.long x :: st) σ E := by
  intro D κ ρ A p l e R s m args below meth c hC H locs cells slots Z ls r τ hcs hR hl hE hZ
  refine lv_lstore (lv' := L'.map (trL ρ)) hC.1 hC.2.1 hd hl hn ?_ (fun ls hl => k D κ ρ A p l e R s m args below meth c hC H locs cells slots Z ls r τ hcs hR hl hE hZ)
  rw [← hL, List.map_cons, ← trL_filter (fun a b => !(a == i) && (!(a == i + 1) && !(a + 1 == i && b == 2)))]
  rfl
theorem X_astore_n {q : Fin 4} {i : Nat} {x : Nat} (hd : decode cc pc = .ok (.astore_n q, 1)) (hi : (q : Nat) = i) (hn : i < nL) (hL : (i, Value.ref x) :: L.filter (fun q => !(q.1 == i) && !(q.1 + 1 == i && q.2.category == 2)) = L') (k : X wf own cc nL ret d g (pc + 1) L' st σ E) : X wf own cc nL ret d g pc L (.ref x :: st) σ E := by
  intro D κ ρ A p l e R s m args below meth c hC H locs cells slots Z ls r τ hcs hR hl hE hZ
  refine lv_astore_n (lv' := L'.map (trL ρ)) hC.1 hC.2.1 hd hi hl hn ?_ (fun ls hl => k D κ ρ A p l e R s m args below meth c hC H locs cells slots Z ls r τ hcs hR hl hE hZ)
  rw [← hL, List.map_cons, ← trL_filter (fun a b => !(a == i) && !(a + 1 == i && b == 2))]
  rfl
theorem X_astore {i : Nat} {x : Nat} (hd : decode cc pc = .ok (.astore i, 2)) (hn : i < nL) (hL : (i, Value.ref x) :: L.filter (fun q => !(q.1 == i) && !(q.1 + 1 == i && q.2.category == 2)) = L') (k : X wf own cc nL ret d g (pc + 2) L' st σ E) : X wf own cc nL ret d g pc L (.ref x :: st) σ E := by
  intro D κ ρ A p l e R s m args below meth c hC H locs cells slots Z ls r τ hcs hR hl hE hZ
  refine lv_astore (lv' := L'.map (trL ρ)) hC.1 hC.2.1 hd hl hn ?_ (fun ls hl => k D κ ρ A p l e R s m args below meth c hC H locs cells slots Z ls r τ hcs hR hl hE hZ)
  rw [← hL, List.map_cons, ← trL_filter (fun a b => !(a == i) && !(a + 1 == i && b == 2))]
  rfl
theorem X_iinc {i : Nat} {n : Int} {x v : Int32} (hd : decode cc pc = .ok (.iinc i n, 3)) (j : Nat) (hj : L[j]? = some (i, .int x)) (hv : x + Int32.ofInt n = v) (hn : i < nL) (hL : (i, Value.int v) :: L.filter (fun q => !(q.1 == i) && !(q.1 + 1 == i && q.2.category == 2)) = L') (k : X wf own cc nL ret d g (pc + 3) L' st σ E) : X wf own cc nL ret d g pc L st σ E := by
  intro D κ ρ A p l e R s m args below meth c hC H locs cells slots Z ls r τ hcs hR hl hE hZ
  refine lv_iinc (lv' := L'.map (trL ρ)) hC.1 hC.2.1 hd hl (k := j) (trL_at hj) hv hn ?_ (fun ls hl => k D κ ρ A p l e R s m args below meth c hC H locs cells slots Z ls r τ hcs hR hl hE hZ)
  rw [← hL, List.map_cons, ← trL_filter (fun a b => !(a == i) && !(a + 1 == i && b == 2))]
  rfl
theorem X_iadd {x y : Int32} (hd : decode cc pc = .ok (.iadd, 1)) (k : X wf own cc nL ret d g (pc + 1) L (.int (x + y) :: st) σ E) : X wf own cc nL ret d g pc L (.int y :: .int x :: st) σ E := by
  intro D κ ρ A p l e R s m args below meth c hC H locs cells slots Z ls r τ hcs hR hl hE hZ
  exact lv_iadd hC.1 hC.2.1 hd (k D κ ρ A p l e R s m args below meth c hC H locs cells slots Z ls r τ hcs hR hl hE hZ)
theorem X_isub {x y : Int32} (hd : decode cc pc = .ok (.isub, 1)) (k : X wf own cc nL ret d g (pc + 1) L (.int (x - y) :: st) σ E) : X wf own cc nL ret d g pc L (.int y :: .int x :: st) σ E := by
  intro D κ ρ A p l e R s m args below meth c hC H locs cells slots Z ls r τ hcs hR hl hE hZ
  exact lv_isub hC.1 hC.2.1 hd (k D κ ρ A p l e R s m args below meth c hC H locs cells slots Z ls r τ hcs hR hl hE hZ)
theorem X_imul {x y : Int32} (hd : decode cc pc = .ok (.imul, 1)) (k : X wf own cc nL ret d g (pc + 1) L (.int (x * y) :: st) σ E) : X wf own cc nL ret d g pc L (.int y :: .int x :: st) σ E := by
  intro D κ ρ A p l e R s m args below meth c hC H locs cells slots Z ls r τ hcs hR hl hE hZ
  exact lv_imul hC.1 hC.2.1 hd (k D κ ρ A p l e R s m args below meth c hC H locs cells slots Z ls r τ hcs hR hl hE hZ)
theorem X_iand {x y : Int32} (hd : decode cc pc = .ok (.iand, 1)) (k : X wf own cc nL ret d g (pc + 1) L (.int (x &&& y) :: st) σ E) : X wf own cc nL ret d g pc L (.int y :: .int x :: st) σ E := by
  intro D κ ρ A p l e R s m args below meth c hC H locs cells slots Z ls r τ hcs hR hl hE hZ
  exact lv_iand hC.1 hC.2.1 hd (k D κ ρ A p l e R s m args below meth c hC H locs cells slots Z ls r τ hcs hR hl hE hZ)
theorem X_ior {x y : Int32} (hd : decode cc pc = .ok (.ior, 1)) (k : X wf own cc nL ret d g (pc + 1) L (.int (x ||| y) :: st) σ E) : X wf own cc nL ret d g pc L (.int y :: .int x :: st) σ E := by
  intro D κ ρ A p l e R s m args below meth c hC H locs cells slots Z ls r τ hcs hR hl hE hZ
  exact lv_ior hC.1 hC.2.1 hd (k D κ ρ A p l e R s m args below meth c hC H locs cells slots Z ls r τ hcs hR hl hE hZ)
theorem X_ixor {x y : Int32} (hd : decode cc pc = .ok (.ixor, 1)) (k : X wf own cc nL ret d g (pc + 1) L (.int (x ^^^ y) :: st) σ E) : X wf own cc nL ret d g pc L (.int y :: .int x :: st) σ E := by
  intro D κ ρ A p l e R s m args below meth c hC H locs cells slots Z ls r τ hcs hR hl hE hZ
  exact lv_ixor hC.1 hC.2.1 hd (k D κ ρ A p l e R s m args below meth c hC H locs cells slots Z ls r τ hcs hR hl hE hZ)
theorem X_ishl {x y : Int32} (hd : decode cc pc = .ok (.ishl, 1)) (k : X wf own cc nL ret d g (pc + 1) L (.int (x <<< (y &&& 31)) :: st) σ E) : X wf own cc nL ret d g pc L (.int y :: .int x :: st) σ E := by
  intro D κ ρ A p l e R s m args below meth c hC H locs cells slots Z ls r τ hcs hR hl hE hZ
  exact lv_ishl hC.1 hC.2.1 hd (k D κ ρ A p l e R s m args below meth c hC H locs cells slots Z ls r τ hcs hR hl hE hZ)
theorem X_ishr {x y : Int32} (hd : decode cc pc = .ok (.ishr, 1)) (k : X wf own cc nL ret d g (pc + 1) L (.int (x >>> (y &&& 31)) :: st) σ E) : X wf own cc nL ret d g pc L (.int y :: .int x :: st) σ E := by
  intro D κ ρ A p l e R s m args below meth c hC H locs cells slots Z ls r τ hcs hR hl hE hZ
  exact lv_ishr hC.1 hC.2.1 hd (k D κ ρ A p l e R s m args below meth c hC H locs cells slots Z ls r τ hcs hR hl hE hZ)
theorem X_idiv {x y : Int32} (hd : decode cc pc = .ok (.idiv, 1)) (hne : ¬ y = 0) (k : X wf own cc nL ret d g (pc + 1) L (.int (x / y) :: st) σ E) : X wf own cc nL ret d g pc L (.int y :: .int x :: st) σ E := by
  intro D κ ρ A p l e R s m args below meth c hC H locs cells slots Z ls r τ hcs hR hl hE hZ
  exact lv_idiv hC.1 hC.2.1 hd hne (k D κ ρ A p l e R s m args below meth c hC H locs cells slots Z ls r τ hcs hR hl hE hZ)
theorem X_irem {x y : Int32} (hd : decode cc pc = .ok (.irem, 1)) (hne : ¬ y = 0) (k : X wf own cc nL ret d g (pc + 1) L (.int (x - x / y * y) :: st) σ E) : X wf own cc nL ret d g pc L (.int y :: .int x :: st) σ E := by
  intro D κ ρ A p l e R s m args below meth c hC H locs cells slots Z ls r τ hcs hR hl hE hZ
  exact lv_irem hC.1 hC.2.1 hd hne (k D κ ρ A p l e R s m args below meth c hC H locs cells slots Z ls r τ hcs hR hl hE hZ)
theorem X_ladd {x y : Int64} (hd : decode cc pc = .ok (.ladd, 1)) (k : X wf own cc nL ret d g (pc + 1) L (.long (x + y) :: st) σ E) : X wf own cc nL ret d g pc L (.long y :: .long x :: st) σ E := by
  intro D κ ρ A p l e R s m args below meth c hC H locs cells slots Z ls r τ hcs hR hl hE hZ
  exact lv_ladd hC.1 hC.2.1 hd (k D κ ρ A p l e R s m args below meth c hC H locs cells slots Z ls r τ hcs hR hl hE hZ)
theorem X_lsub {x y : Int64} (hd : decode cc pc = .ok (.lsub, 1)) (k : X wf own cc nL ret d g (pc + 1) L (.long (x - y) :: st) σ E) : X wf own cc nL ret d g pc L (.long y :: .long x :: st) σ E := by
  intro D κ ρ A p l e R s m args below meth c hC H locs cells slots Z ls r τ hcs hR hl hE hZ
  exact lv_lsub hC.1 hC.2.1 hd (k D κ ρ A p l e R s m args below meth c hC H locs cells slots Z ls r τ hcs hR hl hE hZ)
theorem X_lmul {x y : Int64} (hd : decode cc pc = .ok (.lmul, 1)) (k : X wf own cc nL ret d g (pc + 1) L (.long (x * y) :: st) σ E) : X wf own cc nL ret d g pc L (.long y :: .long x :: st) σ E := by
  intro D κ ρ A p l e R s m args below meth c hC H locs cells slots Z ls r τ hcs hR hl hE hZ
  exact lv_lmul hC.1 hC.2.1 hd (k D κ ρ A p l e R s m args below meth c hC H locs cells slots Z ls r τ hcs hR hl hE hZ)
theorem X_land {x y : Int64} (hd : decode cc pc = .ok (.land, 1)) (k : X wf own cc nL ret d g (pc + 1) L (.long (x &&& y) :: st) σ E) : X wf own cc nL ret d g pc L (.long y :: .long x :: st) σ E := by
  intro D κ ρ A p l e R s m args below meth c hC H locs cells slots Z ls r τ hcs hR hl hE hZ
  exact lv_land hC.1 hC.2.1 hd (k D κ ρ A p l e R s m args below meth c hC H locs cells slots Z ls r τ hcs hR hl hE hZ)
theorem X_lor {x y : Int64} (hd : decode cc pc = .ok (.lor, 1)) (k : X wf own cc nL ret d g (pc + 1) L (.long (x ||| y) :: st) σ E) : X wf own cc nL ret d g pc L (.long y :: .long x :: st) σ E := by
  intro D κ ρ A p l e R s m args below meth c hC H locs cells slots Z ls r τ hcs hR hl hE hZ
  exact lv_lor hC.1 hC.2.1 hd (k D κ ρ A p l e R s m args below meth c hC H locs cells slots Z ls r τ hcs hR hl hE hZ)
theorem X_ldiv {x y : Int64} (hd : decode cc pc = .ok (.ldiv, 1)) (hne : ¬ y = 0) (k : X wf own cc nL ret d g (pc + 1) L (.long (x / y) :: st) σ E) : X wf own cc nL ret d g pc L (.long y :: .long x :: st) σ E := by
  intro D κ ρ A p l e R s m args below meth c hC H locs cells slots Z ls r τ hcs hR hl hE hZ
  exact lv_ldiv hC.1 hC.2.1 hd hne (k D κ ρ A p l e R s m args below meth c hC H locs cells slots Z ls r τ hcs hR hl hE hZ)
theorem X_lrem {x y : Int64} (hd : decode cc pc = .ok (.lrem, 1)) (hne : ¬ y = 0) (k : X wf own cc nL ret d g (pc + 1) L (.long (x - x / y * y) :: st) σ E) : X wf own cc nL ret d g pc L (.long y :: .long x :: st) σ E := by
  intro D κ ρ A p l e R s m args below meth c hC H locs cells slots Z ls r τ hcs hR hl hE hZ
  exact lv_lrem hC.1 hC.2.1 hd hne (k D κ ρ A p l e R s m args below meth c hC H locs cells slots Z ls r τ hcs hR hl hE hZ)
theorem X_ineg {x : Int32} (hd : decode cc pc = .ok (.ineg, 1)) (k : X wf own cc nL ret d g (pc + 1) L (.int (-x) :: st) σ E) : X wf own cc nL ret d g pc L (.int x :: st) σ E := by
  intro D κ ρ A p l e R s m args below meth c hC H locs cells slots Z ls r τ hcs hR hl hE hZ
  exact lv_ineg hC.1 hC.2.1 hd (k D κ ρ A p l e R s m args below meth c hC H locs cells slots Z ls r τ hcs hR hl hE hZ)
def ushr (x y : Int32) : Int32 := (x.toUInt32 >>> (y.toUInt32 &&& Int32.toUInt32 31)).toInt32
def lshl (x : Int64) (y : Int32) : Int64 := x <<< (y.toInt64 &&& 63)
def lushr (x : Int64) (y : Int32) : Int64 := (x.toUInt64 >>> (y.toInt64.toUInt64 &&& Int64.toUInt64 63)).toInt64
theorem X_iushr {x y : Int32} (hd : decode cc pc = .ok (.iushr, 1)) (k : X wf own cc nL ret d g (pc + 1) L (.int (ushr x y) :: st) σ E) : X wf own cc nL ret d g pc L (.int y :: .int x :: st) σ E := by
  intro D κ ρ A p l e R s m args below meth c hC H locs cells slots Z ls r τ hcs hR hl hE hZ
  exact lv_iushr hC.1 hC.2.1 hd rfl (k D κ ρ A p l e R s m args below meth c hC H locs cells slots Z ls r τ hcs hR hl hE hZ)
theorem X_lshl {x : Int64} {y : Int32} (hd : decode cc pc = .ok (.lshl, 1)) (k : X wf own cc nL ret d g (pc + 1) L (.long (lshl x y) :: st) σ E) : X wf own cc nL ret d g pc L (.int y :: .long x :: st) σ E := by
  intro D κ ρ A p l e R s m args below meth c hC H locs cells slots Z ls r τ hcs hR hl hE hZ
  exact lv_lshl hC.1 hC.2.1 hd rfl (k D κ ρ A p l e R s m args below meth c hC H locs cells slots Z ls r τ hcs hR hl hE hZ)
theorem X_lushr {x : Int64} {y : Int32} (hd : decode cc pc = .ok (.lushr, 1)) (k : X wf own cc nL ret d g (pc + 1) L (.long (lushr x y) :: st) σ E) : X wf own cc nL ret d g pc L (.int y :: .long x :: st) σ E := by
  intro D κ ρ A p l e R s m args below meth c hC H locs cells slots Z ls r τ hcs hR hl hE hZ
  exact lv_lushr hC.1 hC.2.1 hd rfl (k D κ ρ A p l e R s m args below meth c hC H locs cells slots Z ls r τ hcs hR hl hE hZ)
theorem X_i2l {x : Int32} (hd : decode cc pc = .ok (.i2l, 1)) (k : X wf own cc nL ret d g (pc + 1) L (.long x.toInt64 :: st) σ E) : X wf own cc nL ret d g pc L (.int x :: st) σ E := by
  intro D κ ρ A p l e R s m args below meth c hC H locs cells slots Z ls r τ hcs hR hl hE hZ
  exact lv_i2l hC.1 hC.2.1 hd rfl (k D κ ρ A p l e R s m args below meth c hC H locs cells slots Z ls r τ hcs hR hl hE hZ)
theorem X_l2i {x : Int64} (hd : decode cc pc = .ok (.l2i, 1)) (k : X wf own cc nL ret d g (pc + 1) L (.int x.toInt32 :: st) σ E) : X wf own cc nL ret d g pc L (.long x :: st) σ E := by
  intro D κ ρ A p l e R s m args below meth c hC H locs cells slots Z ls r τ hcs hR hl hE hZ
  exact lv_l2i hC.1 hC.2.1 hd rfl (k D κ ρ A p l e R s m args below meth c hC H locs cells slots Z ls r τ hcs hR hl hE hZ)
theorem X_i2b {x : Int32} (hd : decode cc pc = .ok (.i2b, 1)) (k : X wf own cc nL ret d g (pc + 1) L (.int x.toInt8.toInt32 :: st) σ E) : X wf own cc nL ret d g pc L (.int x :: st) σ E := by
  intro D κ ρ A p l e R s m args below meth c hC H locs cells slots Z ls r τ hcs hR hl hE hZ
  exact lv_i2b hC.1 hC.2.1 hd rfl (k D κ ρ A p l e R s m args below meth c hC H locs cells slots Z ls r τ hcs hR hl hE hZ)
theorem X_i2s {x : Int32} (hd : decode cc pc = .ok (.i2s, 1)) (k : X wf own cc nL ret d g (pc + 1) L (.int x.toInt16.toInt32 :: st) σ E) : X wf own cc nL ret d g pc L (.int x :: st) σ E := by
  intro D κ ρ A p l e R s m args below meth c hC H locs cells slots Z ls r τ hcs hR hl hE hZ
  exact lv_i2s hC.1 hC.2.1 hd rfl (k D κ ρ A p l e R s m args below meth c hC H locs cells slots Z ls r τ hcs hR hl hE hZ)
theorem X_i2c {x : Int32} (hd : decode cc pc = .ok (.i2c, 1)) (k : X wf own cc nL ret d g (pc + 1) L (.int (x.toUInt32 % 65536).toInt32 :: st) σ E) : X wf own cc nL ret d g pc L (.int x :: st) σ E := by
  intro D κ ρ A p l e R s m args below meth c hC H locs cells slots Z ls r τ hcs hR hl hE hZ
  exact lv_i2c hC.1 hC.2.1 hd rfl (k D κ ρ A p l e R s m args below meth c hC H locs cells slots Z ls r τ hcs hR hl hE hZ)
theorem X_lcmp {x y : Int64} (hd : decode cc pc = .ok (.lcmp, 1)) (k : X wf own cc nL ret d g (pc + 1) L (.int (lg_cmp x y) :: st) σ E) : X wf own cc nL ret d g pc L (.long y :: .long x :: st) σ E := by
  intro D κ ρ A p l e R s m args below meth c hC H locs cells slots Z ls r τ hcs hR hl hE hZ
  exact W.lcmp hC.1 hC.2.1 hd (k D κ ρ A p l e R s m args below meth c hC H locs cells slots Z ls r τ hcs hR hl hE hZ)
theorem X_dup {v : Value} (hd : decode cc pc = .ok (.dup, 1)) (hv : v.category = 1) (k : X wf own cc nL ret d g (pc + 1) L (v :: v :: st) σ E) : X wf own cc nL ret d g pc L (v :: st) σ E := by
  intro D κ ρ A p l e R s m args below meth c hC H locs cells slots Z ls r τ hcs hR hl hE hZ
  exact lv_dup hC.1 hC.2.1 hd (by rw [tr_cat]; exact hv) (k D κ ρ A p l e R s m args below meth c hC H locs cells slots Z ls r τ hcs hR hl hE hZ)
theorem X_pop {v : Value} (hd : decode cc pc = .ok (.pop, 1)) (hv : v.category = 1) (k : X wf own cc nL ret d g (pc + 1) L st σ E) : X wf own cc nL ret d g pc L (v :: st) σ E := by
  intro D κ ρ A p l e R s m args below meth c hC H locs cells slots Z ls r τ hcs hR hl hE hZ
  exact lv_pop hC.1 hC.2.1 hd (by rw [tr_cat]; exact hv) (k D κ ρ A p l e R s m args below meth c hC H locs cells slots Z ls r τ hcs hR hl hE hZ)
theorem X_dup2 {v w : Value} (hd : decode cc pc = .ok (.dup2, 1)) (hv : v.category = 1) (hw : w.category = 1) (k : X wf own cc nL ret d g (pc + 1) L (v :: w :: v :: w :: st) σ E) : X wf own cc nL ret d g pc L (v :: w :: st) σ E := by
  intro D κ ρ A p l e R s m args below meth c hC H locs cells slots Z ls r τ hcs hR hl hE hZ
  exact lv_dup2_11 hC.1 hC.2.1 hd (by rw [tr_cat]; exact hv) (by rw [tr_cat]; exact hw) (k D κ ρ A p l e R s m args below meth c hC H locs cells slots Z ls r τ hcs hR hl hE hZ)
theorem X_goto {off : Int} {tgt : Nat} (hd : decode cc pc = .ok (.goto off, 3)) (ht : (pc : Int) + off = (tgt : Int)) (k : X wf own cc nL ret d g tgt L st σ E) : X wf own cc nL ret d g pc L st σ E := by
  intro D κ ρ A p l e R s m args below meth c hC H locs cells slots Z ls r τ hcs hR hl hE hZ
  exact lv_goto hC.1 hC.2.1 hd ht (k D κ ρ A p l e R s m args below meth c hC H locs cells slots Z ls r τ hcs hR hl hE hZ)
theorem X_icmp_eq {x y : Int32} {off : Int} {tgt : Nat} {E1 E2 : Option (Int32 × T)} (hd : decode cc pc = .ok (.if_icmp .eq off, 3)) (ht : (pc : Int) + off = (tgt : Int)) (kt : x = y → X wf own cc nL ret d g tgt L st σ E1) (kf : ¬ x = y → X wf own cc nL ret d g (pc + 3) L st σ E2) : X wf own cc nL ret d g pc L (.int y :: .int x :: st) σ (if x = y then E1 else E2) := by
  intro D κ ρ A p l e R s m args below meth c hC H locs cells slots Z ls r τ hcs hR hl hE hZ
  exact lv_icmp_eq hC.1 hC.2.1 hd ht (fun h => kt h D κ ρ A p l e R s m args below meth c hC H locs cells slots Z ls r τ hcs hR hl (by rw [if_pos h] at hE; exact hE) hZ) (fun h => kf h D κ ρ A p l e R s m args below meth c hC H locs cells slots Z ls r τ hcs hR hl (by rw [if_neg h] at hE; exact hE) hZ)
theorem X_icmp_ne {x y : Int32} {off : Int} {tgt : Nat} {E1 E2 : Option (Int32 × T)} (hd : decode cc pc = .ok (.if_icmp .ne off, 3)) (ht : (pc : Int) + off = (tgt : Int)) (kt : ¬ x = y → X wf own cc nL ret d g tgt L st σ E2) (kf : x = y → X wf own cc nL ret d g (pc + 3) L st σ E1) : X wf own cc nL ret d g pc L (.int y :: .int x :: st) σ (if x = y then E1 else E2) := by
  intro D κ ρ A p l e R s m args below meth c hC H locs cells slots Z ls r τ hcs hR hl hE hZ
  exact lv_icmp_ne hC.1 hC.2.1 hd ht (fun h => kt h D κ ρ A p l e R s m args below meth c hC H locs cells slots Z ls r τ hcs hR hl (by rw [if_neg h] at hE; exact hE) hZ) (fun h => kf h D κ ρ A p l e R s m args below meth c hC H locs cells slots Z ls r τ hcs hR hl (by rw [if_pos h] at hE; exact hE) hZ)
theorem X_icmp_lt {x y : Int32} {off : Int} {tgt : Nat} {E1 E2 : Option (Int32 × T)} (hd : decode cc pc = .ok (.if_icmp .lt off, 3)) (ht : (pc : Int) + off = (tgt : Int)) (kt : x < y → X wf own cc nL ret d g tgt L st σ E1) (kf : ¬ x < y → X wf own cc nL ret d g (pc + 3) L st σ E2) : X wf own cc nL ret d g pc L (.int y :: .int x :: st) σ (if x < y then E1 else E2) := by
  intro D κ ρ A p l e R s m args below meth c hC H locs cells slots Z ls r τ hcs hR hl hE hZ
  exact lv_icmp_lt hC.1 hC.2.1 hd ht (fun h => kt h D κ ρ A p l e R s m args below meth c hC H locs cells slots Z ls r τ hcs hR hl (by rw [if_pos h] at hE; exact hE) hZ) (fun h => kf h D κ ρ A p l e R s m args below meth c hC H locs cells slots Z ls r τ hcs hR hl (by rw [if_neg h] at hE; exact hE) hZ)
theorem X_icmp_ge {x y : Int32} {off : Int} {tgt : Nat} {E1 E2 : Option (Int32 × T)} (hd : decode cc pc = .ok (.if_icmp .ge off, 3)) (ht : (pc : Int) + off = (tgt : Int)) (kt : ¬ x < y → X wf own cc nL ret d g tgt L st σ E2) (kf : x < y → X wf own cc nL ret d g (pc + 3) L st σ E1) : X wf own cc nL ret d g pc L (.int y :: .int x :: st) σ (if x < y then E1 else E2) := by
  intro D κ ρ A p l e R s m args below meth c hC H locs cells slots Z ls r τ hcs hR hl hE hZ
  exact lv_icmp_ge hC.1 hC.2.1 hd ht (fun h => kt (Int32.not_lt.mpr h) D κ ρ A p l e R s m args below meth c hC H locs cells slots Z ls r τ hcs hR hl (by rw [if_neg (Int32.not_lt.mpr h)] at hE; exact hE) hZ) (fun h => kf (Decidable.of_not_not (fun q => h (Int32.not_lt.mp q))) D κ ρ A p l e R s m args below meth c hC H locs cells slots Z ls r τ hcs hR hl (by rw [if_pos (Decidable.of_not_not (fun q => h (Int32.not_lt.mp q)))] at hE; exact hE) hZ)
theorem X_icmp_gt {x y : Int32} {off : Int} {tgt : Nat} {E1 E2 : Option (Int32 × T)} (hd : decode cc pc = .ok (.if_icmp .gt off, 3)) (ht : (pc : Int) + off = (tgt : Int)) (kt : y < x → X wf own cc nL ret d g tgt L st σ E1) (kf : ¬ y < x → X wf own cc nL ret d g (pc + 3) L st σ E2) : X wf own cc nL ret d g pc L (.int y :: .int x :: st) σ (if y < x then E1 else E2) := by
  intro D κ ρ A p l e R s m args below meth c hC H locs cells slots Z ls r τ hcs hR hl hE hZ
  exact lv_icmp_gt hC.1 hC.2.1 hd ht (fun h => kt h D κ ρ A p l e R s m args below meth c hC H locs cells slots Z ls r τ hcs hR hl (by rw [if_pos h] at hE; exact hE) hZ) (fun h => kf h D κ ρ A p l e R s m args below meth c hC H locs cells slots Z ls r τ hcs hR hl (by rw [if_neg h] at hE; exact hE) hZ)
theorem X_icmp_le {x y : Int32} {off : Int} {tgt : Nat} {E1 E2 : Option (Int32 × T)} (hd : decode cc pc = .ok (.if_icmp .le off, 3)) (ht : (pc : Int) + off = (tgt : Int)) (kt : ¬ y < x → X wf own cc nL ret d g tgt L st σ E2) (kf : y < x → X wf own cc nL ret d g (pc + 3) L st σ E1) : X wf own cc nL ret d g pc L (.int y :: .int x :: st) σ (if y < x then E1 else E2) := by
  intro D κ ρ A p l e R s m args below meth c hC H locs cells slots Z ls r τ hcs hR hl hE hZ
  exact lv_icmp_le hC.1 hC.2.1 hd ht (fun h => kt (Int32.not_lt.mpr h) D κ ρ A p l e R s m args below meth c hC H locs cells slots Z ls r τ hcs hR hl (by rw [if_neg (Int32.not_lt.mpr h)] at hE; exact hE) hZ) (fun h => kf (Decidable.of_not_not (fun q => h (Int32.not_lt.mp q))) D κ ρ A p l e R s m args below meth c hC H locs cells slots Z ls r τ hcs hR hl (by rw [if_pos (Decidable.of_not_not (fun q => h (Int32.not_lt.mp q)))] at hE; exact hE) hZ)
theorem X_if_eq {x : Int32} {off : Int} {tgt : Nat} {E1 E2 : Option (Int32 × T)} (hd : decode cc pc = .ok (.ifCond .eq off, 3)) (ht : (pc : Int) + off = (tgt : Int)) (kt : x = 0 → X wf own cc nL ret d g tgt L st σ E1) (kf : ¬ x = 0 → X wf own cc nL ret d g (pc + 3) L st σ E2) : X wf own cc nL ret d g pc L (.int x :: st) σ (if x = 0 then E1 else E2) := by
  intro D κ ρ A p l e R s m args below meth c hC H locs cells slots Z ls r τ hcs hR hl hE hZ
  exact lv_if_eq hC.1 hC.2.1 hd ht (fun h => kt h D κ ρ A p l e R s m args below meth c hC H locs cells slots Z ls r τ hcs hR hl (by rw [if_pos h] at hE; exact hE) hZ) (fun h => kf h D κ ρ A p l e R s m args below meth c hC H locs cells slots Z ls r τ hcs hR hl (by rw [if_neg h] at hE; exact hE) hZ)
theorem X_if_ne {x : Int32} {off : Int} {tgt : Nat} {E1 E2 : Option (Int32 × T)} (hd : decode cc pc = .ok (.ifCond .ne off, 3)) (ht : (pc : Int) + off = (tgt : Int)) (kt : ¬ x = 0 → X wf own cc nL ret d g tgt L st σ E2) (kf : x = 0 → X wf own cc nL ret d g (pc + 3) L st σ E1) : X wf own cc nL ret d g pc L (.int x :: st) σ (if x = 0 then E1 else E2) := by
  intro D κ ρ A p l e R s m args below meth c hC H locs cells slots Z ls r τ hcs hR hl hE hZ
  exact lv_if_ne hC.1 hC.2.1 hd ht (fun h => kt h D κ ρ A p l e R s m args below meth c hC H locs cells slots Z ls r τ hcs hR hl (by rw [if_neg h] at hE; exact hE) hZ) (fun h => kf h D κ ρ A p l e R s m args below meth c hC H locs cells slots Z ls r τ hcs hR hl (by rw [if_pos h] at hE; exact hE) hZ)
theorem X_if_lt {x : Int32} {off : Int} {tgt : Nat} {E1 E2 : Option (Int32 × T)} (hd : decode cc pc = .ok (.ifCond .lt off, 3)) (ht : (pc : Int) + off = (tgt : Int)) (kt : x < 0 → X wf own cc nL ret d g tgt L st σ E1) (kf : ¬ x < 0 → X wf own cc nL ret d g (pc + 3) L st σ E2) : X wf own cc nL ret d g pc L (.int x :: st) σ (if x < 0 then E1 else E2) := by
  intro D κ ρ A p l e R s m args below meth c hC H locs cells slots Z ls r τ hcs hR hl hE hZ
  exact lv_if_lt hC.1 hC.2.1 hd ht (fun h => kt h D κ ρ A p l e R s m args below meth c hC H locs cells slots Z ls r τ hcs hR hl (by rw [if_pos h] at hE; exact hE) hZ) (fun h => kf h D κ ρ A p l e R s m args below meth c hC H locs cells slots Z ls r τ hcs hR hl (by rw [if_neg h] at hE; exact hE) hZ)
theorem X_if_ge {x : Int32} {off : Int} {tgt : Nat} {E1 E2 : Option (Int32 × T)} (hd : decode cc pc = .ok (.ifCond .ge off, 3)) (ht : (pc : Int) + off = (tgt : Int)) (kt : ¬ x < 0 → X wf own cc nL ret d g tgt L st σ E2) (kf : x < 0 → X wf own cc nL ret d g (pc + 3) L st σ E1) : X wf own cc nL ret d g pc L (.int x :: st) σ (if x < 0 then E1 else E2) := by
  intro D κ ρ A p l e R s m args below meth c hC H locs cells slots Z ls r τ hcs hR hl hE hZ
  exact lv_if_ge hC.1 hC.2.1 hd ht (fun h => kt (Int32.not_lt.mpr h) D κ ρ A p l e R s m args below meth c hC H locs cells slots Z ls r τ hcs hR hl (by rw [if_neg (Int32.not_lt.mpr h)] at hE; exact hE) hZ) (fun h => kf (Decidable.of_not_not (fun q => h (Int32.not_lt.mp q))) D κ ρ A p l e R s m args below meth c hC H locs cells slots Z ls r τ hcs hR hl (by rw [if_pos (Decidable.of_not_not (fun q => h (Int32.not_lt.mp q)))] at hE; exact hE) hZ)
theorem X_if_gt {x : Int32} {off : Int} {tgt : Nat} {E1 E2 : Option (Int32 × T)} (hd : decode cc pc = .ok (.ifCond .gt off, 3)) (ht : (pc : Int) + off = (tgt : Int)) (kt : 0 < x → X wf own cc nL ret d g tgt L st σ E1) (kf : ¬ 0 < x → X wf own cc nL ret d g (pc + 3) L st σ E2) : X wf own cc nL ret d g pc L (.int x :: st) σ (if 0 < x then E1 else E2) := by
  intro D κ ρ A p l e R s m args below meth c hC H locs cells slots Z ls r τ hcs hR hl hE hZ
  exact lv_if_gt hC.1 hC.2.1 hd ht (fun h => kt h D κ ρ A p l e R s m args below meth c hC H locs cells slots Z ls r τ hcs hR hl (by rw [if_pos h] at hE; exact hE) hZ) (fun h => kf h D κ ρ A p l e R s m args below meth c hC H locs cells slots Z ls r τ hcs hR hl (by rw [if_neg h] at hE; exact hE) hZ)
theorem X_if_le {x : Int32} {off : Int} {tgt : Nat} {E1 E2 : Option (Int32 × T)} (hd : decode cc pc = .ok (.ifCond .le off, 3)) (ht : (pc : Int) + off = (tgt : Int)) (kt : ¬ 0 < x → X wf own cc nL ret d g tgt L st σ E2) (kf : 0 < x → X wf own cc nL ret d g (pc + 3) L st σ E1) : X wf own cc nL ret d g pc L (.int x :: st) σ (if 0 < x then E1 else E2) := by
  intro D κ ρ A p l e R s m args below meth c hC H locs cells slots Z ls r τ hcs hR hl hE hZ
  exact lv_if_le hC.1 hC.2.1 hd ht (fun h => kt (Int32.not_lt.mpr h) D κ ρ A p l e R s m args below meth c hC H locs cells slots Z ls r τ hcs hR hl (by rw [if_neg (Int32.not_lt.mpr h)] at hE; exact hE) hZ) (fun h => kf (Decidable.of_not_not (fun q => h (Int32.not_lt.mp q))) D κ ρ A p l e R s m args below meth c hC H locs cells slots Z ls r τ hcs hR hl (by rw [if_pos (Decidable.of_not_not (fun q => h (Int32.not_lt.mp q)))] at hE; exact hE) hZ)
theorem X_ifnull {x : Nat} {off : Int} (hd : decode cc pc = .ok (.ifnull off, 3)) (k : X wf own cc nL ret d g (pc + 3) L st σ E) : X wf own cc nL ret d g pc L (.ref x :: st) σ E := by
  intro D κ ρ A p l e R s m args below meth c hC H locs cells slots Z ls r τ hcs hR hl hE hZ
  exact lv_ifnull hC.1 hC.2.1 hd (k D κ ρ A p l e R s m args below meth c hC H locs cells slots Z ls r τ hcs hR hl hE hZ)
theorem X_ifnonnull {x : Nat} {off : Int} {tgt : Nat} (hd : decode cc pc = .ok (.ifnonnull off, 3)) (ht : (pc : Int) + off = (tgt : Int)) (k : X wf own cc nL ret d g tgt L st σ E) : X wf own cc nL ret d g pc L (.ref x :: st) σ E := by
  intro D κ ρ A p l e R s m args below meth c hC H locs cells slots Z ls r τ hcs hR hl hE hZ
  exact lv_ifnonnull hC.1 hC.2.1 hd ht (k D κ ρ A p l e R s m args below meth c hC H locs cells slots Z ls r τ hcs hR hl hE hZ)
theorem X_ret {v : Int32} {ty : FieldType} (hd : decode cc pc = .ok (.ireturn, 1)) (hn : narrow ty (.int v) = .int v) (hg : g % 2 = 0 := by rfl) : X wf own cc nL (some ty) d g pc L [.int v] σ (some (v, σ)) := by
  intro D κ ρ A p l e R s m args below meth c hC H locs cells slots Z ls r τ hcs hR hl hE hZ
  cases hE
  have h := hZ H locs cells slots pc ls ⟨by omega, by omega⟩ hR
  simp only [hg] at h
  exact h hn hd
theorem X_retv (hd : decode cc pc = .ok (.return_, 1)) (hg : g % 2 = 0 := by rfl) : X wf own cc nL none d g pc L [] σ (some (0, σ)) := by
  intro D κ ρ A p l e R s m args below meth c hC H locs cells slots Z ls r τ hcs hR hl hE hZ
  cases hE
  have h := hZ H locs cells slots pc ls ⟨by omega, by omega⟩ hR
  simp only [hg] at h
  exact h hd
theorem X_thr {ik : Nat} {r0 : Int32} (hd : decode cc pc = .ok (.new ik, 3)) (hr : r0 = nI pc) (hp : pc < 1000000 := by decide) (hg : g % 2 = 1 := by rfl) : X wf own cc nL ret d g pc L [] σ (some (r0, σ)) := by
  intro D κ ρ A p l e R s m args below meth c hC H locs cells slots Z ls r τ hcs hR hl hE hZ
  cases hE
  have h := hZ H locs cells slots pc ls ⟨by omega, by omega⟩ hR
  simp only [hg] at h
  exact h ⟨by omega, by omega⟩ hl.1 hr hp ⟨ik, hd⟩
theorem X_mmax {x y : Int32} {index : Nat} (hd : decode cc pc = .ok (.invokestatic index, 3)) (hlink : Cond.methodLink own index Lib.Math.max.name ∈ GT) (h1 : 1 ≤ d) (hs : (st.map fun v => v.category).sum ≤ 8) (k : X wf own cc nL ret d g (pc + 3) L (.int (if x < y then y else x) :: st) σ E) : X wf own cc nL ret d g pc L (.int y :: .int x :: st) σ E := by
  intro D κ ρ A p l e R s m args below meth c hC H locs cells slots Z ls r τ hcs hR hl hE hZ
  obtain ⟨hx, hb, -, hml, hown, hts, -, hfr, hlo, -, -, -⟩ := id hC
  exact va_mmax hx hb (by rw [hml, hl.1]) hown (hts _ hlink) (hts _ mw_max_1) (hts _ mw_0) (hts _ mw_max_2) (by omega) (by have := tr_sum ρ st; rw [this]; omega) (by omega) (by omega) hd (k D κ ρ A p l e R s m args below meth c hC H locs cells slots Z ls r τ hcs hR hl hE hZ)
theorem X_mmin {x y : Int32} {index : Nat} (hd : decode cc pc = .ok (.invokestatic index, 3)) (hlink : Cond.methodLink own index Lib.Math.min.name ∈ GT) (h1 : 1 ≤ d) (hs : (st.map fun v => v.category).sum ≤ 8) (k : X wf own cc nL ret d g (pc + 3) L (.int (if y < x then y else x) :: st) σ E) : X wf own cc nL ret d g pc L (.int y :: .int x :: st) σ E := by
  intro D κ ρ A p l e R s m args below meth c hC H locs cells slots Z ls r τ hcs hR hl hE hZ
  obtain ⟨hx, hb, -, hml, hown, hts, -, hfr, hlo, -, -, -⟩ := id hC
  exact va_mmin hx hb (by rw [hml, hl.1]) hown (hts _ hlink) (hts _ mw_min_1) (hts _ mw_0) (hts _ mw_min_2) (by omega) (by have := tr_sum ρ st; rw [this]; omega) (by omega) (by omega) hd (k D κ ρ A p l e R s m args below meth c hC H locs cells slots Z ls r τ hcs hR hl hE hZ)
end XR
