def irm (x y : Int32) : Int32 := x - x / y * y
def lrm (x y : Int64) : Int64 := x - x / y * y
def imx (x y : Int32) : Int32 := if x < y then y else x
def imn (x y : Int32) : Int32 := if y < x then y else x
def nightAt (j : Nat) : Nat := 15 + 7 * j
def markAt (j : Nat) : Nat := 132 + 16 * j
def fitB (σ : Mm) (a n : Nat) : Bool := (List.range n).all (fun j => fits .byte (.int (σ.1 a j)))
theorem fitB_at {σ : Mm} {a n m : Nat} (h : fitB σ a n = true) (i : Nat) (hi : i < m) (e : m = n := by rfl) : fits .byte (.int (σ.1 a ((0 : Int32).toNatClampNeg + i))) = true := by
  subst e
  have := List.all_eq_true.mp h i (List.mem_range.mpr hi)
  rw [show (0 : Int32).toNatClampNeg + i = i from Nat.zero_add i]
  exact this
/-- the place of a sign in ()<=+-*; -/
def sgIx (x : Int32) : Int32 := if x = 40 then 0 else if x = 41 then 1 else if x = 60 then 2 else if x = 61 then 3 else if x = 43 then 4 else if x = 45 then 5 else if x = 42 then 6 else if x = 59 then 7 else -1
section XE
variable {T : Type} {wf : (FieldType → ClassId) → (Nat → Nat) → T → va_W} {own : String} {cc : ByteArray} {nL : Nat} {ret : Option FieldType} {d g : Nat} {pc : Nat} {L : List (Nat × Value)} {st : List Value} {σ : T} {E : Option (Int32 × T)}
theorem X_irem2 {x y : Int32} (hd : decode cc pc = .ok (.irem, 1)) (hne : ¬ y = 0) (k : X wf own cc nL ret d g (pc + 1) L (.int (irm x y) :: st) σ E) : X wf own cc nL ret d g pc L (.int y :: .int x :: st) σ E := X_irem hd hne k
theorem X_lrem2 {x y : Int64} (hd : decode cc pc = .ok (.lrem, 1)) (hne : ¬ y = 0) (k : X wf own cc nL ret d g (pc + 1) L (.long (lrm x y) :: st) σ E) : X wf own cc nL ret d g pc L (.long y :: .long x :: st) σ E := X_lrem hd hne k
theorem X_mmax2 {x y : Int32} {index : Nat} (hd : decode cc pc = .ok (.invokestatic index, 3)) (hlink : Cond.methodLink own index Lib.Math.max.name ∈ GT) (h1 : 1 ≤ d) (hs : (st.map fun v => v.category).sum ≤ 8) (k : X wf own cc nL ret d g (pc + 3) L (.int (imx x y) :: st) σ E) : X wf own cc nL ret d g pc L (.int y :: .int x :: st) σ E := X_mmax hd hlink h1 hs k
theorem X_mmin2 {x y : Int32} {index : Nat} (hd : decode cc pc = .ok (.invokestatic index, 3)) (hlink : Cond.methodLink own index Lib.Math.min.name ∈ GT) (h1 : 1 ≤ d) (hs : (st.map fun v => v.category).sum ≤ 8) (k : X wf own cc nL ret d g (pc + 3) L (.int (imn x y) :: st) σ E) : X wf own cc nL ret d g pc L (.int y :: .int x :: st) σ E := X_mmin hd hlink h1 hs k
end XE
theorem lm_X0_152 : Cond.methodLink RX0 152 Lib.Math.max.name ∈ GT := gt_5 (List.mem_of_getElem? (i := 69) rfl) rfl
theorem lm_X10_24 : Cond.methodLink RX10 24 Lib.Math.max.name ∈ GT := gt_5 (List.mem_of_getElem? (i := 68) rfl) rfl
theorem lm_X12_365 : Cond.methodLink RX12 365 Lib.Math.min.name ∈ GT := gt_6 (List.mem_of_getElem? (i := 6) rfl) rfl
theorem lm_X12_405 : Cond.methodLink RX12 405 Lib.Math.max.name ∈ GT := gt_7 (List.mem_of_getElem? (i := 213) rfl) rfl
theorem lm_X1_23 : Cond.methodLink RX1 23 Lib.Math.min.name ∈ GT := gt_4 (List.mem_of_getElem? (i := 91) rfl) rfl
theorem lm_X1_33 : Cond.methodLink RX1 33 Lib.Math.max.name ∈ GT := gt_4 (List.mem_of_getElem? (i := 95) rfl) rfl
theorem lm_X2_23 : Cond.methodLink RX2 23 arraycopyName ∈ GT := gt_5 (List.mem_of_getElem? (i := 128) rfl) rfl
theorem lm_X4_121 : Cond.methodLink RX4 121 Lib.Math.max.name ∈ GT := gt_4 (List.mem_of_getElem? (i := 120) rfl) rfl
theorem lm_X4_54 : Cond.methodLink RX4 54 arraycopyName ∈ GT := gt_4 (List.mem_of_getElem? (i := 69) rfl) rfl
theorem lm_X5_27 : Cond.methodLink RX5 27 Lib.Math.min.name ∈ GT := gt_4 (List.mem_of_getElem? (i := 72) rfl) rfl
theorem sC_6 : SHC[6]? = some (.inr (4, fdNight 6)) := rfl
theorem sC_7 : SHC[7]? = some (.inl (.int, 8, z0)) := rfl
theorem sC_9 : SHC[9]? = some (.inl (.int, 6, z0)) := rfl
theorem sC_10 : SHC[10]? = some (.inl (.int, 6, z0)) := rfl
theorem sC_127 : SHC[127]? = some (.inr (10, fdWatched 127)) := rfl
theorem sC_197 : SHC[197]? = some (.inr (4, fdNight 197)) := rfl
theorem sC_198 : SHC[198]? = some (.inl (.int, 8, z0)) := rfl
theorem sC_201 : SHC[201]? = some (.inl (.int, 6, z0)) := rfl
