/-! share and rests, where they throw -/
def rmT : Room := { frames := 10, cells := 1, slots := 16, locals := 480 }
section NLU
variable {p : Program} {l : Launch} {e : Env} {R : Room} {s : State} {m : MethodId} {args : Array Value} {below : List Frame} {meth : Method} {c : Code} {H : Heap} {locs : List Loc} {cells slots : Nat}
variable {Qc : Array Value → State → Outcome → State → Prop} {XC : String → State → State → Prop} {mc ms : Nat} {free : Addr → Prop}
set_option maxHeartbeats 4000000 in
theorem nl_throw {cc : ByteArray} {pc is sa : Nat} {text : String} {A : Nat → Prop} {ls : Array Slot} (hexec : p.tables.exec = Jvm.exec) (hb : c.code = cc) (hl : l.stackTraces = false) (hown : s.vm.findClass RX11 = some m.cls)
    (hG : ∀ w ∈ GT, w.before args s = true) (hNW : NW s) (hstr : vk_R RX11 is text sa s) (hU : vx_Zq Bundle.tN "UNASSIGNED_STACK" Bundle.steD A s s.heap) (hN : vx_Zq Bundle.tN "SUPPRESSED_SENTINEL" Bundle.listD A s s.heap) (hS : va_S A s.heap H locs) (hsize : ls.size = c.maxLocals)
    (d0 : decode cc pc = .ok (.new 256, 3)) (d3 : decode cc (pc + 3) = .ok (.dup, 1)) (d4 : decode cc (pc + 4) = .ok (.ldc_w is, 3)) (d7 : decode cc (pc + 7) = .ok (.invokespecial 260, 3)) (d10 : decode cc (pc + 10) = .ok (.athrow, 1))
    (hout : ∀ x ∈ c.exceptionTable.toList, covers x (pc + 10) = false) (hRf : 5 < R.frames) (hRl : 82 ≤ R.locals) (hRc : cells + 1 ≤ R.cells) (hRs : slots + 6 ≤ R.slots) (hlocks : meth.locks = false)
    (hx : ∀ t : State, s.vm.Alike t.vm → H.size ≤ t.heap.size → (∀ q : Nat, q < H.size → t.heap[q]? = H[q]?) → XC nl_NS s t) (hf : ∀ z ∈ locs, free z.base) (hc : cells + 1 ≤ mc) (hs : slots + 6 ≤ ms) :
    W p l e R s m args below meth c H locs cells slots (vx_MQ below Qc XC args s mc ms free) (F0 m pc ls []) := by
  intro T hT X
  have htr : e.platform.stackTraces = false := (show e.platform.stackTraces = l.stackTraces by rw [X.admits.platform]).trans hl
  have Y := vx_rebase X (R' := { frames := R.frames, locals := R.locals, cells := 1, slots := 6 }) (Nat.le_refl _) (Nat.le_refl _) hRc hRs
  obtain ⟨s', hA⟩ : ∃ z, z = (T.setVm s.vm).setFrames (.invoking m args :: below) := ⟨_, rfl⟩
  rw [← hA] at Y
  have hvm : s'.vm = s.vm := by rw [hA]; rfl
  have hhp : s'.heap = H := by rw [hA]; exact hT
  have hW0 : s.WarmedH s'.vm := by rw [hvm]; exact State.WarmedH.refl s
  have at0 := nl_at_b (args := args) hG hNW
  have atq : ∀ w ∈ nl_at, w.before args s' = true := fun w hw => vx_ot_at hW0 hvm.symm (nl_at_ot w hw) (at0 w hw)
  have k1 : (Cond.classLink RX11 256 nl_NS).before args s' = true := vx_ot_at hW0 hvm.symm (by decide) (hG _ nl_k1)
  have k2 : (Cond.initialized nl_NS).before args s' = true := vx_ot_at hW0 hvm.symm (by decide) (hG _ nl_k2)
  have hU' : vx_Zq Bundle.tN "UNASSIGNED_STACK" Bundle.steD A s' s'.heap := by rw [hhp]; exact vx_Zq.moved hW0.alike (hU.kept hS.2.1)
  have hN' : vx_Zq Bundle.tN "SUPPRESSED_SENTINEL" Bundle.listD A s' s'.heap := by rw [hhp]; exact vx_Zq.moved hW0.alike (hN.kept hS.2.1)
  have h : ∀ w ∈ nl_aX, w.before args s' = true := vx_own atq (vx_isRefq hU'.1) (vx_isRefq hN'.1) hU'.2.word hN'.2.word
  have hown' : s'.vm.findClass RX11 = some m.cls := by rw [hvm]; exact hown
  have hins : (Cond.instantiable nl_NS 6).before args s' = true := h _ (by simp [nl_aX, Bundle.ownAtomsX])
  obtain ⟨vm1, cX, kX, hfX, hkX, -, -, X1, st1⟩ := Y.newCold hexec (own := RX11) (C := nl_NS) (index := 256) (n := 6) hown' k1 hins k2 (g := F0 m pc ls []) rfl (by rw [hb]; exact d0) (Nat.le_refl _) (Nat.le_refl _)
  generalize hT1 : (T.setVm vm1).pushCell { cls := cX, slots := kX.instanceTypes.map defaultValue, vm := .none } = T1 at X1 st1
  have hcat : (Value.ref T.heap.size).category = 1 := rfl
  have hcellA : T1.heap[T.heap.size]? = some (freshCell cX kX) := by rw [← hT1]; exact State.heap_pushCell_size _ _
  have d3' : decode c.code (pc + 3) = .ok (.dup, 1) := by rw [hb]; exact d3
  have d4' : decode c.code (pc + 4) = .ok (.ldc_w is, 3) := by rw [hb]; exact d4
  have hstr' : vk_R RX11 is text sa s' := vk_R.warm hW0 hstr
  obtain ⟨U, hsteps, hrun, hend, hW, hsame, ce, hce, hcv, hcl⟩ := nl_ctor X1 hexec htr hown' h (fun x hx => nomatch hx) hfX hkX hcellA (by rw [hhp, hT]; exact Nat.le_refl _) (msg := .ref sa) rfl
    (g := { method := m, pc := pc + 7, locals := ls, stack := [.ref sa, .ref T.heap.size, .ref T.heap.size], locked := none }) rfl hsize rfl rfl (rest := []) rfl
    (by rw [hb]; exact d7) (by rw [hb]; exact d10) hout hRf (by simp only [List.map_cons, List.map_nil, List.sum_cons, List.sum_nil, hcat]; show 2 * 0 + (1 + 0) + 81 ≤ R.locals; omega) hlocks
  obtain ⟨f1, f2⟩ := vx_frame hsame
  rw [hhp] at f1 f2
  have hWs : s.WarmedH U.vm := State.WarmedH.trans hW0 hW
  rw [hvm] at hcl
  have hall : s.sameButNew ({ U with vm := s.vm } : State) locs mc ms := by
    subst hA
    obtain ⟨e1, e2⟩ := hsame
    rw [State.setFrames_setFrames] at e1
    have h2 : (T.setVm s.vm).sameButNew ({ U with vm := s.vm } : State) [] (0 + 1) (0 + 6) := ⟨e1, e2⟩
    have h3 := X.same.trans h2
    rw [List.append_nil] at h3
    exact h3.mono hc hs
  refine ⟨U, ?_, .threw T.heap.size, hrun, hend, Or.inr ⟨T.heap.size, rfl, nl_NS, ce, locs, hx U hWs.alike f1 (fun q hq => f2 q hq (fun z hz => nomatch hz)), hce, hcv, hcl, hWs, hall, hf⟩⟩
  refine st1 _ ?_
  show Steps p.tables e below (T1.setTop { method := m, pc := pc + 3, locals := ls, stack := [.ref T.heap.size], locked := none }) _
  jvm_step X1.here [X1.here.top, hexec, d3', Value.category]
  exact X1.ldcStringW hexec (own := RX11) (text := text) (index := is) (a := sa) hown' hstr'.1 hstr'.2
    (g := { method := m, pc := pc + 4, locals := ls, stack := [.ref T.heap.size, .ref T.heap.size], locked := none }) rfl d4' _ hsteps
end NLU
/-- a contract: with arguments av and memory σ the method throws, the memory as τ tells -/
def ConT (y : MethodName) (cc : ByteArray) (nL : Nat) (av : List Value) (σ τ : Mm) : Prop :=
  ∀ (l : Launch) (D : va_G) (κ : FieldType → ClassId) (ρ : Nat → Nat) (sz : Nat), l.stackTraces = false → vx_Met l y (Cond.code y cc nL (some .int) :: GT) rmT (va_Pc (av.map (tr ρ)) (fun U => U.heap.size = sz ∧ va_P D vwCl (wsOf SHC κ ρ σ) U.heap ∧ va_K D vwCl (tysOf κ) U ∧ va_D (fun _ => True) (wsOf SHC κ ρ σ) ∧ EN ρ (va_A (wsOf SHC κ ρ σ) sz) U U.heap ∧ NW U)) (va_Qi (fun (_ : Int32) (_ : Mm) => False) (fun _ _ => False) (va_A (wsOf SHC κ ρ σ) sz)) (vx_X (fun u : Mm => u = τ) (fun E u t => E = nl_NS ∧ va_P D vwCl (wsOf SHC κ ρ u) t.heap ∧ va_D (va_A (wsOf SHC κ ρ σ) sz) (wsOf SHC κ ρ u)) (va_A (wsOf SHC κ ρ σ) sz)) 1 16 (va_A (wsOf SHC κ ρ σ) sz)
theorem va_at_lt {D : va_G} {cl : List vw_C} {q : Nat × va_E} {H : Heap} (h : va_at D cl q H) : q.1 < H.size := by
  obtain ⟨a, e⟩ := q
  cases e with
  | inl x => exact (Array.getElem?_eq_some_iff.mp h).1
  | inr o =>
    obtain ⟨r, -, cell, h2, -⟩ := h
    exact (Array.getElem?_eq_some_iff.mp h2).1
theorem ConT.of_XT {y : MethodName} {cc : ByteArray} {nL d : Nat} {av : List Value} {σ τ : Mm} {r : Int32} (hy : plainName y.cls = true) (hyc : y.cls = RX11) (hlen : (lg_sl av).length ≤ nL) (hd : d ≤ 10) (hX : X (wsOf SHC) RX11 cc nL (some .int) d 1 0 (lv_args 0 av) [] σ (some (r, τ)))
    (hT : ∀ pc, r = nI pc → pc < 1000000 → ∃ is text, decode cc pc = .ok (.new 256, 3) ∧ decode cc (pc + 3) = .ok (.dup, 1) ∧ decode cc (pc + 4) = .ok (.ldc_w is, 3) ∧ decode cc (pc + 7) = .ok (.invokespecial 260, 3) ∧ decode cc (pc + 10) = .ok (.athrow, 1) ∧ ∀ ρ A U H, EN ρ A U H → ∃ a, vk_R RX11 is text a U) : ConT y cc nL av σ τ := by
  intro l D κ ρ sz hl
  refine vx_ofW (cc := cc) (maxL := nL) (ret := some .int) hy rfl ?_
  intro p e s m args below meth c s₁ B hml htab hv
  obtain ⟨rfl, hsz, hP, hK, hD0, hEN, hNW⟩ := hv
  subst hsz
  have hts := atoms_spec (ws := Cond.code y cc nL (some .int) :: GT) B.pre
  have hown : s.vm.findClass y.cls = some m.cls := findClass_of_methodNamed B.named
  rw [hyc] at hown
  have hlocks := B.notSynchronized
  have hD := hD0.self (sz := s.heap.size)
  have hln := lv_entry (av.map (tr ρ)) (n := nL) (by rw [tr_sl]; exact hlen)
  rw [lg_entry_eq]
  rw [tr_args] at hln
  have hA : ∀ q : Nat, s.heap.size ≤ q → va_A (wsOf SHC κ ρ σ) s.heap.size q := fun q h => Or.inr h
  have hG : ∀ w ∈ GT, w.before (av.map (tr ρ)).toArray s = true := fun w hw => hts w (List.mem_cons_of_mem _ hw)
  refine hX D κ ρ (va_A (wsOf SHC κ ρ σ) s.heap.size) p l e rmT s m _ below meth c ⟨B.exec, B.bytes, B.returns, hml, hown, hG, hlocks, by show d ≤ 10; omega, by show 48 * d ≤ 480; omega, hK, hA, hEN⟩ s.heap [] 0 0 _ _ r τ ⟨by decide, by decide⟩ ⟨hP, hD, va_S.rf⟩ hln rfl ?_
  intro H locs cells slots pc ls hcs hR hcs2 hsize hr hpc hnew
  obtain ⟨is, text, d0, d3, d4, d7, d10, htx⟩ := hT pc hr hpc
  obtain ⟨sa, hsa⟩ := htx _ _ _ _ hEN
  obtain ⟨-, -, -, -, -, -, -, hU, hN, -⟩ := id hEN
  refine nl_throw B.exec B.bytes hl hown hG hNW hsa hU hN hR.2.2 (hsize.trans hml.symm) d0 d3 d4 d7 d10 (fun x hx => (htab x hx).elim) (by decide) (by decide) hcs2.1 hcs2.2 hlocks (fun t ht hz hq => ?_) hR.2.2.2.2 hcs2.1 (Nat.le_trans hcs2.2 (Nat.le_refl _))
  refine ⟨τ, rfl, ⟨rfl, hR.1.kept (fun k q hk => hq q.1 (va_at_lt (hR.1 k q hk))), hR.2.1⟩, Nat.le_trans hR.2.2.1 hz, fun q h1 h2 => (hq q (Nat.lt_of_lt_of_le h1 hR.2.2.1)).trans (hR.2.2.2.1 q h1 h2)⟩
theorem t_share {p1 : Int32} {σ τ : Mm} (h : fT_X11_share p1 σ = some (11, τ)) : ConT yX11_share cX11_share 2 [.ref 0, .int p1] σ τ := by
  have hx := xT_X11_share p1 σ
  rw [h] at hx
  refine ConT.of_XT (d := 7) (r := 11) (by decide +kernel) rfl (Nat.le_of_ble_eq_true rfl) (by omega) hx (fun pc hr hpc => ?_)
  have e : pc = 11 := ((nI_eq (a := 11) (b := pc) (by omega) (by omega)).mp hr).symm
  subst e
  exact ⟨258, "no such walker", by decide +kernel, by decide +kernel, by decide +kernel, by decide +kernel, by decide +kernel, fun ρ A U H hE => hE.2.2.2.2.1⟩
theorem t_rests {a b c d r : Int32} {σ τ : Mm} (h : fT_X11_rests a b c d σ = some (r, τ)) (hr : r = 27 ∨ r = 86) : ConT yX11_rests cX11_rests 7 [.ref 0, .int a, .int b, .int c, .int d] σ τ := by
  have hx := xT_X11_rests a b c d σ
  rw [h] at hx
  refine ConT.of_XT (d := 3) (r := r) (by decide +kernel) rfl (Nat.le_of_ble_eq_true rfl) (by omega) hx (fun pc hp hpc => ?_)
  rcases hr with rfl | rfl
  · have e : pc = 27 := ((nI_eq (a := 27) (b := pc) (by omega) (by omega)).mp hp).symm
    subst e
    exact ⟨269, "no such door", by decide +kernel, by decide +kernel, by decide +kernel, by decide +kernel, by decide +kernel, fun ρ A U H hE => hE.2.2.2.2.2.1⟩
  · have e : pc = 86 := ((nI_eq (a := 86) (b := pc) (by omega) (by omega)).mp hp).symm
    subst e
    exact ⟨275, "no such rest", by decide +kernel, by decide +kernel, by decide +kernel, by decide +kernel, by decide +kernel, fun ρ A U H hE => hE.2.2.2.2.2.2.1⟩
