/-! the law makes: a maker's call from any body -/
theorem W_call {own : String} {cc cc' : ByteArray} {nL nL' d d' mc ms ci n index q : Nat} {D : va_G} {κ : FieldType → ClassId} {ρ : Nat → Nat} {G' : va_W → Prop} {pc : Nat} {lv : List (Nat × Value)} {st stk As : List Value} {w : va_W} {fs0 : List Value} {y : MethodName} {A : Nat → Prop} {p : Program} {l : Launch} {e : Env} {R : Room} {s : State} {m : MethodId} {args : Array Value} {below : List Frame} {meth : Method} {c : Code} {H : Heap} {locs : List Loc} {cells slots : Nat} {Z : State → Prop} {ls : Array Slot}
    (hx : p.tables.exec = Jvm.exec) (hb : c.code = cc) (hml : c.maxLocals = nL) (hown : s.vm.findClass own = some m.cls) (hts : ∀ w ∈ GT, w.before args s = true) (hfr : d ≤ R.frames) (hlo : 48 * d ≤ R.locals) (hK : va_K D vwCl (tysOf κ) s) (hA : ∀ q, s.heap.size ≤ q → A q) (hEN : EN ρ A s s.heap) (hNE : NE s)
    (hcon : NCon y cc' nL' d' mc ms ci fs0 D κ ρ q As G') (hlink : Cond.methodLink own index y ∈ GT) (h2 : Cond.instanceMethod y ∈ GT) (h3 : Cond.code y cc' nL' none ∈ GT) (h4 : Cond.initialized y.cls ∈ GT) (h5 : y.cls ≠ "java/lang/invoke/MethodHandle" ∧ y.cls ≠ "java/lang/invoke/VarHandle" ∧ (parseMethodDescriptor y.desc).map (fun d => d.parameters.length) = some n) (hnm : y.name = "<init>") (hdd : d' + 1 ≤ d) (hnL : 19 + nL' ≤ 48) (hn : As.length = n) (hst : stk = As.reverse ++ .ref q :: st) (hsum : (st.map fun v => v.category).sum ≤ 8) (hd : decode cc pc = .ok (.invokespecial index, 3))
    (hc : cells + mc ≤ R.cells) (hs : slots + ms ≤ R.slots) (hw : va_P D vwCl (w ++ [(q, .inr (ci, fs0))]) H ∧ va_D A (w ++ [(q, .inr (ci, fs0))]) ∧ va_S A s.heap H locs) (hl : lv_has ls nL lv)
    (k : ∀ w1 H1 locs1, G' w1 → va_P D vwCl (w ++ w1) H1 ∧ va_D A (w ++ w1) ∧ va_S A s.heap H1 locs1 → W p l e R s m args below meth c H1 locs1 (cells + mc) (slots + ms) Z (F0 m (pc + 3) ls st)) :
    W p l e R s m args below meth c H locs cells slots Z (F0 m pc ls stk) := by
  obtain ⟨hP, hD, hS⟩ := id hw
  have hPc : va_P D vwCl [(q, (.inr (ci, fs0) : va_E))] H := fun i x hx => hP (w.length + i) x (by rw [List.getElem?_append_right (by omega), Nat.add_sub_cancel_left]; exact hx)
  have hFc : ∀ x, va_A [(q, (.inr (ci, fs0) : va_E))] H.size x → A x := fun x h => by
    rcases h with ⟨i, e9, hi⟩ | h
    · exact hD.2 (w.length + i) _ (by rw [List.getElem?_append_right (by omega), Nat.add_sub_cancel_left]; exact hi)
    · exact hA x (Nat.le_trans hS.1 h)
  subst hst
  refine va_callv (va_runI (As := As) (rest := st) ⟨hx, hb, hml, hown, hts⟩ (hcon l H.size) ⟨callB_of n hts (gt_in h3) rfl rfl rfl (hts _ h4) (hts _ hlink) h5 ⟨by show d' + 1 ≤ _; omega, by show 8 + (nL' + 11) + 48 * d' ≤ _; omega⟩, hnm, hts _ h2⟩ ⟨fun a U g mk z => ?_, fun U hU hW => ⟨rfl, by rw [hU], by rw [hU]; exact hPc, va_K.moved hW.alike hK, hEN.call hS hFc hW hU, hNE.warm hW⟩⟩ rfl hn hl.1 rfl (by show 2 * 0 + _ ≤ 8; omega) hd ⟨by omega, by omega⟩) hS (fun x _ h => hFc x h) hFc (fun w1 t H1 locs1 ht hvm hG hB hz1 hk1 hS1 => ?_)
  · obtain ⟨z0, z1, zP, zK, zE, zN⟩ := z
    exact ⟨z0, z1, zP, va_K.moved (u := U) (U := U.calling g mk a) (Vm.Alike.refl U.vm) zK, zE.same rfl rfl, zN.same rfl⟩
  · have hB : va_P D vwCl w1 t.heap ∧ va_D (va_A [(q, .inr (ci, fs0))] H.size) w1 := hB
    rw [ht] at hB
    obtain ⟨hP2, hD2⟩ := nj_P hP hD hk1 hFc hB.1 hB.2
    exact k w1 H1 locs1 hG ⟨hP2, hD2, hS1⟩
