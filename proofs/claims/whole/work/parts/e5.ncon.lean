/-! a maker's contract and its call -/
def NCon (y : MethodName) (cc : ByteArray) (nL d mc ms ci : Nat) (fs0 : List Value) (D : va_G) (κ : FieldType → ClassId) (ρ : Nat → Nat) (h0 : Nat) (As : List Value) (G : va_W → Prop) : Prop :=
  ∀ (l : Launch) (sz : Nat), Met l y (Cond.code y cc nL none :: GT) (rmN d mc ms) (va_Pc (.ref h0 :: As) (fun U => U.heap.size = sz ∧ va_P D vwCl [(h0, .inr (ci, fs0))] U.heap ∧ va_K D vwCl (tysOf κ) U ∧ EN ρ (va_A [(h0, .inr (ci, fs0))] sz) U U.heap ∧ NE U)) (va_Qv G (fun w' t => va_P D vwCl w' t.heap ∧ va_D (va_A [(h0, .inr (ci, fs0))] sz) w') (va_A [(h0, .inr (ci, fs0))] sz)) mc ms (va_A [(h0, .inr (ci, fs0))] sz)
theorem NCon.of_NX {y : MethodName} {cc : ByteArray} {nL d mc ms ci : Nat} {fs0 : List Value} {D : va_G} {κ : FieldType → ClassId} {ρ : Nat → Nat} {h0 : Nat} {As : List Value} {G : va_W → Prop} (hy : plainName y.cls = true) (hnm : y.name = "<init>") (hlen : (lg_sl (.ref h0 :: As)).length ≤ nL) (hX : NX y.cls cc nL d D κ ρ G mc ms 0 (lv_args 0 (.ref h0 :: As)) [] [(h0, .inr (ci, fs0))]) : NCon y cc nL d mc ms ci fs0 D κ ρ h0 As G := by
  intro l sz
  refine Met.ofW (cc := cc) (maxL := nL) (ret := none) hy rfl ?_
  intro p e s m args below meth c s₁ B hml hv
  obtain ⟨rfl, hsz, hP, hK, hEN, hNE⟩ := hv
  subst hsz
  have hts := atoms_spec (ws := Cond.code y cc nL none :: GT) B.pre
  have hown : s.vm.findClass y.cls = some m.cls := findClass_of_methodNamed B.named
  have hlocks := B.notSynchronized
  have hin : meth.name = "<init>" := (name_of_methodNamed B.named B.method).1.trans hnm
  have hD : va_D (va_A [(h0, .inr (ci, fs0))] s.heap.size) [(h0, (.inr (ci, fs0) : va_E))] := ⟨fun i j p q hp hq _ => by
    have h1 : i < 1 := (List.getElem?_eq_some_iff.mp hp).1
    have h2 : j < 1 := (List.getElem?_eq_some_iff.mp hq).1
    omega, fun k q hk => va_A.in hk⟩
  have hl := lv_entry (.ref h0 :: As) (n := nL) hlen
  rw [lg_entry_eq]
  refine hX (va_A [(h0, .inr (ci, fs0))] s.heap.size) p l e (rmN d mc ms) s m _ below meth c ⟨B.exec, B.bytes, B.returns, hml, hown, fun w hw => hts w (List.mem_cons_of_mem _ hw), hlocks, hin, Nat.le_refl _, Nat.le_refl _, hK, fun q h => Or.inr h, hEN, hNE⟩ s.heap [] 0 0 _ _ ⟨by show 0 + mc = mc; omega, by show 0 + ms = ms; omega⟩ ⟨hP, hD, va_S.rf⟩ hl (fun w' H' locs' pc' ls' hG hw' hd' => ?_)
  rw [Nat.zero_add, Nat.zero_add]
  exact W.vret B.exec B.bytes B.returns (fun t ht hW => ⟨⟨w', rfl, hG, by rw [ht]; exact hw'.1, hw'.2.1⟩, hw'.2.2.F ht⟩) hw'.2.2.2.2 hd'
section NXC
variable {own : String} {cc cc' : ByteArray} {nL nL' d d' mc ms ci n index q : Nat} {D : va_G} {κ : FieldType → ClassId} {ρ : Nat → Nat} {G G' : va_W → Prop} {gc gs pc : Nat} {lv : List (Nat × Value)} {st stk As : List Value} {w : va_W} {fs0 : List Value} {y : MethodName}
theorem nj_P {D : va_G} {cl : List vw_C} {A0 : Nat → Prop} {w wc w1 : va_W} {H H1 : Heap} (hP : va_P D cl (w ++ wc) H) (hD : va_D A0 (w ++ wc)) (hk : ∀ x : Nat, x < H.size → ¬ va_A wc H.size x → H1[x]? = H[x]?) (hF : ∀ x, va_A wc H.size x → A0 x) (hP1 : va_P D cl w1 H1) (hD1 : va_D (va_A wc H.size) w1) : va_P D cl (w ++ w1) H1 ∧ va_D A0 (w ++ w1) := by
  have hPw : ∀ k x, w[k]? = some x → (w ++ wc)[k]? = some x := fun k x hx => by
    rw [List.getElem?_append_left (List.getElem?_eq_some_iff.mp hx).1]; exact hx
  have hPc : ∀ k x, wc[k]? = some x → (w ++ wc)[w.length + k]? = some x := fun k x hx => by
    rw [List.getElem?_append_right (by omega), Nat.add_sub_cancel_left]; exact hx
  have lt : ∀ (k : Nat) (x : Nat × va_E), w[k]? = some x → x.1 < H.size := fun k x hx => va_at_lt (hP k x (hPw k x hx))
  have ne : ∀ (k : Nat) (x : Nat × va_E), w[k]? = some x → ∀ e9 : Nat × va_E, (∃ i : Nat, wc[i]? = some e9) → x.1 ≠ e9.1 := fun k x hx e9 ⟨i, hi⟩ h => by
    have := hD.1 k (w.length + i) x e9 (hPw k x hx) (hPc i e9 hi) h
    have h2 := (List.getElem?_eq_some_iff.mp hx).1
    omega
  have nA : ∀ (k : Nat) (x : Nat × va_E), w[k]? = some x → ¬ va_A wc H.size x.1 := fun k x hx h => by
    rcases h with ⟨i, e9, hi⟩ | h
    · exact ne k x hx (x.1, e9) ⟨i, hi⟩ rfl
    · exact Nat.not_le.mpr (lt k x hx) h
  have hw : va_P D cl w H := fun k x hx => hP k x (hPw k x hx)
  refine ⟨va_P.app (hw.kept (fun k x hx => hk x.1 (lt k x hx) (nA k x hx))) hP1, va_D.app ⟨fun i j a b ha hb e9 => hD.1 i j a b (hPw i a ha) (hPw j b hb) e9, fun k x hx => hD.2 k x (hPw k x hx)⟩ (hD1.weaken (fun k x hx h => hF x.1 h)) (fun i j a b ha hb e9 => ?_)⟩
  exact nA i a ha (by rw [e9]; exact hD1.2 j b hb)
theorem N_call (hcon : NCon y cc' nL' d' mc ms ci fs0 D κ ρ q As G') (hlink : Cond.methodLink own index y ∈ GT) (h2 : Cond.instanceMethod y ∈ GT) (h3 : Cond.code y cc' nL' none ∈ GT) (h4 : Cond.initialized y.cls ∈ GT) (h5 : y.cls ≠ "java/lang/invoke/MethodHandle" ∧ y.cls ≠ "java/lang/invoke/VarHandle" ∧ (parseMethodDescriptor y.desc).map (fun d => d.parameters.length) = some n) (hnm : y.name = "<init>") (hdd : d' + 1 ≤ d) (hnL : 19 + nL' ≤ 48) (hn : As.length = n) (hst : stk = As.reverse ++ .ref q :: st) (hsum : (st.map fun v => v.category).sum ≤ 8) (hd : decode cc pc = .ok (.invokespecial index, 3)) (k : ∀ w1, G' w1 → NX own cc nL d D κ ρ G gc gs (pc + 3) lv st (w ++ w1)) : NX own cc nL d D κ ρ G (gc + mc) (gs + ms) pc lv stk (w ++ [(q, .inr (ci, fs0))]) := by
  intro A p l e R s m args below meth c hC H locs cells slots Z ls hcs hw hl hZ
  obtain ⟨hx, hb, hr, hml, hown, hts, hlk, hin, hfr, hlo, hK, hA, hEN, hNE⟩ := id hC
  obtain ⟨hP, hD, hS⟩ := id hw
  have hPc : va_P D vwCl [(q, (.inr (ci, fs0) : va_E))] H := fun i x hx => hP (w.length + i) x (by rw [List.getElem?_append_right (by omega), Nat.add_sub_cancel_left]; exact hx)
  have hFc : ∀ x, va_A [(q, (.inr (ci, fs0) : va_E))] H.size x → A x := fun x h => by
    rcases h with ⟨i, e9, hi⟩ | h
    · exact hD.2 (w.length + i) _ (by rw [List.getElem?_append_right (by omega), Nat.add_sub_cancel_left]; exact hi)
    · exact hA x (Nat.le_trans hS.1 h)
  subst hst
  refine va_callv (va_runI (As := As) (rest := st) ⟨hx, hb, hml, hown, hts⟩ (hcon l H.size) ⟨callB_of n hts (gt_in h3) rfl rfl rfl (hts _ h4) (hts _ hlink) h5 ⟨by show d' + 1 ≤ _; omega, by show 8 + (nL' + 11) + 48 * d' ≤ _; omega⟩, hnm, hts _ h2⟩ ⟨fun a U g mk z => ?_, fun U hU hW => ⟨rfl, by rw [hU], by rw [hU]; exact hPc, va_K.moved hW.alike hK, hEN.call hS hFc hW hU, hNE.warm hW⟩⟩ rfl hn hl.1 rfl (by show 2 * 0 + _ ≤ 8; omega) hd ⟨by omega, by omega⟩) hS (fun x _ h => hFc x h) hFc (fun w1 t H1 locs1 ht hvm hG hB hz1 hk1 hS1 => ?_)
  · obtain ⟨z0, z1, zP, zK, zE, zN⟩ := z
    exact ⟨z0, z1, zP, va_K.moved (u := U) (U := U.calling g mk a) (Vm.Alike.refl U.vm) zK, zE.same rfl rfl, zN.same rfl⟩
  · have hB : va_P D vwCl w1 t.heap ∧ va_D (va_A [(q, .inr (ci, fs0))] H.size) w1 := hB
    rw [ht] at hB
    obtain ⟨hP2, hD2⟩ := nj_P hP hD hk1 hFc hB.1 hB.2
    refine k w1 hG A p l e R s m args below meth c hC H1 locs1 (cells + mc) (slots + ms) Z ls ⟨by omega, by omega⟩ ⟨hP2, hD2, hS1⟩ hl (fun w' H' locs' pc' ls' hG' hw' hd' => ?_)
    have := hZ w' H' locs' pc' ls' hG' hw' hd'
    rw [show cells + (gc + mc) = cells + mc + gc by omega, show slots + (gs + ms) = slots + ms + gs by omega] at this
    exact this
theorem N_callN (hcon : NCon y cc' nL' d' mc ms ci fs0 D κ ρ q As G') (hlink : (own, index, y) ∈ nnL) (h2 : Cond.instanceMethod y ∈ GT) (h3 : Cond.code y cc' nL' none ∈ GT) (h4 : Cond.initialized y.cls ∈ GT) (h5 : y.cls ≠ "java/lang/invoke/MethodHandle" ∧ y.cls ≠ "java/lang/invoke/VarHandle" ∧ (parseMethodDescriptor y.desc).map (fun d => d.parameters.length) = some n) (hnm : y.name = "<init>") (hdd : d' + 1 ≤ d) (hnL : 19 + nL' ≤ 48) (hn : As.length = n) (hst : stk = As.reverse ++ .ref q :: st) (hsum : (st.map fun v => v.category).sum ≤ 8) (hd : decode cc pc = .ok (.invokespecial index, 3)) (k : ∀ w1, G' w1 → NX own cc nL d D κ ρ G gc gs (pc + 3) lv st (w ++ w1)) : NX own cc nL d D κ ρ G (gc + mc) (gs + ms) pc lv stk (w ++ [(q, .inr (ci, fs0))]) := by
  intro A p l e R s m args below meth c hC H locs cells slots Z ls hcs hw hl hZ
  obtain ⟨hx, hb, hr, hml, hown, hts, hlk, hin, hfr, hlo, hK, hA, hEN, hNE⟩ := id hC
  obtain ⟨hP, hD, hS⟩ := id hw
  have hPc : va_P D vwCl [(q, (.inr (ci, fs0) : va_E))] H := fun i x hx => hP (w.length + i) x (by rw [List.getElem?_append_right (by omega), Nat.add_sub_cancel_left]; exact hx)
  have hFc : ∀ x, va_A [(q, (.inr (ci, fs0) : va_E))] H.size x → A x := fun x h => by
    rcases h with ⟨i, e9, hi⟩ | h
    · exact hD.2 (w.length + i) _ (by rw [List.getElem?_append_right (by omega), Nat.add_sub_cancel_left]; exact hi)
    · exact hA x (Nat.le_trans hS.1 h)
  subst hst
  refine va_callv (va_runIN (As := As) (rest := st) ⟨hx, hb, hml, hown, hts⟩ (hcon l H.size) ⟨va_cnB (host := RX11) n hts (gt_in h3) rfl rfl rfl (hNE.2.2 _ hlink) (hts _ h4) h5 ⟨by show d' + 1 ≤ _; omega, by show 8 + (nL' + 11) + 48 * d' ≤ _; omega⟩, hnm, hts _ h2⟩ ⟨fun a U g mk z => ?_, fun U hU hW => ⟨rfl, by rw [hU], by rw [hU]; exact hPc, va_K.moved hW.alike hK, hEN.call hS hFc hW hU, hNE.warm hW⟩⟩ rfl hn hl.1 rfl (by show 2 * 0 + _ ≤ 8; omega) hd ⟨by omega, by omega⟩) hS (fun x _ h => hFc x h) hFc (fun w1 t H1 locs1 ht hvm hG hB hz1 hk1 hS1 => ?_)
  · obtain ⟨z0, z1, zP, zK, zE, zN⟩ := z
    exact ⟨z0, z1, zP, va_K.moved (u := U) (U := U.calling g mk a) (Vm.Alike.refl U.vm) zK, zE.same rfl rfl, zN.same rfl⟩
  · have hB : va_P D vwCl w1 t.heap ∧ va_D (va_A [(q, .inr (ci, fs0))] H.size) w1 := hB
    rw [ht] at hB
    obtain ⟨hP2, hD2⟩ := nj_P hP hD hk1 hFc hB.1 hB.2
    refine k w1 hG A p l e R s m args below meth c hC H1 locs1 (cells + mc) (slots + ms) Z ls ⟨by omega, by omega⟩ ⟨hP2, hD2, hS1⟩ hl (fun w' H' locs' pc' ls' hG' hw' hd' => ?_)
    have := hZ w' H' locs' pc' ls' hG' hw' hd'
    rw [show cells + (gc + mc) = cells + mc + gc by omega, show slots + (gs + ms) = slots + ms + gs by omega] at this
    exact this
theorem N_swap {a b c0 : va_W} (k : NX own cc nL d D κ ρ G gc gs pc lv st ((a ++ c0) ++ b)) : NX own cc nL d D κ ρ G gc gs pc lv st ((a ++ b) ++ c0) := by
  intro A p l e R s m args below meth c hC H locs cells slots Z ls hcs hw hl hZ
  exact k A p l e R s m args below meth c hC H locs cells slots Z ls hcs ⟨hw.1.swap, hw.2.1.swap, hw.2.2⟩ hl hZ
theorem N_cg {w' : va_W} (h1 : ∀ H, va_P D vwCl w H → va_P D vwCl w' H) (h2 : ∀ A, va_D A w → va_D A w') (k : NX own cc nL d D κ ρ G gc gs pc lv st w') : NX own cc nL d D κ ρ G gc gs pc lv st w := by
  intro A p l e R s m args below meth c hC H locs cells slots Z ls hcs hw hl hZ
  exact k A p l e R s m args below meth c hC H locs cells slots Z ls hcs ⟨h1 H hw.1, h2 A hw.2.1, hw.2.2⟩ hl hZ
end NXC
/-! the first memory of what is made -/
def zM : Mm := (fun _ _ => 0, fun _ _ => 0, fun _ _ => 0)
def gD (qs : List Nat) (i : Nat) : Nat := qs.getD i 0
def Gk (S : List Sh) (κ : FieldType → ClassId) (z : Mm) (h0 : Nat) (w : va_W) : Prop := ∃ qs : List Nat, qs.length = S.length ∧ gD qs 0 = h0 ∧ w = wsOf S κ (gD qs) z
theorem na_i : Cond.arrayClass .int ∈ GT := gt_t 199 (by decide +kernel) (by decide)
theorem na_l : Cond.arrayClass .long ∈ GT := gt_t 138 (by decide +kernel) (by decide)
theorem na_b : Cond.arrayClass .byte ∈ GT := gt_t 50 (by decide +kernel) (by decide)
theorem na_s : Cond.arrayClass .short ∈ GT := gt_t 350 (by decide +kernel) (by decide)
theorem na_z : Cond.arrayClass .boolean ∈ GT := gt_t 240 (by decide +kernel) (by decide)
