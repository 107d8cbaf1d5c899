/-! the law's helpers: share and rests, that catch -/
def yHs : MethodName := ⟨RL, "share", "(LNextLight;I[J)I"⟩
def yHr : MethodName := ⟨RL, "rests", "(LNextLight;IIII[J)I"⟩
theorem hs_c : Cond.codeWith yHs method_3_code 4 (some .int) [(0, 9, 12, 13)] ∈ GT := gt_t 1103 (by decide +kernel) (by decide)
theorem hr_c : Cond.codeWith yHr method_4_code 7 (some .int) [(0, 14, 17, 13)] ∈ GT := gt_t 1176 (by decide +kernel) (by decide)
theorem hs_s : Cond.static yHs ∈ GT := gt_t 1102 (by decide +kernel) (by decide)
theorem hr_s : Cond.static yHr ∈ GT := gt_t 1175 (by decide +kernel) (by decide)
theorem hs_l : Cond.methodLink RL 139 yHs ∈ GT := gt_t 1101 (by decide +kernel) (by decide)
theorem hr_l : Cond.methodLink RL 152 yHr ∈ GT := gt_t 1174 (by decide +kernel) (by decide)
theorem hl_i : Cond.initialized RL ∈ GT := gt_t 0 (by decide +kernel) (by decide)
theorem hl_k : Cond.classLink RL 13 nl_NS ∈ GT := gt_t 1104 (by decide +kernel) (by decide)
theorem gt_inW {y : MethodName} {cc : ByteArray} {nL : Nat} {ret : Option FieldType} {hh : List (Nat × Nat × Nat × Nat)} (h : Cond.codeWith y cc nL ret hh ∈ GT) : GoodIn GT (Cond.codeWith y cc nL ret hh :: GT) := by
  intro w hw
  rcases List.mem_cons.mp hw with e | e
  · subst e; exact ⟨h, gt_good h⟩
  · exact ⟨e, gt_good e⟩
def tHs : List (Nat × Instr × Nat) := [(0, .aload_n 2, 1), (1, .iconst 0, 1), (2, .aload_n 0, 1), (3, .iload_n 1, 1), (4, .invokevirtual 7, 3), (7, .i2l, 1), (8, .lastore, 1), (9, .goto 6, 3), (12, .astore_n 3, 1), (13, .iconst 1, 1), (14, .ireturn, 1), (15, .iconst 0, 1), (16, .ireturn, 1)]
theorem kHs : ckD method_3_code tHs = true := by decide +kernel
def tHr : List (Nat × Instr × Nat) := [(0, .aload 5, 2), (2, .iconst 0, 1), (3, .aload_n 0, 1), (4, .iload_n 1, 1), (5, .iload_n 2, 1), (6, .iload_n 3, 1), (7, .iload 4, 2), (9, .invokevirtual 15, 3), (12, .i2l, 1), (13, .lastore, 1), (14, .goto 7, 3), (17, .astore 6, 2), (19, .iconst 1, 1), (20, .ireturn, 1), (21, .iconst 0, 1), (22, .ireturn, 1)]
theorem kHr : ckD method_4_code tHr = true := by decide +kernel
theorem nl_ofWH {l : Launch} {y : MethodName} {ws ws' : List Cond} {rm : Room} {Pc : Array Value → State → Prop} {Qc : Array Value → State → Outcome → State → Prop} {mc ms : Nat} {free : Addr → Prop} {cc : ByteArray} {maxL : Nat} {ret : Option FieldType} {hh : List (Nat × Nat × Nat × Nat)} (hy : plainName y.cls = true) (hw : ws = Cond.codeWith y cc maxL ret hh :: ws')
    (body : ∀ p e s m args below meth c s₁, BodyLoose p l y (headSpec ws rm) cc maxL ret e s m args below meth c s₁ → c.maxLocals = maxL → Pc args s → W p l e (headSpec ws rm).room s m args below meth c s.heap [] 0 0 (MQ below Qc args s mc ms free) (entryFrame m args maxL)) : Met l y ws rm Pc Qc mc ms free := by
  refine MetFree.of_bodyS (code := cc) (maxLocals := maxL) (ret := ret) hy (fun args s m h hn => ?_) (fun p e s m args below meth c s₁ B hml hP _ => ?_)
  · obtain ⟨m9, meth, c, hn9, h1, h2, h3, h4, -, h5, h6, -⟩ := Cond.codeWith_spec (atoms_spec (ws := ws) h _ (by rw [hw]; exact List.mem_cons_self))
    cases hn.symm.trans hn9
    exact ⟨meth, c, h1, h2, h3, h4, h5, h6⟩
  · obtain ⟨t, a1, o, b1, b2, b3⟩ := body p e s m args below meth c s₁ B hml hP s₁ (by rw [B.state]; rfl) (Stand.of_body B)
    exact ⟨t, o, a1, b1, b2, ⟨b3.1, b3.2⟩⟩
def rmH : Room := { frames := 12, cells := 1, slots := 16, locals := 620 }
def AH (ρ : Nat → Nat) (sz q : Nat) : Prop := (∃ k, k < 245 ∧ q = ρ k) ∨ q = ρ 3000 ∨ sz ≤ q
def PcH (D : va_G) (κ : FieldType → ClassId) (ρ : Nat → Nat) (sz : Nat) (σ : Mm) (ov : Nat → Int64) (U : State) : Prop := U.heap.size = sz ∧ va_P D vwCl (wsOf SHC κ ρ σ) U.heap ∧ va_P D vwCl (wO κ ρ ov) U.heap ∧ va_K D vwCl (tysOf κ) U ∧ (∀ i j, i < 245 ∨ i = 3000 → j < 245 ∨ j = 3000 → ρ i = ρ j → i = j) ∧ EN ρ (AH ρ sz) U U.heap ∧ NW U
def HCon (y : MethodName) (cc : ByteArray) (nL : Nat) (hh : List (Nat × Nat × Nat × Nat)) (As : List Value) (σ : Mm) (ov : Nat → Int64) (k : Int32) (σ' : Mm) (ov' : Nat → Int64) : Prop := ∀ (l : Launch) (D : va_G) (κ : FieldType → ClassId) (ρ : Nat → Nat) (sz : Nat), l.stackTraces = false → Met l y (Cond.codeWith y cc nL (some .int) hh :: GT) rmH (va_Pc (As.map (tr ρ)) (PcH D κ ρ sz σ ov)) (va_Qi (fun (r : Int32) (_ : Unit) => r = k) (fun _ t => va_P D vwCl (wsOf SHC κ ρ σ') t.heap ∧ va_P D vwCl (wO κ ρ ov') t.heap) (AH ρ sz)) 1 16 (AH ρ sz)
theorem NW.same {U V : State} (h : NW U) (hv : V.vm = U.vm) : NW V := h.warm (by rw [hv]; exact State.WarmedH.refl U)
theorem blT {D : va_G} {κ : FieldType → ClassId} {ρ : Nat → Nat} {σ : Mm} {av : List Value} {sz : Nat} : FrameBlind (va_Pc av (fun U => U.heap.size = sz ∧ va_P D vwCl (wsOf SHC κ ρ σ) U.heap ∧ va_K D vwCl (tysOf κ) U ∧ va_D (fun _ => True) (wsOf SHC κ ρ σ) ∧ EN ρ (va_A (wsOf SHC κ ρ σ) sz) U U.heap ∧ NW U)) := fun a U g mk q => by
  obtain ⟨q0, q1, qP, qK, qD, qE, qN⟩ := q
  exact ⟨q0, q1, qP, va_K.moved (u := U) (U := U.calling g mk a) (Vm.Alike.refl U.vm) qK, qD, qE.same rfl rfl, qN.same rfl⟩
theorem blH {D : va_G} {κ : FieldType → ClassId} {ρ : Nat → Nat} {σ : Mm} {av : List Value} {sz : Nat} {ov : Nat → Int64} : FrameBlind (va_Pc av (PcH D κ ρ sz σ ov)) := fun a U g mk q => by
  obtain ⟨q0, q1, qP, qO, qK, qD, qE, qN⟩ := q
  exact ⟨q0, q1, qP, qO, va_K.moved (u := U) (U := U.calling g mk a) (Vm.Alike.refl U.vm) qK, qD, qE.same rfl rfl, qN.same rfl⟩
theorem wO_mem {κ : FieldType → ClassId} {ρ : Nat → Nat} {ov : Nat → Int64} {k : Nat} {q : Nat × va_E} (h : (wO κ ρ ov)[k]? = some q) : q.1 = ρ 3000 := by
  cases k with
  | zero => cases h; rfl
  | succ k => simp [wO] at h
set_option maxHeartbeats 4000000 in
theorem h_share_r {p1 r : Int32} {σ σ' : Mm} {ov : Nat → Int64} (hcon : Con (wsOf SHC) yX11_share cX11_share 2 (some .int) 7 [.ref 0, .int p1] σ (some (r, σ'))) : HCon yHs method_3_code 4 [(0, 9, 12, 13)] [.ref 0, .int p1, .ref 3000] σ ov 0 σ' (vp_updL ov 0 r.toInt64) := by
  intro l D κ ρ sz hl0
  refine nl_ofWH (cc := method_3_code) (maxL := 4) (ret := some .int) (hh := [(0, 9, 12, 13)]) (by decide +kernel) rfl ?_
  intro p e s m args below meth c s₁ B hml hv
  obtain ⟨rfl, hsz, hP1, hP3, hK, hinj, hEN, hNW⟩ := hv
  subst hsz
  have hx := B.exec
  have hb := B.bytes
  have hr := B.returns
  have hlocks := B.notSynchronized
  have hts := atoms_spec (ws := Cond.codeWith yHs method_3_code 4 (some .int) [(0, 9, 12, 13)] :: GT) B.pre
  have hG : ∀ w ∈ GT, w.before ([.ref 0, .int p1, .ref 3000].map (tr ρ)).toArray s = true := fun w hw => hts w (List.mem_cons_of_mem _ hw)
  have hown : s.vm.findClass RL = some m.cls := findClass_of_methodNamed B.named
  have hS : va_S (AH ρ s.heap.size) s.heap s.heap [] := va_S.rf
  have hFc : ∀ q, va_A (wsOf SHC κ ρ σ) s.heap.size q → AH ρ s.heap.size q := fun q h => by
    rcases ws_A h with ⟨k, hk, e9⟩ | h
    · exact Or.inl ⟨k, by rw [shc_len] at hk; exact hk, e9⟩
    · exact Or.inr (Or.inr h)
  have hD : va_D (fun _ => True) (wsOf SHC κ ρ σ) := ws_D (fun i j hi hj e9 => hinj i j (Or.inl (by rw [shc_len] at hi; exact hi)) (Or.inl (by rw [shc_len] at hj; exact hj)) e9) (fun _ _ => trivial)
  have hln := lv_entry ([.ref 0, .int p1, .ref 3000].map (tr ρ)) (n := 4) (Nat.le_of_ble_eq_true rfl)
  rw [lg_entry_eq]
  generalize (lg_sl ([.ref 0, .int p1, .ref 3000].map (tr ρ)) ++ List.replicate (4 - (lg_sl ([.ref 0, .int p1, .ref 3000].map (tr ρ))).length) Slot.unset).toArray = ls at hln ⊢
  have hln : lv_has ls 4 [(0, .ref (ρ 0)), (1, .int p1), (2, .ref (ρ 3000))] := hln
  refine lv_aload_n hx hb (td kHs 0 rfl) rfl (lv_at hln 2 rfl) ?_
  refine lv_iconst (v := 0) hx hb (td kHs 1 rfl) (by decide) ?_
  refine lv_aload_n hx hb (td kHs 2 rfl) rfl (lv_at hln 0 rfl) ?_
  refine lv_iload_n hx hb (td kHs 3 rfl) rfl (lv_at hln 1 rfl) ?_
  obtain ⟨m1, m2, m3, m4, m5, ⟨T0, N0, m6⟩, m7⟩ := mkX11_share
  have hM := hcon l D κ ρ s.heap.size r σ' rfl
  refine va_calli (va_runV (As := [.int p1]) (rest := [.int 0, .ref (ρ 3000)]) ⟨hx, hb, hml, hown, hG⟩ hM ⟨callB_of 1 hG (gt_in m4) rfl rfl rfl (hG _ m3) (hG _ lk_L_7) m5 ⟨by decide, by decide⟩, hG _ m1, hG _ m2⟩ ⟨nl_blind, va_recv hK hP1 m6 (ws_get sC_0), fun U hU hW => ⟨rfl, by rw [hU], by rw [hU]; exact hP1, va_K.moved hW.alike hK, hD, hEN.call hS hFc hW hU⟩⟩ rfl rfl hln.1 rfl (lv_room (Nat.le_of_ble_eq_true rfl)) (td kHs 4 rfl) ⟨by decide, by decide⟩) hS (fun q _ h => hFc q h) hFc (fun r2 u t H1 locs1 ht hvm hw hB hz1 hk1 hS1 => ?_)
  obtain ⟨rfl, rfl, hnr⟩ := hw
  rw [ht] at hB
  have hP3' : va_P D vwCl (wO κ ρ ov) H1 := hP3.kept (fun k q hk => hk1 _ (va_at_lt (hP3 k q hk)) (fun h => by
    rcases ws_A h with ⟨i, hi, e9⟩ | h
    · rw [wO_mem hk] at e9
      rw [shc_len] at hi
      have := hinj 3000 i (Or.inr rfl) (Or.inl hi) e9
      omega
    · exact Nat.not_le.mpr (va_at_lt (hP3 k q hk)) h))
  have hD3 : va_D (AH ρ s.heap.size) (wO κ ρ ov) := ⟨fun i j p q hp hq _ => by
    have h1 : i < 1 := (List.getElem?_eq_some_iff.mp hp).1
    have h2 : j < 1 := (List.getElem?_eq_some_iff.mp hq).1
    omega, fun k q hk => Or.inr (Or.inl (wO_mem hk))⟩
  refine lv_i2l hx hb (td kHs 5 rfl) rfl ?_
  have hPa : va_P D vwCl (wO κ ρ ov ++ wsOf SHC κ ρ u) H1 := hP3'.app hB.1
  have hDa : va_D (AH ρ s.heap.size) (wO κ ρ ov ++ wsOf SHC κ ρ u) := va_D.app hD3 (ws_D (fun i j hi hj e9 => hinj i j (Or.inl (by rw [shc_len] at hi; exact hi)) (Or.inl (by rw [shc_len] at hj; exact hj)) e9) (fun i hi => Or.inl ⟨i, by rw [shc_len] at hi; exact hi, rfl⟩)) (fun i j p q hp hq e9 => by
    rw [wO_mem hp, (ws_mem hq).2] at e9
    have hj := (ws_mem hq).1
    rw [shc_len] at hj
    have := hinj 3000 j (Or.inr rfl) (Or.inl hj) e9
    omega)
  refine va_last hx hb hK hPa hDa hS1 0 1 (n := 1) (f := ov) rfl rfl (by unfold vp_in; decide) (td kHs 6 rfl) (fun H2 locs2 hPb hDb hS2 => ?_)
  have hPb : va_P D vwCl (wO κ ρ (vp_updL ov 0 r2.toInt64) ++ wsOf SHC κ ρ u) H2 := hPb
  have hP4 : va_P D vwCl (wO κ ρ (vp_updL ov 0 r2.toInt64)) H2 := fun k q hk => hPb k q (by
    have h1 : k < 1 := (List.getElem?_eq_some_iff.mp hk).1
    rw [List.getElem?_append_left (by exact h1)]; exact hk)
  have hP5 : va_P D vwCl (wsOf SHC κ ρ u) H2 := by
    generalize wsOf SHC κ ρ u = wz at hPb ⊢
    exact fun k q hk => hPb (k + 1) q hk
  refine lv_goto (tgt := 15) hx hb (td kHs 7 rfl) (by decide) ?_
  refine lv_iconst (v := 0) hx hb (td kHs 11 rfl) (by decide) ?_
  refine W.widen (k := 1) (n := 16) (by decide) (by decide) ?_
  exact W.iret hx hb hr (fun t ht hW => ⟨⟨0, (), rfl, rfl, by subst ht; exact ⟨hP5, hP4⟩⟩, hS2.F ht⟩) hS2.2.2 (td kHs 12 rfl)
set_option maxHeartbeats 4000000 in
theorem h_share_t {p1 : Int32} {σ σ' : Mm} {ov : Nat → Int64} (hcon : ConT yX11_share cX11_share 2 [.ref 0, .int p1] σ σ') : HCon yHs method_3_code 4 [(0, 9, 12, 13)] [.ref 0, .int p1, .ref 3000] σ ov 1 σ' ov := by
  intro l D κ ρ sz hl0
  refine nl_ofWH (cc := method_3_code) (maxL := 4) (ret := some .int) (hh := [(0, 9, 12, 13)]) (by decide +kernel) rfl ?_
  intro p e s m args below meth c s₁ B hml hv
  obtain ⟨rfl, hsz, hP1, hP3, hK, hinj, hEN, hNW⟩ := hv
  subst hsz
  have hx := B.exec
  have hb := B.bytes
  have hr := B.returns
  have hlocks := B.notSynchronized
  have hts := atoms_spec (ws := Cond.codeWith yHs method_3_code 4 (some .int) [(0, 9, 12, 13)] :: GT) B.pre
  have hG : ∀ w ∈ GT, w.before ([.ref 0, .int p1, .ref 3000].map (tr ρ)).toArray s = true := fun w hw => hts w (List.mem_cons_of_mem _ hw)
  have hown : s.vm.findClass RL = some m.cls := findClass_of_methodNamed B.named
  have hS : va_S (AH ρ s.heap.size) s.heap s.heap [] := va_S.rf
  have hFc : ∀ q, va_A (wsOf SHC κ ρ σ) s.heap.size q → AH ρ s.heap.size q := fun q h => by
    rcases ws_A h with ⟨k, hk, e9⟩ | h
    · exact Or.inl ⟨k, by rw [shc_len] at hk; exact hk, e9⟩
    · exact Or.inr (Or.inr h)
  have hD : va_D (fun _ => True) (wsOf SHC κ ρ σ) := ws_D (fun i j hi hj e9 => hinj i j (Or.inl (by rw [shc_len] at hi; exact hi)) (Or.inl (by rw [shc_len] at hj; exact hj)) e9) (fun _ _ => trivial)
  have hln := lv_entry ([.ref 0, .int p1, .ref 3000].map (tr ρ)) (n := 4) (Nat.le_of_ble_eq_true rfl)
  rw [lg_entry_eq]
  generalize (lg_sl ([.ref 0, .int p1, .ref 3000].map (tr ρ)) ++ List.replicate (4 - (lg_sl ([.ref 0, .int p1, .ref 3000].map (tr ρ))).length) Slot.unset).toArray = ls at hln ⊢
  have hln : lv_has ls 4 [(0, .ref (ρ 0)), (1, .int p1), (2, .ref (ρ 3000))] := hln
  refine lv_aload_n hx hb (td kHs 0 rfl) rfl (lv_at hln 2 rfl) ?_
  refine lv_iconst (v := 0) hx hb (td kHs 1 rfl) (by decide) ?_
  refine lv_aload_n hx hb (td kHs 2 rfl) rfl (lv_at hln 0 rfl) ?_
  refine lv_iload_n hx hb (td kHs 3 rfl) rfl (lv_at hln 1 rfl) ?_
  obtain ⟨m1, m2, m3, m4, m5, ⟨T0, N0, m6⟩, m7⟩ := mkX11_share
  have hM := hcon l D κ ρ s.heap.size hl0
  have htab : c.exceptionTable.toList = [] ++ (⟨0, 9, 12, 13⟩ : ExceptionTableEntry) :: [] := vx_table (x := yHs) B (hts _ List.mem_cons_self)
  refine vx_calli (vx_runV (As := [.int p1]) (rest := [.int 0, .ref (ρ 3000)]) ⟨hx, hb, hml, hown, hG⟩ hM ⟨callB_of 1 hG (gt_in m4) rfl rfl rfl (hG _ m3) (hG _ lk_L_7) m5 ⟨by decide, by decide⟩, hG _ m1, hG _ m2⟩ ⟨blT, va_recv hK hP1 m6 (ws_get sC_0), fun U hU hW => ⟨rfl, by rw [hU], by rw [hU]; exact hP1, va_K.moved hW.alike hK, hD, hEN.call hS hFc hW hU, hNW.warm hW⟩⟩ rfl rfl hln.1 rfl (lv_room (Nat.le_of_ble_eq_true rfl)) (td kHs 4 rfl) ⟨by decide, by decide⟩) hS (fun q _ h => hFc q h) hFc (fun q _ h => hFc q h) (fun E ce q9 u t H1 locs1 ht hvm hw hB hz1 hk1 hS1 hce hcv hcl => ?_) (fun r2 u t H1 locs1 ht hvm hw hB hz1 hk1 hS1 => hw.elim)
  have hw : u = σ' := hw
  obtain ⟨rfl, hP5, -⟩ := hB
  rw [ht, hw] at hP5
  have hP4 : va_P D vwCl (wO κ ρ ov) H1 := hP3.kept (fun k q hk => hk1 _ (va_at_lt (hP3 k q hk)) (fun h => by
    rcases ws_A h with ⟨i, hi, e9⟩ | h
    · rw [wO_mem hk] at e9
      rw [shc_len] at hi
      have := hinj 3000 i (Or.inr rfl) (Or.inl hi) e9
      omega
    · exact Nat.not_le.mpr (va_at_lt (hP3 k q hk)) h))
  refine vx_catch (own := RL) (name := nl_NS) hown [] _ [] htab (fun z hz => nomatch hz) (by decide) (by decide) (hG _ hl_k) (va_Nw.use (A := ([.ref 0, .int p1, .ref 3000].map (tr ρ)).toArray) rfl hNW.2.2.2) hce hcv hcl ?_
  refine lv_astore_n (lv' := [(3, .ref q9), (0, .ref (ρ 0)), (1, .int p1), (2, .ref (ρ 3000))]) hx hb (td kHs 8 rfl) rfl hln (by decide) rfl (fun ls hln => ?_)
  refine lv_iconst (v := 1) hx hb (td kHs 9 rfl) (by decide) ?_
  exact W.iret hx hb hr (fun t ht hW => ⟨⟨1, (), rfl, rfl, by subst ht; exact ⟨hP5, hP4⟩⟩, hS1.F ht⟩) hS1.2.2 (td kHs 10 rfl)
set_option maxHeartbeats 4000000 in
theorem h_rests_r {p1 p2 p3 p4 r : Int32} {σ σ' : Mm} {ov : Nat → Int64} (hcon : Con (wsOf SHC) yX11_rests cX11_rests 7 (some .int) 3 [.ref 0, .int p1, .int p2, .int p3, .int p4] σ (some (r, σ'))) : HCon yHr method_4_code 7 [(0, 14, 17, 13)] [.ref 0, .int p1, .int p2, .int p3, .int p4, .ref 3000] σ ov 0 σ' (vp_updL ov 0 r.toInt64) := by
  intro l D κ ρ sz hl0
  refine nl_ofWH (cc := method_4_code) (maxL := 7) (ret := some .int) (hh := [(0, 14, 17, 13)]) (by decide +kernel) rfl ?_
  intro p e s m args below meth c s₁ B hml hv
  obtain ⟨rfl, hsz, hP1, hP3, hK, hinj, hEN, hNW⟩ := hv
  subst hsz
  have hx := B.exec
  have hb := B.bytes
  have hr := B.returns
  have hlocks := B.notSynchronized
  have hts := atoms_spec (ws := Cond.codeWith yHr method_4_code 7 (some .int) [(0, 14, 17, 13)] :: GT) B.pre
  have hG : ∀ w ∈ GT, w.before ([.ref 0, .int p1, .int p2, .int p3, .int p4, .ref 3000].map (tr ρ)).toArray s = true := fun w hw => hts w (List.mem_cons_of_mem _ hw)
  have hown : s.vm.findClass RL = some m.cls := findClass_of_methodNamed B.named
  have hS : va_S (AH ρ s.heap.size) s.heap s.heap [] := va_S.rf
  have hFc : ∀ q, va_A (wsOf SHC κ ρ σ) s.heap.size q → AH ρ s.heap.size q := fun q h => by
    rcases ws_A h with ⟨k, hk, e9⟩ | h
    · exact Or.inl ⟨k, by rw [shc_len] at hk; exact hk, e9⟩
    · exact Or.inr (Or.inr h)
  have hD : va_D (fun _ => True) (wsOf SHC κ ρ σ) := ws_D (fun i j hi hj e9 => hinj i j (Or.inl (by rw [shc_len] at hi; exact hi)) (Or.inl (by rw [shc_len] at hj; exact hj)) e9) (fun _ _ => trivial)
  have hln := lv_entry ([.ref 0, .int p1, .int p2, .int p3, .int p4, .ref 3000].map (tr ρ)) (n := 7) (Nat.le_of_ble_eq_true rfl)
  rw [lg_entry_eq]
  generalize (lg_sl ([.ref 0, .int p1, .int p2, .int p3, .int p4, .ref 3000].map (tr ρ)) ++ List.replicate (7 - (lg_sl ([.ref 0, .int p1, .int p2, .int p3, .int p4, .ref 3000].map (tr ρ))).length) Slot.unset).toArray = ls at hln ⊢
  have hln : lv_has ls 7 [(0, .ref (ρ 0)), (1, .int p1), (2, .int p2), (3, .int p3), (4, .int p4), (5, .ref (ρ 3000))] := hln
  refine lv_aload hx hb (td kHr 0 rfl) (lv_at hln 5 rfl) ?_
  refine lv_iconst (v := 0) hx hb (td kHr 1 rfl) (by decide) ?_
  refine lv_aload_n hx hb (td kHr 2 rfl) rfl (lv_at hln 0 rfl) ?_
  refine lv_iload_n hx hb (td kHr 3 rfl) rfl (lv_at hln 1 rfl) ?_
  refine lv_iload_n hx hb (td kHr 4 rfl) rfl (lv_at hln 2 rfl) ?_
  refine lv_iload_n hx hb (td kHr 5 rfl) rfl (lv_at hln 3 rfl) ?_
  refine lv_iload hx hb (td kHr 6 rfl) (lv_at hln 4 rfl) ?_
  obtain ⟨m1, m2, m3, m4, m5, ⟨T0, N0, m6⟩, m7⟩ := mkX11_rests
  have hM := hcon l D κ ρ s.heap.size r σ' rfl
  refine va_calli (va_runV (As := [.int p1, .int p2, .int p3, .int p4]) (rest := [.int 0, .ref (ρ 3000)]) ⟨hx, hb, hml, hown, hG⟩ hM ⟨callB_of 4 hG (gt_in m4) rfl rfl rfl (hG _ m3) (hG _ lk_L_15) m5 ⟨by decide, by decide⟩, hG _ m1, hG _ m2⟩ ⟨nl_blind, va_recv hK hP1 m6 (ws_get sC_0), fun U hU hW => ⟨rfl, by rw [hU], by rw [hU]; exact hP1, va_K.moved hW.alike hK, hD, hEN.call hS hFc hW hU⟩⟩ rfl rfl hln.1 rfl (lv_room (Nat.le_of_ble_eq_true rfl)) (td kHr 7 rfl) ⟨by decide, by decide⟩) hS (fun q _ h => hFc q h) hFc (fun r2 u t H1 locs1 ht hvm hw hB hz1 hk1 hS1 => ?_)
  obtain ⟨rfl, rfl, hnr⟩ := hw
  rw [ht] at hB
  have hP3' : va_P D vwCl (wO κ ρ ov) H1 := hP3.kept (fun k q hk => hk1 _ (va_at_lt (hP3 k q hk)) (fun h => by
    rcases ws_A h with ⟨i, hi, e9⟩ | h
    · rw [wO_mem hk] at e9
      rw [shc_len] at hi
      have := hinj 3000 i (Or.inr rfl) (Or.inl hi) e9
      omega
    · exact Nat.not_le.mpr (va_at_lt (hP3 k q hk)) h))
  have hD3 : va_D (AH ρ s.heap.size) (wO κ ρ ov) := ⟨fun i j p q hp hq _ => by
    have h1 : i < 1 := (List.getElem?_eq_some_iff.mp hp).1
    have h2 : j < 1 := (List.getElem?_eq_some_iff.mp hq).1
    omega, fun k q hk => Or.inr (Or.inl (wO_mem hk))⟩
  refine lv_i2l hx hb (td kHr 8 rfl) rfl ?_
  have hPa : va_P D vwCl (wO κ ρ ov ++ wsOf SHC κ ρ u) H1 := hP3'.app hB.1
  have hDa : va_D (AH ρ s.heap.size) (wO κ ρ ov ++ wsOf SHC κ ρ u) := va_D.app hD3 (ws_D (fun i j hi hj e9 => hinj i j (Or.inl (by rw [shc_len] at hi; exact hi)) (Or.inl (by rw [shc_len] at hj; exact hj)) e9) (fun i hi => Or.inl ⟨i, by rw [shc_len] at hi; exact hi, rfl⟩)) (fun i j p q hp hq e9 => by
    rw [wO_mem hp, (ws_mem hq).2] at e9
    have hj := (ws_mem hq).1
    rw [shc_len] at hj
    have := hinj 3000 j (Or.inr rfl) (Or.inl hj) e9
    omega)
  refine va_last hx hb hK hPa hDa hS1 0 1 (n := 1) (f := ov) rfl rfl (by unfold vp_in; decide) (td kHr 9 rfl) (fun H2 locs2 hPb hDb hS2 => ?_)
  have hPb : va_P D vwCl (wO κ ρ (vp_updL ov 0 r2.toInt64) ++ wsOf SHC κ ρ u) H2 := hPb
  have hP4 : va_P D vwCl (wO κ ρ (vp_updL ov 0 r2.toInt64)) H2 := fun k q hk => hPb k q (by
    have h1 : k < 1 := (List.getElem?_eq_some_iff.mp hk).1
    rw [List.getElem?_append_left (by exact h1)]; exact hk)
  have hP5 : va_P D vwCl (wsOf SHC κ ρ u) H2 := by
    generalize wsOf SHC κ ρ u = wz at hPb ⊢
    exact fun k q hk => hPb (k + 1) q hk
  refine lv_goto (tgt := 21) hx hb (td kHr 10 rfl) (by decide) ?_
  refine lv_iconst (v := 0) hx hb (td kHr 14 rfl) (by decide) ?_
  refine W.widen (k := 1) (n := 16) (by decide) (by decide) ?_
  exact W.iret hx hb hr (fun t ht hW => ⟨⟨0, (), rfl, rfl, by subst ht; exact ⟨hP5, hP4⟩⟩, hS2.F ht⟩) hS2.2.2 (td kHr 15 rfl)
set_option maxHeartbeats 4000000 in
theorem h_rests_t {p1 p2 p3 p4 : Int32} {σ σ' : Mm} {ov : Nat → Int64} (hcon : ConT yX11_rests cX11_rests 7 [.ref 0, .int p1, .int p2, .int p3, .int p4] σ σ') : HCon yHr method_4_code 7 [(0, 14, 17, 13)] [.ref 0, .int p1, .int p2, .int p3, .int p4, .ref 3000] σ ov 1 σ' ov := by
  intro l D κ ρ sz hl0
  refine nl_ofWH (cc := method_4_code) (maxL := 7) (ret := some .int) (hh := [(0, 14, 17, 13)]) (by decide +kernel) rfl ?_
  intro p e s m args below meth c s₁ B hml hv
  obtain ⟨rfl, hsz, hP1, hP3, hK, hinj, hEN, hNW⟩ := hv
  subst hsz
  have hx := B.exec
  have hb := B.bytes
  have hr := B.returns
  have hlocks := B.notSynchronized
  have hts := atoms_spec (ws := Cond.codeWith yHr method_4_code 7 (some .int) [(0, 14, 17, 13)] :: GT) B.pre
  have hG : ∀ w ∈ GT, w.before ([.ref 0, .int p1, .int p2, .int p3, .int p4, .ref 3000].map (tr ρ)).toArray s = true := fun w hw => hts w (List.mem_cons_of_mem _ hw)
  have hown : s.vm.findClass RL = some m.cls := findClass_of_methodNamed B.named
  have hS : va_S (AH ρ s.heap.size) s.heap s.heap [] := va_S.rf
  have hFc : ∀ q, va_A (wsOf SHC κ ρ σ) s.heap.size q → AH ρ s.heap.size q := fun q h => by
    rcases ws_A h with ⟨k, hk, e9⟩ | h
    · exact Or.inl ⟨k, by rw [shc_len] at hk; exact hk, e9⟩
    · exact Or.inr (Or.inr h)
  have hD : va_D (fun _ => True) (wsOf SHC κ ρ σ) := ws_D (fun i j hi hj e9 => hinj i j (Or.inl (by rw [shc_len] at hi; exact hi)) (Or.inl (by rw [shc_len] at hj; exact hj)) e9) (fun _ _ => trivial)
  have hln := lv_entry ([.ref 0, .int p1, .int p2, .int p3, .int p4, .ref 3000].map (tr ρ)) (n := 7) (Nat.le_of_ble_eq_true rfl)
  rw [lg_entry_eq]
  generalize (lg_sl ([.ref 0, .int p1, .int p2, .int p3, .int p4, .ref 3000].map (tr ρ)) ++ List.replicate (7 - (lg_sl ([.ref 0, .int p1, .int p2, .int p3, .int p4, .ref 3000].map (tr ρ))).length) Slot.unset).toArray = ls at hln ⊢
  have hln : lv_has ls 7 [(0, .ref (ρ 0)), (1, .int p1), (2, .int p2), (3, .int p3), (4, .int p4), (5, .ref (ρ 3000))] := hln
  refine lv_aload hx hb (td kHr 0 rfl) (lv_at hln 5 rfl) ?_
  refine lv_iconst (v := 0) hx hb (td kHr 1 rfl) (by decide) ?_
  refine lv_aload_n hx hb (td kHr 2 rfl) rfl (lv_at hln 0 rfl) ?_
  refine lv_iload_n hx hb (td kHr 3 rfl) rfl (lv_at hln 1 rfl) ?_
  refine lv_iload_n hx hb (td kHr 4 rfl) rfl (lv_at hln 2 rfl) ?_
  refine lv_iload_n hx hb (td kHr 5 rfl) rfl (lv_at hln 3 rfl) ?_
  refine lv_iload hx hb (td kHr 6 rfl) (lv_at hln 4 rfl) ?_
  obtain ⟨m1, m2, m3, m4, m5, ⟨T0, N0, m6⟩, m7⟩ := mkX11_rests
  have hM := hcon l D κ ρ s.heap.size hl0
  have htab : c.exceptionTable.toList = [] ++ (⟨0, 14, 17, 13⟩ : ExceptionTableEntry) :: [] := vx_table (x := yHr) B (hts _ List.mem_cons_self)
  refine vx_calli (vx_runV (As := [.int p1, .int p2, .int p3, .int p4]) (rest := [.int 0, .ref (ρ 3000)]) ⟨hx, hb, hml, hown, hG⟩ hM ⟨callB_of 4 hG (gt_in m4) rfl rfl rfl (hG _ m3) (hG _ lk_L_15) m5 ⟨by decide, by decide⟩, hG _ m1, hG _ m2⟩ ⟨blT, va_recv hK hP1 m6 (ws_get sC_0), fun U hU hW => ⟨rfl, by rw [hU], by rw [hU]; exact hP1, va_K.moved hW.alike hK, hD, hEN.call hS hFc hW hU, hNW.warm hW⟩⟩ rfl rfl hln.1 rfl (lv_room (Nat.le_of_ble_eq_true rfl)) (td kHr 7 rfl) ⟨by decide, by decide⟩) hS (fun q _ h => hFc q h) hFc (fun q _ h => hFc q h) (fun E ce q9 u t H1 locs1 ht hvm hw hB hz1 hk1 hS1 hce hcv hcl => ?_) (fun r2 u t H1 locs1 ht hvm hw hB hz1 hk1 hS1 => hw.elim)
  have hw : u = σ' := hw
  obtain ⟨rfl, hP5, -⟩ := hB
  rw [ht, hw] at hP5
  have hP4 : va_P D vwCl (wO κ ρ ov) H1 := hP3.kept (fun k q hk => hk1 _ (va_at_lt (hP3 k q hk)) (fun h => by
    rcases ws_A h with ⟨i, hi, e9⟩ | h
    · rw [wO_mem hk] at e9
      rw [shc_len] at hi
      have := hinj 3000 i (Or.inr rfl) (Or.inl hi) e9
      omega
    · exact Nat.not_le.mpr (va_at_lt (hP3 k q hk)) h))
  refine vx_catch (own := RL) (name := nl_NS) hown [] _ [] htab (fun z hz => nomatch hz) (by decide) (by decide) (hG _ hl_k) (va_Nw.use (A := ([.ref 0, .int p1, .int p2, .int p3, .int p4, .ref 3000].map (tr ρ)).toArray) rfl hNW.2.2.2) hce hcv hcl ?_
  refine lv_astore (lv' := [(6, .ref q9), (0, .ref (ρ 0)), (1, .int p1), (2, .int p2), (3, .int p3), (4, .int p4), (5, .ref (ρ 3000))]) hx hb (td kHr 11 rfl) hln (by decide) rfl (fun ls hln => ?_)
  refine lv_iconst (v := 1) hx hb (td kHr 12 rfl) (by decide) ?_
  exact W.iret hx hb hr (fun t ht hW => ⟨⟨1, (), rfl, rfl, by subst ht; exact ⟨hP5, hP4⟩⟩, hS1.F ht⟩) hS1.2.2 (td kHr 13 rfl)
