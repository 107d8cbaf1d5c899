/-! a throw of NoSuchElementException with its text; its constructor links to its parent's by number 13 -/
def nl_NS : String := "java/util/NoSuchElementException"
def nl_nm : List String := ["java/lang/RuntimeException", "java/lang/Exception"]
def nl_aX : List Cond := Bundle.ownAtomsX RX11 260 nl_NS 13 prog_30_method_4_code nl_nm
def nl_at : List Cond := nl_aX.filter vx_no
/-- the words that don't go along by themselves -/
def NW (U : State) : Prop := va_Nw (.declares (Bundle.initS "java/lang/RuntimeException")) U ∧ va_Nw (.declares (Bundle.initS "java/lang/Exception")) U ∧ va_Nw (.declares (Bundle.initS Bundle.tN)) U ∧ va_Nw (.castable nl_NS nl_NS) U
theorem NW.warm {s U : State} (h : NW s) (hW : s.WarmedH U.vm) : NW U := ⟨va_Nw.warmD hW h.1, va_Nw.warmD hW h.2.1, va_Nw.warmD hW h.2.2.1, va_Nw.warmC hW h.2.2.2⟩
def nl_bw : List Cond := [.declares (Bundle.initS "java/lang/RuntimeException"), .declares (Bundle.initS "java/lang/Exception"), .declares (Bundle.initS Bundle.tN), .castable nl_NS nl_NS]
theorem nl_at_eq : nl_at = ([22, 1131, 1140, 1142, 1145, 1147, 1132, 1133, 32, 33, 1134, 1139, 1143, 1163, 1121, 1164, 1123, 1165, 1125, 1135, 1137, 1127, 1159, 1160, 1162, 1127, 1150, 1151, 1152, 1153, 1113, 1153, 1154, 1155, 1156, 1115, 1156, 1157, 1158, 1159, 1117, 1149, 1110, 1111, 1118, 1119, 1120, 1122, 1124, 1126, 1130, 1129, 1128] : List Nat).filterMap (fun i => tables_1[i]?) := by decide +kernel
theorem nl_at_ok : nl_at.all (fun w => (nl_ok w || nl_bw.contains w) && vx_ot w) = true := by decide +kernel
theorem nl_at_ot : ∀ w ∈ nl_at, vx_ot w = true := fun w hw => (Bool.and_eq_true _ _ ▸ List.all_eq_true.mp nl_at_ok w hw : _ ∧ _).2
theorem nl_at_b {args : Array Value} {s : State} (hG : ∀ w ∈ GT, w.before args s = true) (hN : NW s) : ∀ w ∈ nl_at, w.before args s = true := fun w hw => by
  have h2 := List.all_eq_true.mp nl_at_ok w hw
  rw [nl_at_eq] at hw
  obtain ⟨i, -, hi⟩ := List.mem_filterMap.mp hw
  rw [Bool.and_eq_true, Bool.or_eq_true] at h2
  rcases h2.1 with h3 | h3
  · exact hG w (gt_t i hi h3)
  · simp only [nl_bw, List.contains_eq_mem, List.mem_cons, List.not_mem_nil, or_false, decide_eq_true_eq] at h3
    rcases h3 with h3 | h3 | h3 | h3
    · rw [h3]; exact va_Nw.use (A := args) rfl hN.1
    · rw [h3]; exact va_Nw.use (A := args) rfl hN.2.1
    · rw [h3]; exact va_Nw.use (A := args) rfl hN.2.2.1
    · rw [h3]; exact va_Nw.use (A := args) rfl hN.2.2.2
theorem nl_k1 : Cond.classLink RX11 256 nl_NS ∈ GT := gt_t 1109 (by decide +kernel) (by decide)
theorem nl_k2 : Cond.initialized nl_NS ∈ GT := gt_t 25 (by decide +kernel) (by decide)
theorem nl_x0 : decode prog_30_method_4_code 0 = .ok (.aload_n 0, 1) := by decide +kernel
theorem nl_x1 : decode prog_30_method_4_code 1 = .ok (.aload_n 1, 1) := by decide +kernel
theorem nl_x2 : decode prog_30_method_4_code 2 = .ok (.invokespecial 13, 3) := by decide +kernel
theorem nl_x5 : decode prog_30_method_4_code 5 = .ok (.return_, 1) := by decide +kernel
theorem nl_fit : Bundle.fit nl_NS = true := by decide +kernel
theorem nl_fits : ∀ n ∈ nl_nm, Bundle.fit n = true := by decide +kernel
section NLT
variable {p : Program} {l : Launch} {e : Env} {R : Room} {s : State} {m : MethodId} {args : Array Value} {below : List Frame} {meth : Method} {c : Code} {V : State} {locs : List Loc} {cells slots : Nat}
set_option maxHeartbeats 4000000 in
theorem nl_ctor (X : Stand p l e R s m args below meth c V locs cells slots) (hexec : p.tables.exec = Jvm.exec) (htr : e.platform.stackTraces = false) (hown : s.vm.findClass RX11 = some m.cls)
    (h : ∀ a ∈ nl_aX, a.before args s = true) (hlocs : ∀ x ∈ locs, ∀ cell, s.heap[x.base]? = some cell → cell.vm.isStatics = false)
    {a : Addr} {cX : ClassId} {kX : Class} (hf : s.vm.findClass nl_NS = some cX) (hkX : s.vm.classes[cX]? = some kX) (hcell : V.heap[a]? = some (freshCell cX kX)) (hnew : s.heap.size ≤ a)
    {msg : Value} (hmsg : msg.isRef = true) {g : JFrame} (hg : g.method = m) (hsize : g.locals.size = c.maxLocals) (hlk : g.locked = none) (hen : g.entered = []) {rest : List Value} (hst : g.stack = msg :: .ref a :: .ref a :: rest)
    (hd6 : decode c.code g.pc = .ok (.invokespecial 260, 3)) (hd9 : decode c.code (g.pc + 3) = .ok (.athrow, 1)) (hout : ∀ x ∈ c.exceptionTable.toList, covers x (g.pc + 3) = false)
    (hRf : 5 < R.frames) (hRl : 2 * g.monitorRoom + ((Value.ref a :: rest).map fun v => v.category).sum + 81 ≤ R.locals) (hlocks : meth.locks = false) :
    ∃ U : State, Steps p.tables e below (V.setTop g) U ∧ U.status = .running ∧ Ended U below (.threw a) ∧ s.WarmedH U.vm ∧ s.sameButNew ({ U with vm := s.vm } : State) locs cells slots ∧ ∃ ce, U.heap[a]? = some ce ∧ ce.vm = .none ∧ s.vm.findClass nl_NS = some ce.cls := by
  have hpl : e.platform.magicAccessors = ({} : Platform).magicAccessors := by rw [X.admits.platform]
  have wd : ∀ x, x ∈ nl_aX → x.holds args s none s [] = true := fun x hx => h x hx
  -- the pieces of the machine's own class
  obtain ⟨T, Z0, L, -, Y⟩ := ThrowableC.of_atoms (args := args) (s := s) (pl := e.platform) (by rw [X.admits.platform]) (by rw [X.admits.platform]) hpl (fun x hx => h x (by simp [nl_aX, Bundle.ownAtomsX, hx]))
  obtain ⟨Z, M, LZ, LM, hnZ⟩ := Init0T.ofS_atoms (args := args) hpl L Y (fun x hx => h x (by simp [nl_aX, Bundle.ownAtomsX, hx]))
  obtain ⟨P1, Ps, hlen, L1, hL, hP1, k1, k2⟩ := Bundle.chainSX (args := args) hpl hnZ nl_x0 nl_x1 nl_x2 nl_x5 nl_nm nl_NS nl_fit nl_fits (fun x hx => h x (by simp [nl_aX, Bundle.ownAtomsX, hx]))
  have hfd : s.vm.findClass nl_NS = some P1.m.cls := findClass_of_methodNamed hP1
  cases Option.some.inj (hf.symm.trans hfd)
  obtain ⟨c1, kX', hc1, hk, hord, -, -, hn6⟩ := Cond.instantiable_spec (wd (.instantiable nl_NS 6) (by simp [nl_aX, Bundle.ownAtomsX]))
  cases Option.some.inj (hc1.symm.trans hfd)
  cases Option.some.inj (hkX.symm.trans hk)
  have sel : ∀ (y : MethodName) (i : MethodId), s.methodNamed? y = some i → y.cls ≠ "java/lang/invoke/MethodHandle" ∧ y.cls ≠ "java/lang/invoke/VarHandle" → Cond.selects nl_NS y y ∈ nl_aX → selectMethod e.platform s.vm P1.m.cls i = .method i := fun y i hy hn hm => by
    obtain ⟨c2, r2, m2, q1, q2, q3, q4, -⟩ := Cond.selects_spec (wd _ hm)
    cases Option.some.inj (q1.symm.trans hfd)
    cases Option.some.inj (q2.symm.trans (State.methodFound?_of_named hy hn))
    cases Option.some.inj (q3.symm.trans hy)
    rw [Launch.admits_selectMethod X.admits]; exact q4
  have s0 := sel Bundle.tFill0 T.fill0 Y.fill0 (by decide) (by simp [nl_aX, Bundle.ownAtomsX])
  have s1 := sel Bundle.tFill T.fill Y.fill (by decide) (by simp [nl_aX, Bundle.ownAtomsX])
  obtain ⟨cS0, hcS0, his⟩ := Y.statics
  obtain ⟨u0, hu0⟩ := Cond.staticRefV Y.unassigned L.unassignedStatic L.statics hcS0 his (wd (.isRef (.static Bundle.tN "UNASSIGNED_STACK" Bundle.steD)) (by simp [nl_aX, Bundle.ownAtomsX]))
  obtain ⟨sn, hsn⟩ := Cond.staticRefV Y.sentinel L.sentinelStatic L.statics hcS0 his (wd (.isRef (.static Bundle.tN "SUPPRESSED_SENTINEL" Bundle.listD)) (by simp [nl_aX, Bundle.ownAtomsX]))
  obtain ⟨ci, i8, fB, hk8, hg8, ha8, hsB, -, hnB, htB, hffB⟩ := Cond.ownField (t := .object "java/lang/Object") Y.found L.cls (by decide +kernel) (wd (.fieldLink Bundle.tN 198 Bundle.tN "backtrace" "Ljava/lang/Object;") (by simp [nl_aX, Bundle.ownAtomsX])) (wd (.lays Bundle.tN Bundle.tN "backtrace" "Ljava/lang/Object;") (by simp [nl_aX, Bundle.ownAtomsX])) e.platform hpl
  obtain ⟨cS, hcS, heS, -, hkeep⟩ := X.same.2.2.2.2.2 T.aS cS0 hcS0
  have hno : ∀ i, (⟨T.aS, i⟩ : Loc) ∉ locs := fun i hm => by
    have := hlocs _ hm cS0 hcS0
    rw [his] at this; cases this
  have hkn : cS.vm ≠ .unknown := by
    rw [heS]; intro hu
    rw [show cS0.vm = .unknown from hu] at his
    cases his
  have hne : T.aS ≠ a := Nat.ne_of_lt (Nat.lt_of_lt_of_le (Array.getElem?_eq_some_iff.mp hcS0).1 hnew)
  -- its slots
  obtain ⟨iM, hffM⟩ := Y.msg
  obtain ⟨tC, dC, hdC, hdnC⟩ := Cond.laysAt hfd hk Y.cause (wd (.lays nl_NS Bundle.tN "cause" "Ljava/lang/Throwable;") (by simp [nl_aX, Bundle.ownAtomsX]))
  obtain ⟨tS, dS, hdS, hdnS⟩ := Cond.laysAt hfd hk Y.stack (wd (.lays nl_NS Bundle.tN "stackTrace" Bundle.steD) (by simp [nl_aX, Bundle.ownAtomsX]))
  obtain ⟨tP, dP, hdP, hdnP⟩ := Cond.laysAt hfd hk Y.supp (wd (.lays nl_NS Bundle.tN "suppressedExceptions" Bundle.listD) (by simp [nl_aX, Bundle.ownAtomsX]))
  obtain ⟨tM, dM, hdM, hdnM⟩ := Cond.laysAt hfd hk hffM (wd (.lays nl_NS Bundle.tN "detailMessage" "Ljava/lang/String;") (by simp [nl_aX, Bundle.ownAtomsX]))
  obtain ⟨tB, dB, hdB, hdnB⟩ := Cond.laysAt hfd hk hffB (wd (.lays nl_NS Bundle.tN "backtrace" "Ljava/lang/Object;") (by simp [nl_aX, Bundle.ownAtomsX]))
  have bC := Cond.laysApart hdB hdC hdnB hdnC (by rw [hnB, Y.causeName]; decide)
  have bS := Cond.laysApart hdB hdS hdnB hdnS (by rw [hnB, Y.stackName]; decide)
  have bP := Cond.laysApart hdB hdP hdnB hdnP (by rw [hnB, Y.suppName]; decide)
  have hsk : SkipFacts T e.platform s (fun u => u) u0 ((preparedCellV T.toThrowableT (freshCell P1.m.cls kX) a u0 sn).withEntry V.cur) :=
    ⟨{ ci198 := ci, i198 := i8, fBack := fB }, ⟨hk8, hg8, ha8, hsB⟩, by
      have := fresh_default (c := P1.m.cls) tB
      rw [htB] at this
      simpa [preparedCellV, Cell.setSlot, Cell.withEntry, Array.getElem?_setIfInBounds, bC, bS, bP, bC.symm, bS.symm, bP.symm, defaultValue] using this, fun _ _ => rfl⟩
  -- the walk
  obtain ⟨tm, mC, cC, kC, vm1, hnC, -, -, -, -, -, -, -, hW1, st1⟩ := Steps.initColdS (tb := p.tables) (e := e) (below := below) (s := s) (U := V) X.here hexec X.warmed hpl hown (t := Bundle.initS nl_NS) rfl rfl (Bundle.fit_spec nl_fit).2
    (wd (.methodLink RX11 260 (Bundle.initS nl_NS)) (by simp [nl_aX, Bundle.ownAtomsX])) (h (.instanceMethod (Bundle.initS nl_NS)) (by simp [nl_aX, nl_nm, Bundle.ownAtomsX, Bundle.chainSAtomsX, Bundle.passSAtoms])) (bytes := prog_30_method_4_code) (maxL := 2) (h (.code (Bundle.initS nl_NS) prog_30_method_4_code 2 none) (by simp [nl_aX, nl_nm, Bundle.ownAtomsX, Bundle.chainSAtomsX, Bundle.passSAtoms]))
    (f := g) hg (a := a) (msg := msg) (rest := .ref a :: rest) hst hd6
  cases Option.some.inj (hnC.symm.trans hP1)
  have X1 := X.noted hW1
  obtain ⟨vm2, X2, st2⟩ := X1.ctorMessageOffV hexec (g := { g with stack := .ref a :: rest }) hg hsize T L Z LZ M LM (P1 :: Ps)
    (fun P hP => by rcases List.mem_cons.mp hP with rfl | hP; exact L1; exact hL P hP) ⟨k1, k2⟩ (u0 := u0) (sen := sn) (self := a) hmsg (cell := freshCell P1.m.cls kX) (cellS := cS)
    hcell (fun _ => by simp) (by simp) rfl rfl s0 s1 hcS hne hkn (by rw [hkeep _ (hno _)]; exact hu0) (by rw [hkeep _ (hno _)]; exact hsn)
    (Takes.of_laid hk hord tC (by rw [Y.causeType]; rfl)) (Takes.of_laid hk hord tS (by rw [Y.stackType]; exact fits_refV_array _ u0)) (Takes.of_laid hk hord tP (by rw [Y.suppType]; exact fits_refV_object _ sn))
    (Takes.of_laid hk hord tM (by rw [Y.msgType]; exact fits_refV_object _ ⟨msg, hmsg⟩)) Y.objLocals hsk htr [] hd6
    (by simp only [List.length_cons, hlen, nl_nm, List.length_nil]; omega) (by simp only [List.length_cons, hlen, nl_nm, List.length_nil]; exact hRl)
  obtain ⟨hwalk, hrun, hend, hWU, hsame⟩ := X2.athrowLeaves hexec (g := { g with stack := .ref a :: rest, pc := g.pc + 3 }) hg hlk hen hout (a := a) (rest := rest) rfl hd9
  have hlt : a < ((V.setVm vm1).setVm vm2).heap.size := (Array.getElem?_eq_some_iff.mp hcell).1
  have hU := heapAt_setCell_self (s := (V.setVm vm1).setVm vm2) (plainBareV T.toThrowableT (freshCell P1.m.cls kX) a u0 sn msg) hlt
  refine ⟨_, st1 _ (fun acts => ?_), hrun, hend, hWU, hsame.weaken (fun y hy hlt' => ?_) (Nat.le_refl _) (Nat.le_refl _), _, hU, rfl, hfd⟩
  · rw [doInvoke_state]
    exact st2 _ hwalk
  · rcases List.mem_append.mp hy with q | q
    · exact q
    · exfalso
      have hb : y.base = a := by
        simp only [List.mem_cons, List.not_mem_nil, or_false] at q
        rcases q with rfl | rfl | rfl | rfl | rfl <;> rfl
      rw [hb] at hlt'
      exact Nat.not_lt.mpr hnew hlt'
end NLT
