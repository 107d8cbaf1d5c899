def isStr (a : Nat) : Bool := ([1000000, 1000002] : List Nat).contains a
def isSB (a : Nat) : Bool := ([1000001, 1000003] : List Nat).contains a
/-- a text's length, its bytes, by the address of its bytes -/
def strN (b : Nat) : Nat := sLen.getD ((b - 1000001) / 2) 0
def strB (b j : Nat) : Int32 := (sByt.getD ((b - 1000001) / 2) []).getD j 0
def MkJ (y : MethodName) (cc : ByteArray) (nL : Nat) (ret : Option FieldType) (n : Nat) : Prop := y.cls = "java/lang/String" ∧ Cond.instanceMethod y ∈ GT ∧ Cond.selects y.cls y y ∈ GT ∧ Cond.initialized y.cls ∈ GT ∧ Cond.code y cc nL ret ∈ GT ∧ (y.cls ≠ "java/lang/invoke/MethodHandle" ∧ y.cls ≠ "java/lang/invoke/VarHandle" ∧ (parseMethodDescriptor y.desc).map (fun d => d.parameters.length) = some n) ∧ 19 + nL ≤ 48
theorem isStr_at {a : Nat} (h : isStr a = true) : ∃ i, i < 2 ∧ a = 1000000 + 2 * i := by
  have h : a ∈ ([1000000, 1000002] : List Nat) := List.contains_iff_mem.mp h
  simp only [List.mem_cons, List.not_mem_nil, or_false] at h
  rcases h with rfl | rfl
  · exact ⟨0, by decide, rfl⟩
  · exact ⟨1, by decide, rfl⟩
theorem isSB_at {a : Nat} (h : isSB a = true) : ∃ i, i < 2 ∧ a = 1000001 + 2 * i ∧ strN a = sLen.getD i 0 ∧ ∀ j, strB a j = (sByt.getD i []).getD j 0 := by
  have h : a ∈ ([1000001, 1000003] : List Nat) := List.contains_iff_mem.mp h
  simp only [List.mem_cons, List.not_mem_nil, or_false] at h
  rcases h with rfl | rfl
  · exact ⟨0, by decide, rfl, rfl, fun _ => rfl⟩
  · exact ⟨1, by decide, rfl, rfl, fun _ => rfl⟩
section XJ
variable {T : Type} {wf : (FieldType → ClassId) → (Nat → Nat) → T → va_W} {own : String} {cc cc' : ByteArray} {nL nL' : Nat} {ret : Option FieldType} {d d' g : Nat} {pc : Nat} {L : List (Nat × Value)} {st stk As : List Value} {σ : T} {E : Option (Int32 × T)} {index a b n : Nat} {ty : FieldType} {y : MethodName}
theorem X_sval (h : isStr a = true) (hlink : Cond.fieldLink own index "java/lang/String" "value" "[B" ∈ GT) (hd : decode cc pc = .ok (.getfield index, 3)) (kk : X wf own cc nL ret d g (pc + 3) L (.ref (a + 1) :: st) σ E) : X wf own cc nL ret d g pc L (.ref a :: st) σ E := by
  obtain ⟨i, hi, rfl⟩ := isStr_at h
  intro D κ ρ A p l e R s m args below meth c hC H locs cells slots Z ls r τ hcs hR hl hE hZ
  obtain ⟨hx, hb, -, hml, hown, hts, -, hfr, hlo, hK, hA, hEN⟩ := id hC
  refine vk_getf hx hb (hEN.1.1 i hi).2.2.1 hR.2.2 hown (hts _ hlink) (fun _ h => h) hd ?_
  have := kk D κ ρ A p l e R s m args below meth c hC H locs cells slots Z ls r τ hcs hR hl hE hZ
  rw [show 1000000 + 2 * i + 1 = 1000001 + 2 * i by omega] at this
  exact this
theorem X_scod (h : isStr a = true) (hlink : Cond.fieldLink own index "java/lang/String" "coder" "B" ∈ GT) (hd : decode cc pc = .ok (.getfield index, 3)) (kk : X wf own cc nL ret d g (pc + 3) L (.int 0 :: st) σ E) : X wf own cc nL ret d g pc L (.ref a :: st) σ E := by
  obtain ⟨i, hi, rfl⟩ := isStr_at h
  intro D κ ρ A p l e R s m args below meth c hC H locs cells slots Z ls r τ hcs hR hl hE hZ
  obtain ⟨hx, hb, -, hml, hown, hts, -, hfr, hlo, hK, hA, hEN⟩ := id hC
  exact vk_getf hx hb (hEN.1.1 i hi).2.1 hR.2.2 hown (hts _ hlink) (fun _ h => h) hd (kk D κ ρ A p l e R s m args below meth c hC H locs cells slots Z ls r τ hcs hR hl hE hZ)
theorem X_cmpS (hlink : Cond.fieldLink own index "java/lang/String" "COMPACT_STRINGS" "Z" ∈ GT) (hd : decode cc pc = .ok (.getstatic index, 3)) (kk : X wf own cc nL ret d g (pc + 3) L (.int 1 :: st) σ E) : X wf own cc nL ret d g pc L st σ E := by
  intro D κ ρ A p l e R s m args below meth c hC H locs cells slots Z ls r τ hcs hR hl hE hZ
  obtain ⟨hx, hb, -, hml, hown, hts, -, hfr, hlo, hK, hA, hEN⟩ := id hC
  exact va_gets hx hb hEN.2.2.2.1 hR.2.2 hown (hts _ hlink) (fun _ h => h) hd (kk D κ ρ A p l e R s m args below meth c hC H locs cells slots Z ls r τ hcs hR hl hE hZ)
theorem X_fmt (hlink : Cond.fieldLink own index "jdk/internal/util/Preconditions" "SIOOBE_FORMATTER" "Ljava/util/function/BiFunction;" ∈ GT) (hd : decode cc pc = .ok (.getstatic index, 3)) (kk : ∀ v : Value, v.category = 1 → X wf own cc nL ret d g (pc + 3) L (v :: st) σ E) : X wf own cc nL ret d g pc L st σ E := by
  intro D κ ρ A p l e R s m args below meth c hC H locs cells slots Z ls r τ hcs hR hl hE hZ
  obtain ⟨hx, hb, -, hml, hown, hts, -, hfr, hlo, hK, hA, hEN⟩ := id hC
  obtain ⟨-, -, -, -, -, -, -, -, -, h10⟩ := id hEN
  rcases h10 with h | h
  · exact va_gets hx hb h hR.2.2 hown (hts _ hlink) (fun _ h => h) hd (kk .null rfl D κ ρ A p l e R s m args below meth c hC H locs cells slots Z ls r τ hcs hR hl hE hZ)
  · exact va_gets hx hb h hR.2.2 hown (hts _ hlink) (fun _ h => h) hd (kk (.ref 1000010) rfl D κ ρ A p l e R s m args below meth c hC H locs cells slots Z ls r τ hcs hR hl hE hZ)
theorem X_slen {v : Int32} (h : isSB b = true) (hv : Int32.ofNat (strN b) = v) (hd : decode cc pc = .ok (.arraylength, 1)) (kk : X wf own cc nL ret d g (pc + 1) L (.int v :: st) σ E) : X wf own cc nL ret d g pc L (.ref b :: st) σ E := by
  obtain ⟨i, hi, rfl, e1, e2⟩ := isSB_at h
  intro D κ ρ A p l e R s m args below meth c hC H locs cells slots Z ls r τ hcs hR hl hE hZ
  obtain ⟨hx, hb, -, hml, hown, hts, -, hfr, hlo, hK, hA, hEN⟩ := id hC
  exact va_tlen hx hb (hEN.1.1 i hi).2.2.2 hR.2.2 (by rw [← e1]; exact hv) hd (kk D κ ρ A p l e R s m args below meth c hC H locs cells slots Z ls r τ hcs hR hl hE hZ)
theorem X_sbld {j : Int32} (h : isSB b = true) (hd : decode cc pc = .ok (.baload, 1)) (kk : X wf own cc nL ret d g (pc + 1) L (.int (strB b j.toNatClampNeg) :: st) σ E) : X wf own cc nL ret d g pc L (.int j :: .ref b :: st) σ (ck (inb j (strN b)) E) := by
  refine X_ck (fun hi9 => ?_)
  obtain ⟨i, hi, rfl, e1, e2⟩ := isSB_at h
  intro D κ ρ A p l e R s m args below meth c hC H locs cells slots Z ls r τ hcs hR hl hE hZ
  obtain ⟨hx, hb, -, hml, hown, hts, -, hfr, hlo, hK, hA, hEN⟩ := id hC
  have h9 := inb_in hi9
  rw [e1] at h9
  exact va_tb hx hb (hEN.1.1 i hi).2.2.2 hR.2.2 h9 (by rw [← e2]; rfl) hd (kk D κ ρ A p l e R s m args below meth c hC H locs cells slots Z ls r τ hcs hR hl hE hZ)
theorem X_ldcS (hown9 : own = RX8) (hd : decode cc pc = .ok (.ldc 58, 2)) (kk : X wf own cc nL ret d g (pc + 2) L (.ref 1000002 :: st) σ E) : X wf own cc nL ret d g pc L st σ E := by
  intro D κ ρ A p l e R s m args below meth c hC H locs cells slots Z ls r τ hcs hR hl hE hZ
  obtain ⟨hx, hb, -, hml, hown, hts, -, hfr, hlo, hK, hA, hEN⟩ := id hC
  exact va_ldcS hx hb (own := RX8) (by rw [← hown9]; exact hown) hEN.2.2.1 hd (kk D κ ρ A p l e R s m args below meth c hC H locs cells slots Z ls r τ hcs hR hl hE hZ)
theorem X_ldcW (hown9 : own = RX8) (hd : decode cc pc = .ok (.ldc 19, 2)) (kk : X wf own cc nL ret d g (pc + 2) L (.ref 1000000 :: st) σ E) : X wf own cc nL ret d g pc L st σ E := by
  intro D κ ρ A p l e R s m args below meth c hC H locs cells slots Z ls r τ hcs hR hl hE hZ
  obtain ⟨hx, hb, -, hml, hown, hts, -, hfr, hlo, hK, hA, hEN⟩ := id hC
  exact va_ldcS hx hb (own := RX8) (by rw [← hown9]; exact hown) hEN.2.1 hd (kk D κ ρ A p l e R s m args below meth c hC H locs cells slots Z ls r τ hcs hR hl hE hZ)
theorem X_callj {Ef : Option (Int32 × T)} {F : Int32 → T → Option (Int32 × T)} (hp : ∀ r τ, Ef = some (r, τ) → τ = σ) (hs : isStr b = true) (hcon : Con wf y cc' nL' (some ty) d' (.ref b :: As) σ Ef) (mk : MkJ y cc' nL' (some ty) n) (hlink : Cond.methodLink own index y ∈ GT) (hdd : d' + 1 ≤ d) (hn : As.length = n) (hst : stk = As.reverse ++ .ref b :: st) (hsum : (st.map fun v => v.category).sum ≤ 8) (hd : decode cc pc = .ok (.invokevirtual index, 3)) (kk : ∀ r, narrow ty (.int r) = .int r → X wf own cc nL ret d g (pc + 3) L (.int r :: st) σ (F r σ)) : X wf own cc nL ret d g pc L stk σ (cl Ef F) := by
  obtain ⟨i, hi, rfl⟩ := isStr_at hs
  intro D κ ρ A p l e R s m args below meth c hC H locs cells slots Z ls rr τ hcs hR hl hE hZ
  obtain ⟨hx, hb, -, hml, hown, hts, -, hfr, hlo, hK, hA, hEN⟩ := id hC
  obtain ⟨hP, hD, hS⟩ := id hR
  obtain ⟨m0, m1, m2, m3, m4, m5, m7⟩ := mk
  cases hEf : Ef with
  | none => rw [hEf] at hE; cases hE
  | some q =>
    obtain ⟨r1, τ1⟩ := q
    rw [hEf] at hE
    have hE : F r1 τ1 = some (rr, τ) := hE
    have hM := hcon l D κ ρ H.size r1 τ1 hEf
    have e9 := hp r1 τ1 hEf
    subst e9
    have hFc : ∀ q, va_A (wf κ ρ τ1) H.size q → A q := fun q h => by
      rcases h with ⟨k, e9, hk⟩ | h
      · exact hD.2 k _ hk
      · exact hA q (Nat.le_trans hS.1 h)
    subst hst
    refine va_calli (va_runV (C := y.cls) (As := As.map (tr ρ)) (rest := st.map (tr ρ)) ⟨hx, hb, hml, hown, hts⟩ hM ⟨callB_of n hts (gt_in m4) rfl rfl rfl (hts _ m3) (hts _ hlink) m5 ⟨by show d' + 1 ≤ _; omega, by show 8 + (nL' + 11) + 48 * d' ≤ _; omega⟩, hts _ m1, hts _ m2⟩ ⟨nl_blind, by rw [m0]; exact vk_recv (adK := fun i => ρ (1000000 + 2 * i)) (i := i) hEN.1 hi hS, fun U hU hW => ⟨rfl, by rw [hU], by rw [hU]; exact hP, va_K.moved hW.alike hK, hD.weaken (fun _ _ _ _ => trivial), hEN.call hS hFc hW hU⟩⟩ rfl (by rw [List.length_map]; exact hn) hl.1 (by simp [tr]) (by show 2 * 0 + _ ≤ 8; rw [tr_sum]; omega) hd ⟨by omega, by omega⟩) hS (fun q _ h => hFc q h) hFc (fun r2 u t H1 locs1 ht hvm hw hB hz1 hk1 hS1 => ?_)
    obtain ⟨rfl, rfl, hnr⟩ := hw
    rw [ht] at hB
    exact kk r2 hnr D κ ρ A p l e R s m args below meth c hC H1 locs1 cells slots Z ls rr τ hcs ⟨hB.1, hB.2.weaken (fun k q hk h => hFc q.1 h), hS1⟩ hl hE hZ
theorem X_callsvp {Ef : Option (Int32 × T)} {F : Int32 → T → Option (Int32 × T)} (hp : ∀ r τ, Ef = some (r, τ) → τ = σ) (hcon : Con wf y cc' nL' none d' As σ Ef) (mk : MkS y cc' nL' none n) (hlink : Cond.methodLink own index y ∈ GT) (hdd : d' + 1 ≤ d) (hn : As.length = n) (hst : stk = As.reverse ++ st) (hsum : (st.map fun v => v.category).sum ≤ 8) (hd : decode cc pc = .ok (.invokestatic index, 3)) (kk : ∀ r, X wf own cc nL ret d g (pc + 3) L st σ (F r σ)) : X wf own cc nL ret d g pc L stk σ (cl Ef F) :=
  X_callsv hcon mk hlink hdd hn hst hsum hd (fun r τ he => by have e := hp r τ he; subst e; exact kk r)
end XJ
theorem jf_9 : Cond.fieldLink RJ0 9 "java/lang/String" "value" "[B" ∈ GT := gt_8 (List.mem_of_getElem? (i := 190) rfl) rfl
theorem jf_15 : Cond.fieldLink RJ0 15 "java/lang/String" "coder" "B" ∈ GT := gt_8 (List.mem_of_getElem? (i := 191) rfl) rfl
theorem jf_38 : Cond.fieldLink RJ0 38 "java/lang/String" "COMPACT_STRINGS" "Z" ∈ GT := gt_1 (List.mem_of_getElem? (i := 72) rfl) rfl
theorem jf_1053 : Cond.fieldLink RJ0 1053 "jdk/internal/util/Preconditions" "SIOOBE_FORMATTER" "Ljava/util/function/BiFunction;" ∈ GT := gt_1 (List.mem_of_getElem? (i := 88) rfl) rfl
theorem mkJ0_coder_7d493 : MkJ yJ0_coder_7d493 cJ0_coder_7d493 1 (some .byte) 0 := ⟨rfl, gt_1 (List.mem_of_getElem? (i := 69) rfl) rfl, gt_1 (List.mem_of_getElem? (i := 70) rfl) rfl, gt_1 (List.mem_of_getElem? (i := 5) rfl) rfl, gt_1 (List.mem_of_getElem? (i := 71) rfl) rfl, ⟨by decide +kernel, by decide +kernel, by decide +kernel⟩, by decide⟩
theorem mkJ0_isLatin1_aae02 : MkJ yJ0_isLatin1_aae02 cJ0_isLatin1_aae02 1 (some .boolean) 0 := ⟨rfl, gt_1 (List.mem_of_getElem? (i := 79) rfl) rfl, gt_1 (List.mem_of_getElem? (i := 80) rfl) rfl, gt_1 (List.mem_of_getElem? (i := 5) rfl) rfl, gt_1 (List.mem_of_getElem? (i := 81) rfl) rfl, ⟨by decide +kernel, by decide +kernel, by decide +kernel⟩, by decide⟩
theorem mkJ0_length_8abf5 : MkJ yJ0_length_8abf5 cJ0_length_8abf5 1 (some .int) 0 := ⟨rfl, gt_1 (List.mem_of_getElem? (i := 65) rfl) rfl, gt_1 (List.mem_of_getElem? (i := 66) rfl) rfl, gt_1 (List.mem_of_getElem? (i := 5) rfl) rfl, gt_1 (List.mem_of_getElem? (i := 67) rfl) rfl, ⟨by decide +kernel, by decide +kernel, by decide +kernel⟩, by decide⟩
theorem mkJ1_canEncode_9a6ad : MkS yJ1_canEncode_9a6ad cJ1_canEncode_9a6ad 1 (some .boolean) 1 := ⟨gt_3 (List.mem_of_getElem? (i := 34) rfl) rfl, gt_1 (List.mem_of_getElem? (i := 6) rfl) rfl, gt_3 (List.mem_of_getElem? (i := 35) rfl) rfl, ⟨by decide +kernel, by decide +kernel, by decide +kernel⟩, by decide⟩
theorem mkJ1_indexOfChar_4cfef : MkS yJ1_indexOfChar_4cfef cJ1_indexOfChar_4cfef 6 (some .int) 4 := ⟨gt_3 (List.mem_of_getElem? (i := 43) rfl) rfl, gt_1 (List.mem_of_getElem? (i := 6) rfl) rfl, gt_3 (List.mem_of_getElem? (i := 44) rfl) rfl, ⟨by decide +kernel, by decide +kernel, by decide +kernel⟩, by decide⟩
theorem mkJ1_indexOf_4cfef : MkS yJ1_indexOf_4cfef cJ1_indexOf_4cfef 4 (some .int) 4 := ⟨gt_3 (List.mem_of_getElem? (i := 31) rfl) rfl, gt_1 (List.mem_of_getElem? (i := 6) rfl) rfl, gt_3 (List.mem_of_getElem? (i := 32) rfl) rfl, ⟨by decide +kernel, by decide +kernel, by decide +kernel⟩, by decide⟩
theorem mkJ0_indexOf_7cf53 : MkJ yJ0_indexOf_7cf53 cJ0_indexOf_7cf53 3 (some .int) 2 := ⟨rfl, gt_3 (List.mem_of_getElem? (i := 26) rfl) rfl, gt_3 (List.mem_of_getElem? (i := 27) rfl) rfl, gt_1 (List.mem_of_getElem? (i := 5) rfl) rfl, gt_3 (List.mem_of_getElem? (i := 28) rfl) rfl, ⟨by decide +kernel, by decide +kernel, by decide +kernel⟩, by decide⟩
theorem mkJ0_indexOf_0f7a4 : MkJ yJ0_indexOf_0f7a4 cJ0_indexOf_0f7a4 2 (some .int) 1 := ⟨rfl, gt_3 (List.mem_of_getElem? (i := 22) rfl) rfl, gt_3 (List.mem_of_getElem? (i := 23) rfl) rfl, gt_1 (List.mem_of_getElem? (i := 5) rfl) rfl, gt_3 (List.mem_of_getElem? (i := 24) rfl) rfl, ⟨by decide +kernel, by decide +kernel, by decide +kernel⟩, by decide⟩
theorem mkJ3_checkIndex_8e157 : MkS yJ3_checkIndex_8e157 cJ3_checkIndex_8e157 3 (some .int) 3 := ⟨gt_1 (List.mem_of_getElem? (i := 91) rfl) rfl, gt_1 (List.mem_of_getElem? (i := 7) rfl) rfl, gt_1 (List.mem_of_getElem? (i := 92) rfl) rfl, ⟨by decide +kernel, by decide +kernel, by decide +kernel⟩, by decide⟩
theorem mkJ0_checkIndex_df160 : MkS yJ0_checkIndex_df160 cJ0_checkIndex_df160 2 none 2 := ⟨gt_1 (List.mem_of_getElem? (i := 86) rfl) rfl, gt_1 (List.mem_of_getElem? (i := 5) rfl) rfl, gt_1 (List.mem_of_getElem? (i := 87) rfl) rfl, ⟨by decide +kernel, by decide +kernel, by decide +kernel⟩, by decide⟩
theorem mkJ1_charAt_3b067 : MkS yJ1_charAt_3b067 cJ1_charAt_3b067 2 (some .char) 2 := ⟨gt_1 (List.mem_of_getElem? (i := 83) rfl) rfl, gt_1 (List.mem_of_getElem? (i := 6) rfl) rfl, gt_1 (List.mem_of_getElem? (i := 84) rfl) rfl, ⟨by decide +kernel, by decide +kernel, by decide +kernel⟩, by decide⟩
theorem mkJ0_charAt_5068e : MkJ yJ0_charAt_5068e cJ0_charAt_5068e 2 (some .char) 1 := ⟨rfl, gt_1 (List.mem_of_getElem? (i := 75) rfl) rfl, gt_1 (List.mem_of_getElem? (i := 76) rfl) rfl, gt_1 (List.mem_of_getElem? (i := 5) rfl) rfl, gt_1 (List.mem_of_getElem? (i := 77) rfl) rfl, ⟨by decide +kernel, by decide +kernel, by decide +kernel⟩, by decide⟩
theorem lk_J0_335 : Cond.methodLink RJ0 335 yJ0_coder_7d493 ∈ GT := gt_1 (List.mem_of_getElem? (i := 68) rfl) rfl
theorem lk_J0_492 : Cond.methodLink RJ0 492 yJ0_isLatin1_aae02 ∈ GT := gt_1 (List.mem_of_getElem? (i := 78) rfl) rfl
theorem lk_J0_495 : Cond.methodLink RJ0 495 yJ1_charAt_3b067 ∈ GT := gt_1 (List.mem_of_getElem? (i := 82) rfl) rfl
theorem lk_J1_9 : Cond.methodLink RJ1 9 yJ0_checkIndex_df160 ∈ GT := gt_1 (List.mem_of_getElem? (i := 85) rfl) rfl
theorem lk_J0_1059 : Cond.methodLink RJ0 1059 yJ3_checkIndex_8e157 ∈ GT := gt_1 (List.mem_of_getElem? (i := 90) rfl) rfl
theorem lk_J2_414 : Cond.methodLink RJ2 414 yJ0_checkIndex_df160 ∈ GT := gt_1 (List.mem_of_getElem? (i := 102) rfl) rfl
theorem lk_J0_633 : Cond.methodLink RJ0 633 yJ0_indexOf_7cf53 ∈ GT := gt_3 (List.mem_of_getElem? (i := 25) rfl) rfl
theorem lk_J0_505 : Cond.methodLink RJ0 505 yJ0_length_8abf5 ∈ GT := gt_3 (List.mem_of_getElem? (i := 29) rfl) rfl
theorem lk_J0_637 : Cond.methodLink RJ0 637 yJ1_indexOf_4cfef ∈ GT := gt_3 (List.mem_of_getElem? (i := 30) rfl) rfl
theorem lk_J1_88 : Cond.methodLink RJ1 88 yJ1_canEncode_9a6ad ∈ GT := gt_3 (List.mem_of_getElem? (i := 33) rfl) rfl
theorem lk_J1_95 : Cond.methodLink RJ1 95 yJ1_indexOfChar_4cfef ∈ GT := gt_3 (List.mem_of_getElem? (i := 42) rfl) rfl
theorem isSB_1 {a : Nat} (h : isStr a = true) : isSB (a + 1) = true := by
  obtain ⟨i, hi, rfl⟩ := isStr_at h
  rcases (show i = 0 ∨ i = 1 by omega) with rfl | rfl <;> rfl
theorem lm_J1_92 : Cond.methodLink RJ1 92 Lib.Math.max.name ∈ GT := gt_3 (List.mem_of_getElem? (i := 36) rfl) rfl
theorem lm_J1_38 : Cond.methodLink RJ1 38 Lib.Math.min.name ∈ GT := gt_3 (List.mem_of_getElem? (i := 39) rfl) rfl
def f_J0_coder_7d493 {T : Type} (a0 : Nat) (σ : T) : Option (Int32 × T) := ck (isStr a0) ((if (1 : Int32) = 0 then some ((1 : Int32), σ) else some ((0 : Int32), σ)))
set_option maxHeartbeats 4000000 in
set_option maxRecDepth 100000 in
theorem x_J0_coder_7d493 {T : Type} {wf : (FieldType → ClassId) → (Nat → Nat) → T → va_W} (a0 : Nat) (σ : T) : Con wf yJ0_coder_7d493 cJ0_coder_7d493 1 (some .byte) 1 [.ref a0] σ (f_J0_coder_7d493 a0 σ) := by
  refine Con.of_X (by decide +kernel) (Nat.le_of_ble_eq_true rfl) ?_
  unfold f_J0_coder_7d493
  show X wf RJ0 cJ0_coder_7d493 1 (some .byte) 1 0 0 [(0, .ref a0)] [] σ _
  refine X_ck (fun a0_h => ?_)
  refine X_cmpS (pc := 0) jf_38 (td kJ0_coder_7d493 0 rfl) ?_
  refine X_if_eq (pc := 3) (tgt := 13) (td kJ0_coder_7d493 1 rfl) (by decide) (fun c_3 => ?_) (fun c_3 => ?_)
  · refine X_iconst (v := (1 : Int32)) (pc := 13) (td kJ0_coder_7d493 5 rfl) (by decide) ?_
    exact X_ret (pc := 14) (td kJ0_coder_7d493 6 rfl) rfl
  · refine X_aload_n (pc := 6) (td kJ0_coder_7d493 2 rfl) rfl 0 rfl ?_
    refine X_scod (pc := 7) a0_h jf_15 (td kJ0_coder_7d493 3 rfl) ?_
    refine X_goto (pc := 10) (tgt := 14) (td kJ0_coder_7d493 4 rfl) (by decide) ?_
    exact X_ret (pc := 14) (td kJ0_coder_7d493 6 rfl) rfl
set_option maxHeartbeats 4000000 in
theorem p_J0_coder_7d493 {T : Type} (a0 : Nat) (σ : T) : Pu σ (f_J0_coder_7d493 a0 σ) := by
  unfold f_J0_coder_7d493
  refine Pu_ck ?_
  refine Pu_if ?_ ?_
  · exact Pu_some
  · exact Pu_some
def f_J0_isLatin1_aae02 {T : Type} (a0 : Nat) (σ : T) : Option (Int32 × T) := ck (isStr a0) (jn (some ((0 : Int32), σ)) (fun k17 => (if (1 : Int32) = 0 then k17 else (if (0 : Int32) = 0 then some ((1 : Int32), σ) else k17))))
set_option maxHeartbeats 4000000 in
set_option maxRecDepth 100000 in
theorem x_J0_isLatin1_aae02 {T : Type} {wf : (FieldType → ClassId) → (Nat → Nat) → T → va_W} (a0 : Nat) (σ : T) : Con wf yJ0_isLatin1_aae02 cJ0_isLatin1_aae02 1 (some .boolean) 1 [.ref a0] σ (f_J0_isLatin1_aae02 a0 σ) := by
  refine Con.of_X (by decide +kernel) (Nat.le_of_ble_eq_true rfl) ?_
  unfold f_J0_isLatin1_aae02
  show X wf RJ0 cJ0_isLatin1_aae02 1 (some .boolean) 1 0 0 [(0, .ref a0)] [] σ _
  refine X_ck (fun a0_h => ?_)
  refine X_cmpS (pc := 0) jf_38 (td kJ0_isLatin1_aae02 0 rfl) ?_
  refine X_jn (P := fun k => X wf RJ0 cJ0_isLatin1_aae02 1 (some .boolean) 1 0 17 [] [] σ k) ?_ (fun k17 h17 => ?_)
  · refine X_iconst (v := (0 : Int32)) (pc := 17) (td kJ0_isLatin1_aae02 7 rfl) (by decide) ?_
    exact X_ret (pc := 18) (td kJ0_isLatin1_aae02 8 rfl) rfl
  · refine X_if_eq (pc := 3) (tgt := 17) (td kJ0_isLatin1_aae02 1 rfl) (by decide) (fun c_3 => ?_) (fun c_3 => ?_)
    · refine X_sub [] rfl ?_
      exact h17
    · refine X_aload_n (pc := 6) (td kJ0_isLatin1_aae02 2 rfl) rfl 0 rfl ?_
      refine X_scod (pc := 7) a0_h jf_15 (td kJ0_isLatin1_aae02 3 rfl) ?_
      refine X_if_ne (pc := 10) (tgt := 17) (td kJ0_isLatin1_aae02 4 rfl) (by decide) (fun c_10 => ?_) (fun c_10 => ?_)
      · refine X_sub [] rfl ?_
        exact h17
      · refine X_iconst (v := (1 : Int32)) (pc := 13) (td kJ0_isLatin1_aae02 5 rfl) (by decide) ?_
        refine X_goto (pc := 14) (tgt := 18) (td kJ0_isLatin1_aae02 6 rfl) (by decide) ?_
        exact X_ret (pc := 18) (td kJ0_isLatin1_aae02 8 rfl) rfl
set_option maxHeartbeats 4000000 in
theorem p_J0_isLatin1_aae02 {T : Type} (a0 : Nat) (σ : T) : Pu σ (f_J0_isLatin1_aae02 a0 σ) := by
  unfold f_J0_isLatin1_aae02
  refine Pu_ck ?_
  refine Pu_jn (fun k => Pu σ (k)) ?_ (fun k17 h17 => ?_)
  · exact Pu_some
  · refine Pu_if ?_ ?_
    · exact h17
    · refine Pu_if ?_ ?_
      · exact Pu_some
      · exact h17
def f_J0_length_8abf5 {T : Type} (a0 : Nat) (σ : T) : Option (Int32 × T) := ck (isStr a0) (cl (f_J0_coder_7d493 a0 σ) (fun r6 _ => some (((Int32.ofNat (strN (a0 + 1))) >>> (r6 &&& 31)), σ)))
set_option maxHeartbeats 4000000 in
set_option maxRecDepth 100000 in
theorem x_J0_length_8abf5 {T : Type} {wf : (FieldType → ClassId) → (Nat → Nat) → T → va_W} (a0 : Nat) (σ : T) : Con wf yJ0_length_8abf5 cJ0_length_8abf5 1 (some .int) 2 [.ref a0] σ (f_J0_length_8abf5 a0 σ) := by
  refine Con.of_X (by decide +kernel) (Nat.le_of_ble_eq_true rfl) ?_
  unfold f_J0_length_8abf5
  show X wf RJ0 cJ0_length_8abf5 1 (some .int) 2 0 0 [(0, .ref a0)] [] σ _
  refine X_ck (fun a0_h => ?_)
  refine X_aload_n (pc := 0) (td kJ0_length_8abf5 0 rfl) rfl 0 rfl ?_
  refine X_sval (pc := 1) a0_h jf_9 (td kJ0_length_8abf5 1 rfl) ?_
  refine X_slen (pc := 4) (isSB_1 a0_h) rfl (td kJ0_length_8abf5 2 rfl) ?_
  refine X_aload_n (pc := 5) (td kJ0_length_8abf5 3 rfl) rfl 0 rfl ?_
  refine X_callj (pc := 6) (As := []) (st := [.int (Int32.ofNat (strN (a0 + 1)))]) (p_J0_coder_7d493 a0 σ) a0_h (x_J0_coder_7d493 a0 σ) mkJ0_coder_7d493 lk_J0_335 (by omega) rfl rfl (Nat.le_of_ble_eq_true rfl) (td kJ0_length_8abf5 4 rfl) (fun r6 hr6 => ?_)
  refine X_ishr (pc := 9) (td kJ0_length_8abf5 5 rfl) ?_
  exact X_ret (pc := 10) (td kJ0_length_8abf5 6 rfl) rfl
set_option maxHeartbeats 4000000 in
theorem p_J0_length_8abf5 {T : Type} (a0 : Nat) (σ : T) : Pu σ (f_J0_length_8abf5 a0 σ) := by
  unfold f_J0_length_8abf5
  refine Pu_ck ?_
  refine Pu_cl (fun _ _ => ?_)
  exact Pu_some
def f_J1_canEncode_9a6ad {T : Type} (p1 : Int32) (σ : T) : Option (Int32 × T) := jn (some ((0 : Int32), σ)) (fun k15 => (if p1 < 0 then k15 else (if (255 : Int32) < p1 then k15 else some ((1 : Int32), σ))))
set_option maxHeartbeats 4000000 in
set_option maxRecDepth 100000 in
theorem x_J1_canEncode_9a6ad {T : Type} {wf : (FieldType → ClassId) → (Nat → Nat) → T → va_W} (p1 : Int32) (σ : T) : Con wf yJ1_canEncode_9a6ad cJ1_canEncode_9a6ad 1 (some .boolean) 1 [.int p1] σ (f_J1_canEncode_9a6ad p1 σ) := by
  refine Con.of_X (by decide +kernel) (Nat.le_of_ble_eq_true rfl) ?_
  unfold f_J1_canEncode_9a6ad
  show X wf RJ1 cJ1_canEncode_9a6ad 1 (some .boolean) 1 0 0 [(0, .int p1)] [] σ _
  refine X_iload_n (pc := 0) (td kJ1_canEncode_9a6ad 0 rfl) rfl 0 rfl ?_
  refine X_jn (P := fun k => X wf RJ1 cJ1_canEncode_9a6ad 1 (some .boolean) 1 0 15 [] [] σ k) ?_ (fun k15 h15 => ?_)
  · refine X_iconst (v := (0 : Int32)) (pc := 15) (td kJ1_canEncode_9a6ad 7 rfl) (by decide) ?_
    exact X_ret (pc := 16) (td kJ1_canEncode_9a6ad 8 rfl) rfl
  · refine X_if_lt (pc := 1) (tgt := 15) (td kJ1_canEncode_9a6ad 1 rfl) (by decide) (fun c_1 => ?_) (fun c_1 => ?_)
    · refine X_sub [] rfl ?_
      exact h15
    · refine X_iload_n (pc := 4) (td kJ1_canEncode_9a6ad 2 rfl) rfl 0 rfl ?_
      refine X_sipush (v := (255 : Int32)) (pc := 5) (td kJ1_canEncode_9a6ad 3 rfl) (by decide) ?_
      refine X_icmp_gt (pc := 8) (tgt := 15) (td kJ1_canEncode_9a6ad 4 rfl) (by decide) (fun c_8 => ?_) (fun c_8 => ?_)
      · refine X_sub [] rfl ?_
        exact h15
      · refine X_iconst (v := (1 : Int32)) (pc := 11) (td kJ1_canEncode_9a6ad 5 rfl) (by decide) ?_
        refine X_goto (pc := 12) (tgt := 16) (td kJ1_canEncode_9a6ad 6 rfl) (by decide) ?_
        exact X_ret (pc := 16) (td kJ1_canEncode_9a6ad 8 rfl) rfl
set_option maxHeartbeats 4000000 in
theorem p_J1_canEncode_9a6ad {T : Type} (p1 : Int32) (σ : T) : Pu σ (f_J1_canEncode_9a6ad p1 σ) := by
  unfold f_J1_canEncode_9a6ad
  refine Pu_jn (fun k => Pu σ (k)) ?_ (fun k15 h15 => ?_)
  · exact Pu_some
  · refine Pu_if ?_ ?_
    · exact h15
    · refine Pu_if ?_ ?_
      · exact h15
      · exact Pu_some
def F_J1_indexOfChar_4cfef_7 {T : Type} (b1 : Nat) (p2 : Int32) (p4 : Int32) (σ : T) (k31 : Option (Int32 × T)) (rec7 : Int32 → Option (Int32 × T)) (x5_7 : Int32) : Option (Int32 × T) := (if x5_7 < p4 then ck (inb x5_7 (strN b1)) ((if (strB b1 x5_7.toNatClampNeg) = p2.toInt8.toInt32 then some (x5_7, σ) else rec7 (x5_7 + (1 : Int32)))) else k31)
def f_J1_indexOfChar_4cfef {T : Type} (b1 : Nat) (p2 : Int32) (p3 : Int32) (p4 : Int32) (σ : T) : Option (Int32 × T) := ck (isSB b1) (jn (some ((-1 : Int32), σ)) (fun k31 => lq1 (F_J1_indexOfChar_4cfef_7 b1 p2 p4 σ k31) 1000000 p3))
set_option maxHeartbeats 4000000 in
set_option maxRecDepth 100000 in
theorem x_J1_indexOfChar_4cfef {T : Type} {wf : (FieldType → ClassId) → (Nat → Nat) → T → va_W} (b1 : Nat) (p2 : Int32) (p3 : Int32) (p4 : Int32) (σ : T) : Con wf yJ1_indexOfChar_4cfef cJ1_indexOfChar_4cfef 6 (some .int) 1 [.ref b1, .int p2, .int p3, .int p4] σ (f_J1_indexOfChar_4cfef b1 p2 p3 p4 σ) := by
  refine Con.of_X (by decide +kernel) (Nat.le_of_ble_eq_true rfl) ?_
  unfold f_J1_indexOfChar_4cfef
  show X wf RJ1 cJ1_indexOfChar_4cfef 6 (some .int) 1 0 0 [(0, .ref b1), (1, .int p2), (2, .int p3), (3, .int p4)] [] σ _
  refine X_ck (fun b1_h => ?_)
  refine X_iload_n (pc := 0) (td kJ1_indexOfChar_4cfef 0 rfl) rfl 1 rfl ?_
  refine X_i2b (pc := 1) (td kJ1_indexOfChar_4cfef 1 rfl) ?_
  refine X_istore (L' := [(4, .int p2.toInt8.toInt32), (0, .ref b1), (1, .int p2), (2, .int p3), (3, .int p4)]) (pc := 2) (td kJ1_indexOfChar_4cfef 2 rfl) (by decide) rfl ?_
  refine X_iload_n (pc := 4) (td kJ1_indexOfChar_4cfef 3 rfl) rfl 3 rfl ?_
  refine X_istore (L' := [(5, .int p3), (4, .int p2.toInt8.toInt32), (0, .ref b1), (1, .int p2), (2, .int p3), (3, .int p4)]) (pc := 5) (td kJ1_indexOfChar_4cfef 4 rfl) (by decide) rfl ?_
  refine X_jn (P := fun k => X wf RJ1 cJ1_indexOfChar_4cfef 6 (some .int) 1 0 31 [] [] σ k) ?_ (fun k31 h31 => ?_)
  · refine X_iconst (v := (-1 : Int32)) (pc := 31) (td kJ1_indexOfChar_4cfef 17 rfl) (by decide) ?_
    exact X_ret (pc := 32) (td kJ1_indexOfChar_4cfef 18 rfl) rfl
  · refine X_sub [2, 5, 1, 0] rfl ?_
    refine lq1_ind (P := fun x5_7 E => X wf RJ1 cJ1_indexOfChar_4cfef 6 (some .int) 1 0 7 [(0, .ref b1), (3, .int p4), (4, .int p2.toInt8.toInt32), (5, .int x5_7)] [] σ E) (fun _ => X_none) (fun rec7 hrec7 x5_7 => ?_) _ _
    unfold F_J1_indexOfChar_4cfef_7
    refine X_iload (pc := 7) (td kJ1_indexOfChar_4cfef 5 rfl) 3 rfl ?_
    refine X_iload_n (pc := 9) (td kJ1_indexOfChar_4cfef 6 rfl) rfl 1 rfl ?_
    refine X_icmp_ge (pc := 10) (tgt := 31) (td kJ1_indexOfChar_4cfef 7 rfl) (by decide) (fun c_10 => ?_) (fun c_10 => ?_)
    · refine X_sub [] rfl ?_
      exact h31
    · refine X_aload_n (pc := 13) (td kJ1_indexOfChar_4cfef 8 rfl) rfl 0 rfl ?_
      refine X_iload (pc := 14) (td kJ1_indexOfChar_4cfef 9 rfl) 3 rfl ?_
      refine X_sbld (pc := 16) b1_h (td kJ1_indexOfChar_4cfef 10 rfl) ?_
      refine X_iload (pc := 17) (td kJ1_indexOfChar_4cfef 11 rfl) 2 rfl ?_
      refine X_icmp_ne (pc := 19) (tgt := 25) (td kJ1_indexOfChar_4cfef 12 rfl) (by decide) (fun c_19 => ?_) (fun c_19 => ?_)
      · refine X_iinc (v := (x5_7 + (1 : Int32))) (L' := [(5, .int (x5_7 + (1 : Int32))), (0, .ref b1), (3, .int p4), (4, .int p2.toInt8.toInt32)]) (pc := 25) (td kJ1_indexOfChar_4cfef 15 rfl) 3 rfl rfl (by decide) rfl ?_
        refine X_goto (pc := 28) (tgt := 7) (td kJ1_indexOfChar_4cfef 16 rfl) (by decide) ?_
        refine X_sub [1, 2, 3, 0] rfl ?_
        exact hrec7 (x5_7 + (1 : Int32))
      · refine X_iload (pc := 22) (td kJ1_indexOfChar_4cfef 13 rfl) 3 rfl ?_
        exact X_ret (pc := 24) (td kJ1_indexOfChar_4cfef 14 rfl) rfl
set_option maxHeartbeats 4000000 in
theorem p_J1_indexOfChar_4cfef {T : Type} (b1 : Nat) (p2 : Int32) (p3 : Int32) (p4 : Int32) (σ : T) : Pu σ (f_J1_indexOfChar_4cfef b1 p2 p3 p4 σ) := by
  unfold f_J1_indexOfChar_4cfef
  refine Pu_ck ?_
  refine Pu_jn (fun k => Pu σ (k)) ?_ (fun k31 h31 => ?_)
  · exact Pu_some
  · refine lq1_ind (P := fun _ E => Pu σ E) (fun _ => Pu_none) (fun rec7 hrec7 x5_7 => ?_) _ _
    unfold F_J1_indexOfChar_4cfef_7
    refine Pu_if ?_ ?_
    · refine Pu_ck ?_
      refine Pu_if ?_ ?_
      · exact Pu_some
      · exact hrec7 _
    · exact h31
def f_J1_indexOf_4cfef {T : Type} (b1 : Nat) (p2 : Int32) (p3 : Int32) (p4 : Int32) (σ : T) : Option (Int32 × T) := ck (isSB b1) (cl (f_J1_canEncode_9a6ad p2 σ) (fun r1 _ => (if r1 = 0 then some ((-1 : Int32), σ) else bn (imx p3 (0 : Int32)) (fun v2_14 => bn (imn p4 (Int32.ofNat (strN b1))) (fun v3_21 => (if v2_14 < v3_21 then cl (f_J1_indexOfChar_4cfef b1 p2 v2_14 v3_21 σ) (fun r33 _ => some (r33, σ)) else some ((-1 : Int32), σ)))))))
set_option maxHeartbeats 4000000 in
set_option maxRecDepth 100000 in
theorem x_J1_indexOf_4cfef {T : Type} {wf : (FieldType → ClassId) → (Nat → Nat) → T → va_W} (b1 : Nat) (p2 : Int32) (p3 : Int32) (p4 : Int32) (σ : T) : Con wf yJ1_indexOf_4cfef cJ1_indexOf_4cfef 4 (some .int) 2 [.ref b1, .int p2, .int p3, .int p4] σ (f_J1_indexOf_4cfef b1 p2 p3 p4 σ) := by
  refine Con.of_X (by decide +kernel) (Nat.le_of_ble_eq_true rfl) ?_
  unfold f_J1_indexOf_4cfef
  show X wf RJ1 cJ1_indexOf_4cfef 4 (some .int) 2 0 0 [(0, .ref b1), (1, .int p2), (2, .int p3), (3, .int p4)] [] σ _
  refine X_ck (fun b1_h => ?_)
  refine X_iload_n (pc := 0) (td kJ1_indexOf_4cfef 0 rfl) rfl 1 rfl ?_
  refine X_callsip (pc := 1) (As := [.int p2]) (st := []) (p_J1_canEncode_9a6ad p2 σ) (x_J1_canEncode_9a6ad p2 σ) mkJ1_canEncode_9a6ad lk_J1_88 (by omega) rfl rfl (Nat.le_of_ble_eq_true rfl) (td kJ1_indexOf_4cfef 1 rfl) (fun r1 hr1 => ?_)
  refine X_if_ne (pc := 4) (tgt := 9) (td kJ1_indexOf_4cfef 2 rfl) (by decide) (fun c_4 => ?_) (fun c_4 => ?_)
  · refine X_iload_n (pc := 9) (td kJ1_indexOf_4cfef 5 rfl) rfl 2 rfl ?_
    refine X_iconst (v := (0 : Int32)) (pc := 10) (td kJ1_indexOf_4cfef 6 rfl) (by decide) ?_
    refine X_mmax2 (pc := 11) (td kJ1_indexOf_4cfef 7 rfl) lm_J1_92 (by omega) (Nat.le_of_ble_eq_true rfl) ?_
    refine X_bi (fun v2_14 => ?_)
    refine X_istore_n (L' := [(2, .int v2_14), (0, .ref b1), (1, .int p2), (3, .int p4)]) (pc := 14) (td kJ1_indexOf_4cfef 8 rfl) rfl (by decide) rfl ?_
    refine X_iload_n (pc := 15) (td kJ1_indexOf_4cfef 9 rfl) rfl 3 rfl ?_
    refine X_aload_n (pc := 16) (td kJ1_indexOf_4cfef 10 rfl) rfl 1 rfl ?_
    refine X_slen (pc := 17) b1_h rfl (td kJ1_indexOf_4cfef 11 rfl) ?_
    refine X_mmin2 (pc := 18) (td kJ1_indexOf_4cfef 12 rfl) lm_J1_38 (by omega) (Nat.le_of_ble_eq_true rfl) ?_
    refine X_bi (fun v3_21 => ?_)
    refine X_istore_n (L' := [(3, .int v3_21), (2, .int v2_14), (0, .ref b1), (1, .int p2)]) (pc := 21) (td kJ1_indexOf_4cfef 13 rfl) rfl (by decide) rfl ?_
    refine X_iload_n (pc := 22) (td kJ1_indexOf_4cfef 14 rfl) rfl 1 rfl ?_
    refine X_iload_n (pc := 23) (td kJ1_indexOf_4cfef 15 rfl) rfl 0 rfl ?_
    refine X_icmp_lt (pc := 24) (tgt := 29) (td kJ1_indexOf_4cfef 16 rfl) (by decide) (fun c_24 => ?_) (fun c_24 => ?_)
    · refine X_aload_n (pc := 29) (td kJ1_indexOf_4cfef 19 rfl) rfl 2 rfl ?_
      refine X_iload_n (pc := 30) (td kJ1_indexOf_4cfef 20 rfl) rfl 3 rfl ?_
      refine X_iload_n (pc := 31) (td kJ1_indexOf_4cfef 21 rfl) rfl 1 rfl ?_
      refine X_iload_n (pc := 32) (td kJ1_indexOf_4cfef 22 rfl) rfl 0 rfl ?_
      refine X_callsip (pc := 33) (As := [.ref b1, .int p2, .int v2_14, .int v3_21]) (st := []) (p_J1_indexOfChar_4cfef b1 p2 v2_14 v3_21 σ) (x_J1_indexOfChar_4cfef b1 p2 v2_14 v3_21 σ) mkJ1_indexOfChar_4cfef lk_J1_95 (by omega) rfl rfl (Nat.le_of_ble_eq_true rfl) (td kJ1_indexOf_4cfef 23 rfl) (fun r33 hr33 => ?_)
      exact X_ret (pc := 36) (td kJ1_indexOf_4cfef 24 rfl) rfl
    · refine X_iconst (v := (-1 : Int32)) (pc := 27) (td kJ1_indexOf_4cfef 17 rfl) (by decide) ?_
      exact X_ret (pc := 28) (td kJ1_indexOf_4cfef 18 rfl) rfl
  · refine X_iconst (v := (-1 : Int32)) (pc := 7) (td kJ1_indexOf_4cfef 3 rfl) (by decide) ?_
    exact X_ret (pc := 8) (td kJ1_indexOf_4cfef 4 rfl) rfl
set_option maxHeartbeats 4000000 in
theorem p_J1_indexOf_4cfef {T : Type} (b1 : Nat) (p2 : Int32) (p3 : Int32) (p4 : Int32) (σ : T) : Pu σ (f_J1_indexOf_4cfef b1 p2 p3 p4 σ) := by
  unfold f_J1_indexOf_4cfef
  refine Pu_ck ?_
  refine Pu_cl (fun _ _ => ?_)
  refine Pu_if ?_ ?_
  · exact Pu_some
  · refine Pu_bn (fun _ => ?_)
    refine Pu_bn (fun _ => ?_)
    refine Pu_if ?_ ?_
    · refine Pu_cl (fun _ _ => ?_)
      exact Pu_some
    · exact Pu_some
def f_J0_indexOf_7cf53 {T : Type} (a0 : Nat) (p1 : Int32) (p2 : Int32) (σ : T) : Option (Int32 × T) := ck (isStr a0) (cl (f_J0_isLatin1_aae02 a0 σ) (fun r1 _ => (if r1 = 0 then none else cl (f_J0_length_8abf5 a0 σ) (fun r14 _ => cl (f_J1_indexOf_4cfef (a0 + 1) p1 p2 r14 σ) (fun r17 _ => some (r17, σ))))))
set_option maxHeartbeats 4000000 in
set_option maxRecDepth 100000 in
theorem x_J0_indexOf_7cf53 {T : Type} {wf : (FieldType → ClassId) → (Nat → Nat) → T → va_W} (a0 : Nat) (p1 : Int32) (p2 : Int32) (σ : T) : Con wf yJ0_indexOf_7cf53 cJ0_indexOf_7cf53 3 (some .int) 3 [.ref a0, .int p1, .int p2] σ (f_J0_indexOf_7cf53 a0 p1 p2 σ) := by
  refine Con.of_X (by decide +kernel) (Nat.le_of_ble_eq_true rfl) ?_
  unfold f_J0_indexOf_7cf53
  show X wf RJ0 cJ0_indexOf_7cf53 3 (some .int) 3 0 0 [(0, .ref a0), (1, .int p1), (2, .int p2)] [] σ _
  refine X_ck (fun a0_h => ?_)
  refine X_aload_n (pc := 0) (td kJ0_indexOf_7cf53 0 rfl) rfl 0 rfl ?_
  refine X_callj (pc := 1) (As := []) (st := []) (p_J0_isLatin1_aae02 a0 σ) a0_h (x_J0_isLatin1_aae02 a0 σ) mkJ0_isLatin1_aae02 lk_J0_492 (by omega) rfl rfl (Nat.le_of_ble_eq_true rfl) (td kJ0_indexOf_7cf53 1 rfl) (fun r1 hr1 => ?_)
  refine X_if_eq (pc := 4) (tgt := 23) (td kJ0_indexOf_7cf53 2 rfl) (by decide) (fun c_4 => ?_) (fun c_4 => ?_)
  · exact X_none
  · refine X_aload_n (pc := 7) (td kJ0_indexOf_7cf53 3 rfl) rfl 0 rfl ?_
    refine X_sval (pc := 8) a0_h jf_9 (td kJ0_indexOf_7cf53 4 rfl) ?_
    refine X_iload_n (pc := 11) (td kJ0_indexOf_7cf53 5 rfl) rfl 1 rfl ?_
    refine X_iload_n (pc := 12) (td kJ0_indexOf_7cf53 6 rfl) rfl 2 rfl ?_
    refine X_aload_n (pc := 13) (td kJ0_indexOf_7cf53 7 rfl) rfl 0 rfl ?_
    refine X_callj (pc := 14) (As := []) (st := [.int p2, .int p1, .ref (a0 + 1)]) (p_J0_length_8abf5 a0 σ) a0_h (x_J0_length_8abf5 a0 σ) mkJ0_length_8abf5 lk_J0_505 (by omega) rfl rfl (Nat.le_of_ble_eq_true rfl) (td kJ0_indexOf_7cf53 8 rfl) (fun r14 hr14 => ?_)
    refine X_callsip (pc := 17) (As := [.ref (a0 + 1), .int p1, .int p2, .int r14]) (st := []) (p_J1_indexOf_4cfef (a0 + 1) p1 p2 r14 σ) (x_J1_indexOf_4cfef (a0 + 1) p1 p2 r14 σ) mkJ1_indexOf_4cfef lk_J0_637 (by omega) rfl rfl (Nat.le_of_ble_eq_true rfl) (td kJ0_indexOf_7cf53 9 rfl) (fun r17 hr17 => ?_)
    refine X_goto (pc := 20) (tgt := 36) (td kJ0_indexOf_7cf53 10 rfl) (by decide) ?_
    exact X_ret (pc := 36) (td kJ0_indexOf_7cf53 18 rfl) rfl
set_option maxHeartbeats 4000000 in
theorem p_J0_indexOf_7cf53 {T : Type} (a0 : Nat) (p1 : Int32) (p2 : Int32) (σ : T) : Pu σ (f_J0_indexOf_7cf53 a0 p1 p2 σ) := by
  unfold f_J0_indexOf_7cf53
  refine Pu_ck ?_
  refine Pu_cl (fun _ _ => ?_)
  refine Pu_if ?_ ?_
  · exact Pu_none
  · refine Pu_cl (fun _ _ => ?_)
    refine Pu_cl (fun _ _ => ?_)
    exact Pu_some
def f_J0_indexOf_0f7a4 {T : Type} (a0 : Nat) (p1 : Int32) (σ : T) : Option (Int32 × T) := ck (isStr a0) (cl (f_J0_indexOf_7cf53 a0 p1 (0 : Int32) σ) (fun r3 _ => some (r3, σ)))
set_option maxHeartbeats 4000000 in
set_option maxRecDepth 100000 in
theorem x_J0_indexOf_0f7a4 {T : Type} {wf : (FieldType → ClassId) → (Nat → Nat) → T → va_W} (a0 : Nat) (p1 : Int32) (σ : T) : Con wf yJ0_indexOf_0f7a4 cJ0_indexOf_0f7a4 2 (some .int) 4 [.ref a0, .int p1] σ (f_J0_indexOf_0f7a4 a0 p1 σ) := by
  refine Con.of_X (by decide +kernel) (Nat.le_of_ble_eq_true rfl) ?_
  unfold f_J0_indexOf_0f7a4
  show X wf RJ0 cJ0_indexOf_0f7a4 2 (some .int) 4 0 0 [(0, .ref a0), (1, .int p1)] [] σ _
  refine X_ck (fun a0_h => ?_)
  refine X_aload_n (pc := 0) (td kJ0_indexOf_0f7a4 0 rfl) rfl 0 rfl ?_
  refine X_iload_n (pc := 1) (td kJ0_indexOf_0f7a4 1 rfl) rfl 1 rfl ?_
  refine X_iconst (v := (0 : Int32)) (pc := 2) (td kJ0_indexOf_0f7a4 2 rfl) (by decide) ?_
  refine X_callj (pc := 3) (As := [.int p1, .int (0 : Int32)]) (st := []) (p_J0_indexOf_7cf53 a0 p1 (0 : Int32) σ) a0_h (x_J0_indexOf_7cf53 a0 p1 (0 : Int32) σ) mkJ0_indexOf_7cf53 lk_J0_633 (by omega) rfl rfl (Nat.le_of_ble_eq_true rfl) (td kJ0_indexOf_0f7a4 3 rfl) (fun r3 hr3 => ?_)
  exact X_ret (pc := 6) (td kJ0_indexOf_0f7a4 4 rfl) rfl
set_option maxHeartbeats 4000000 in
theorem p_J0_indexOf_0f7a4 {T : Type} (a0 : Nat) (p1 : Int32) (σ : T) : Pu σ (f_J0_indexOf_0f7a4 a0 p1 σ) := by
  unfold f_J0_indexOf_0f7a4
  refine Pu_ck ?_
  refine Pu_cl (fun _ _ => ?_)
  exact Pu_some
def f_J3_checkIndex_8e157 {T : Type} (p1 : Int32) (p2 : Int32) (σ : T) : Option (Int32 × T) := jn (none) (fun k9 => (if p1 < 0 then k9 else (if p1 < p2 then some (p1, σ) else k9)))
set_option maxHeartbeats 4000000 in
set_option maxRecDepth 100000 in
theorem x_J3_checkIndex_8e157 {T : Type} {wf : (FieldType → ClassId) → (Nat → Nat) → T → va_W} (p1 : Int32) (p2 : Int32) (v3 : Value) (hv3 : v3.category = 1) (σ : T) : Con wf yJ3_checkIndex_8e157 cJ3_checkIndex_8e157 3 (some .int) 1 [.int p1, .int p2, v3] σ (f_J3_checkIndex_8e157 p1 p2 σ) := by
  refine Con.of_X (by decide +kernel) (by simp only [lg_sl, List.flatMap_cons, List.flatMap_nil, hv3]; simp [Value.category]) ?_
  unfold f_J3_checkIndex_8e157
  show X wf RJ3 cJ3_checkIndex_8e157 3 (some .int) 1 0 0 [(0, .int p1), (1, .int p2), (2, v3)] [] σ _
  refine X_iload_n (pc := 0) (td kJ3_checkIndex_8e157 0 rfl) rfl 0 rfl ?_
  refine X_jn (P := fun k => X wf RJ3 cJ3_checkIndex_8e157 3 (some .int) 1 0 9 [(0, .int p1), (1, .int p2), (2, v3)] [] σ k) ?_ (fun k9 h9 => ?_)
  · exact X_none
  · refine X_if_lt (pc := 1) (tgt := 9) (td kJ3_checkIndex_8e157 1 rfl) (by decide) (fun c_1 => ?_) (fun c_1 => ?_)
    · exact h9
    · refine X_iload_n (pc := 4) (td kJ3_checkIndex_8e157 2 rfl) rfl 0 rfl ?_
      refine X_iload_n (pc := 5) (td kJ3_checkIndex_8e157 3 rfl) rfl 1 rfl ?_
      refine X_icmp_lt (pc := 6) (tgt := 16) (td kJ3_checkIndex_8e157 4 rfl) (by decide) (fun c_6 => ?_) (fun c_6 => ?_)
      · refine X_iload_n (pc := 16) (td kJ3_checkIndex_8e157 10 rfl) rfl 0 rfl ?_
        exact X_ret (pc := 17) (td kJ3_checkIndex_8e157 11 rfl) rfl
      · exact h9
set_option maxHeartbeats 4000000 in
theorem p_J3_checkIndex_8e157 {T : Type} (p1 : Int32) (p2 : Int32) (σ : T) : Pu σ (f_J3_checkIndex_8e157 p1 p2 σ) := by
  unfold f_J3_checkIndex_8e157
  refine Pu_jn (fun k => Pu σ (k)) ?_ (fun k9 h9 => ?_)
  · exact Pu_none
  · refine Pu_if ?_ ?_
    · exact h9
    · refine Pu_if ?_ ?_
      · exact Pu_some
      · exact h9
def f_J0_checkIndex_df160 {T : Type} (p1 : Int32) (p2 : Int32) (σ : T) : Option (Int32 × T) := cl (f_J3_checkIndex_8e157 p1 p2 σ) (fun r5 _ => some (0, σ))
set_option maxHeartbeats 4000000 in
set_option maxRecDepth 100000 in
theorem x_J0_checkIndex_df160 {T : Type} {wf : (FieldType → ClassId) → (Nat → Nat) → T → va_W} (p1 : Int32) (p2 : Int32) (σ : T) : Con wf yJ0_checkIndex_df160 cJ0_checkIndex_df160 2 none 2 [.int p1, .int p2] σ (f_J0_checkIndex_df160 p1 p2 σ) := by
  refine Con.of_X (by decide +kernel) (Nat.le_of_ble_eq_true rfl) ?_
  unfold f_J0_checkIndex_df160
  show X wf RJ0 cJ0_checkIndex_df160 2 none 2 0 0 [(0, .int p1), (1, .int p2)] [] σ _
  refine X_iload_n (pc := 0) (td kJ0_checkIndex_df160 0 rfl) rfl 0 rfl ?_
  refine X_iload_n (pc := 1) (td kJ0_checkIndex_df160 1 rfl) rfl 1 rfl ?_
  refine X_fmt (pc := 2) jf_1053 (td kJ0_checkIndex_df160 2 rfl) (fun v_2 hv_2 => ?_)
  refine X_callsip (pc := 5) (As := [.int p1, .int p2, v_2]) (st := []) (p_J3_checkIndex_8e157 p1 p2 σ) (x_J3_checkIndex_8e157 p1 p2 v_2 hv_2 σ) mkJ3_checkIndex_8e157 lk_J0_1059 (by omega) rfl rfl (Nat.le_of_ble_eq_true rfl) (td kJ0_checkIndex_df160 3 rfl) (fun r5 hr5 => ?_)
  refine X_pop (pc := 8) (td kJ0_checkIndex_df160 4 rfl) rfl ?_
  exact X_retv (pc := 9) (td kJ0_checkIndex_df160 5 rfl)
set_option maxHeartbeats 4000000 in
theorem p_J0_checkIndex_df160 {T : Type} (p1 : Int32) (p2 : Int32) (σ : T) : Pu σ (f_J0_checkIndex_df160 p1 p2 σ) := by
  unfold f_J0_checkIndex_df160
  refine Pu_cl (fun _ _ => ?_)
  exact Pu_some
def f_J1_charAt_3b067 {T : Type} (b1 : Nat) (p2 : Int32) (σ : T) : Option (Int32 × T) := ck (isSB b1) (cl (f_J0_checkIndex_df160 p2 (Int32.ofNat (strN b1)) σ) (fun _ _ => ck (inb p2 (strN b1)) (some ((((strB b1 p2.toNatClampNeg) &&& (255 : Int32)).toUInt32 % 65536).toInt32, σ))))
set_option maxHeartbeats 4000000 in
set_option maxRecDepth 100000 in
theorem x_J1_charAt_3b067 {T : Type} {wf : (FieldType → ClassId) → (Nat → Nat) → T → va_W} (b1 : Nat) (p2 : Int32) (σ : T) : Con wf yJ1_charAt_3b067 cJ1_charAt_3b067 2 (some .char) 3 [.ref b1, .int p2] σ (f_J1_charAt_3b067 b1 p2 σ) := by
  refine Con.of_X (by decide +kernel) (Nat.le_of_ble_eq_true rfl) ?_
  unfold f_J1_charAt_3b067
  show X wf RJ1 cJ1_charAt_3b067 2 (some .char) 3 0 0 [(0, .ref b1), (1, .int p2)] [] σ _
  refine X_ck (fun b1_h => ?_)
  refine X_iload_n (pc := 0) (td kJ1_charAt_3b067 0 rfl) rfl 1 rfl ?_
  refine X_aload_n (pc := 1) (td kJ1_charAt_3b067 1 rfl) rfl 0 rfl ?_
  refine X_slen (pc := 2) b1_h rfl (td kJ1_charAt_3b067 2 rfl) ?_
  refine X_callsvp (pc := 3) (As := [.int p2, .int (Int32.ofNat (strN b1))]) (st := []) (p_J0_checkIndex_df160 p2 (Int32.ofNat (strN b1)) σ) (x_J0_checkIndex_df160 p2 (Int32.ofNat (strN b1)) σ) mkJ0_checkIndex_df160 lk_J1_9 (by omega) rfl rfl (Nat.le_of_ble_eq_true rfl) (td kJ1_charAt_3b067 3 rfl) (fun _ => ?_)
  refine X_aload_n (pc := 6) (td kJ1_charAt_3b067 4 rfl) rfl 0 rfl ?_
  refine X_iload_n (pc := 7) (td kJ1_charAt_3b067 5 rfl) rfl 1 rfl ?_
  refine X_sbld (pc := 8) b1_h (td kJ1_charAt_3b067 6 rfl) ?_
  refine X_sipush (v := (255 : Int32)) (pc := 9) (td kJ1_charAt_3b067 7 rfl) (by decide) ?_
  refine X_iand (pc := 12) (td kJ1_charAt_3b067 8 rfl) ?_
  refine X_i2c (pc := 13) (td kJ1_charAt_3b067 9 rfl) ?_
  exact X_ret (pc := 14) (td kJ1_charAt_3b067 10 rfl) (pk_nc _)
set_option maxHeartbeats 4000000 in
theorem p_J1_charAt_3b067 {T : Type} (b1 : Nat) (p2 : Int32) (σ : T) : Pu σ (f_J1_charAt_3b067 b1 p2 σ) := by
  unfold f_J1_charAt_3b067
  refine Pu_ck ?_
  refine Pu_cl (fun _ _ => ?_)
  refine Pu_ck ?_
  exact Pu_some
def f_J0_charAt_5068e {T : Type} (a0 : Nat) (p1 : Int32) (σ : T) : Option (Int32 × T) := ck (isStr a0) (cl (f_J0_isLatin1_aae02 a0 σ) (fun r1 _ => (if r1 = 0 then none else cl (f_J1_charAt_3b067 (a0 + 1) p1 σ) (fun r12 _ => some (r12, σ)))))
set_option maxHeartbeats 4000000 in
set_option maxRecDepth 100000 in
theorem x_J0_charAt_5068e {T : Type} {wf : (FieldType → ClassId) → (Nat → Nat) → T → va_W} (a0 : Nat) (p1 : Int32) (σ : T) : Con wf yJ0_charAt_5068e cJ0_charAt_5068e 2 (some .char) 4 [.ref a0, .int p1] σ (f_J0_charAt_5068e a0 p1 σ) := by
  refine Con.of_X (by decide +kernel) (Nat.le_of_ble_eq_true rfl) ?_
  unfold f_J0_charAt_5068e
  show X wf RJ0 cJ0_charAt_5068e 2 (some .char) 4 0 0 [(0, .ref a0), (1, .int p1)] [] σ _
  refine X_ck (fun a0_h => ?_)
  refine X_aload_n (pc := 0) (td kJ0_charAt_5068e 0 rfl) rfl 0 rfl ?_
  refine X_callj (pc := 1) (As := []) (st := []) (p_J0_isLatin1_aae02 a0 σ) a0_h (x_J0_isLatin1_aae02 a0 σ) mkJ0_isLatin1_aae02 lk_J0_492 (by omega) rfl rfl (Nat.le_of_ble_eq_true rfl) (td kJ0_charAt_5068e 1 rfl) (fun r1 hr1 => ?_)
  refine X_if_eq (pc := 4) (tgt := 16) (td kJ0_charAt_5068e 2 rfl) (by decide) (fun c_4 => ?_) (fun c_4 => ?_)
  · exact X_none
  · refine X_aload_n (pc := 7) (td kJ0_charAt_5068e 3 rfl) rfl 0 rfl ?_
    refine X_sval (pc := 8) a0_h jf_9 (td kJ0_charAt_5068e 4 rfl) ?_
    refine X_iload_n (pc := 11) (td kJ0_charAt_5068e 5 rfl) rfl 1 rfl ?_
    refine X_callsip (pc := 12) (As := [.ref (a0 + 1), .int p1]) (st := []) (p_J1_charAt_3b067 (a0 + 1) p1 σ) (x_J1_charAt_3b067 (a0 + 1) p1 σ) mkJ1_charAt_3b067 lk_J0_495 (by omega) rfl rfl (Nat.le_of_ble_eq_true rfl) (td kJ0_charAt_5068e 6 rfl) (fun r12 hr12 => ?_)
    exact X_ret (pc := 15) (td kJ0_charAt_5068e 7 rfl) hr12
set_option maxHeartbeats 4000000 in
theorem p_J0_charAt_5068e {T : Type} (a0 : Nat) (p1 : Int32) (σ : T) : Pu σ (f_J0_charAt_5068e a0 p1 σ) := by
  unfold f_J0_charAt_5068e
  refine Pu_ck ?_
  refine Pu_cl (fun _ _ => ?_)
  refine Pu_if ?_ ?_
  · exact Pu_none
  · refine Pu_cl (fun _ _ => ?_)
    exact Pu_some
