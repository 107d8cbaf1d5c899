/-! what the law's start gives: classes, rows, texts, statics -/
theorem tb_t {w : Cond} (i : Nat) (h : tables_1[i]? = some w) : w ∈ lw_tbl := List.mem_append_right _ (List.mem_of_getElem? h)
def nrL : List Cond := flatC (Jvm.Cond.and given_1 narrow_1)
theorem nr_t {w : Cond} (i : Nat) (h : nrL[i]? = some w) : w ∈ nrL := List.mem_of_getElem? h
theorem it_X0 : Cond.instantiable RX0 7 ∈ GT := gt_t 295 (by decide +kernel) (by decide)
theorem it_X1 : Cond.instantiable RX1 3 ∈ GT := gt_t 333 (by decide +kernel) (by decide)
theorem it_X2 : Cond.instantiable RX2 4 ∈ GT := gt_t 251 (by decide +kernel) (by decide)
theorem it_X3 : Cond.instantiable RX3 4 ∈ GT := gt_t 243 (by decide +kernel) (by decide)
theorem it_X4 : Cond.instantiable RX4 11 ∈ GT := gt_t 147 (by decide +kernel) (by decide)
theorem it_X5 : Cond.instantiable RX5 3 ∈ GT := gt_t 201 (by decide +kernel) (by decide)
theorem it_X6 : Cond.instantiable RX6 2 ∈ GT := gt_t 52 (by decide +kernel) (by decide)
theorem it_X7 : Cond.instantiable RX7 2 ∈ GT := gt_t 35 (by decide +kernel) (by decide)
theorem it_X8 : Cond.instantiable RX8 7 ∈ GT := gt_t 58 (by decide +kernel) (by decide)
theorem it_X9 : Cond.instantiable RX9 17 ∈ GT := gt_t 327 (by decide +kernel) (by decide)
theorem it_X10 : Cond.instantiable RX10 4 ∈ GT := gt_t 221 (by decide +kernel) (by decide)
theorem it_X11 : Cond.instantiable RX11 11 ∈ GT := gt_t 27 (by decide +kernel) (by decide)
theorem it_X12 : Cond.instantiable RX12 73 ∈ GT := gt_t 1193 (by decide +kernel) (by decide)
theorem lw_kn {s : State} {args : Array Value} (hts : ∀ w ∈ GT, w.before args s = true) (k : Nat) (q : vw_C) (hq : vwCl[k]? = some q) : ∃ (c : ClassId) (iS : Nat → Nat), u_Kn s q.1 q.2.1 q.2.2 c iS := by
  match k, hq with
  | 0, hq => cases hq; exact u_known (C := RX0) (T := TX0) (N := 7) (n := 7) hts wi_X0 (hts _ it_X0)
  | 1, hq => cases hq; exact u_known (C := RX1) (T := TX1) (N := 3) (n := 3) hts wi_X1 (hts _ it_X1)
  | 2, hq => cases hq; exact u_known (C := RX2) (T := TX2) (N := 4) (n := 4) hts wi_X2 (hts _ it_X2)
  | 3, hq => cases hq; exact u_known (C := RX3) (T := TX3) (N := 4) (n := 4) hts wi_X3 (hts _ it_X3)
  | 4, hq => cases hq; exact u_known (C := RX4) (T := TX4) (N := 11) (n := 11) hts wi_X4 (hts _ it_X4)
  | 5, hq => cases hq; exact u_known (C := RX5) (T := TX5) (N := 3) (n := 3) hts wi_X5 (hts _ it_X5)
  | 6, hq => cases hq; exact u_known (C := RX6) (T := TX6) (N := 2) (n := 2) hts wi_X6 (hts _ it_X6)
  | 7, hq => cases hq; exact u_known (C := RX7) (T := TX7) (N := 2) (n := 2) hts wi_X7 (hts _ it_X7)
  | 8, hq => cases hq; exact u_known (C := RX8) (T := TX8) (N := 7) (n := 7) hts wi_X8 (hts _ it_X8)
  | 9, hq => cases hq; exact u_known (C := RX9) (T := TX9) (N := 17) (n := 17) hts wi_X9 (hts _ it_X9)
  | 10, hq => cases hq; exact u_known (C := RX10) (T := TX10) (N := 4) (n := 4) hts wi_X10 (hts _ it_X10)
  | 11, hq => cases hq; exact u_known (C := RX11) (T := TX11) (N := 11) (n := 11) hts wi_X11 (hts _ it_X11)
  | 12, hq => cases hq; exact u_known (C := RX12) (T := TX12) (N := 73) (n := 73) hts wi_X12 (hts _ it_X12)
  | k + 13, hq => cases hq
theorem ar_of {s : State} {args : Array Value} {ty : FieldType} (h : (Cond.arrayClass ty).before args s = true) : ∃ cA : ClassId, ArrOfT s cA ty ∧ s.vm.findClass ("[" ++ ty.toString) = some cA := by
  obtain ⟨c, k, comp, h1, h2, h3⟩ := Cond.arrayClass_spec (args := args) (first := s) (o := none) (idx := []) h
  exact ⟨c, fun n z => ⟨fun k h => (by cases h), k, h2, comp, h3⟩, h1⟩
theorem ao_of {s : State} {C : String} (h : va_AO C s) : ∃ cA : ClassId, ArrOfT s cA (.object C) ∧ va_RA s cA (.object C) := by
  obtain ⟨comp, c, k, h1, h2, h3, h4, h5⟩ := Cond.arrayOver_spec h
  exact ⟨c, fun n z => ⟨fun k h => (by cases h), k, h3, comp, h4⟩, k, comp, h3, h4, h1, h5⟩
def kpO (ci cl cb cs cz c4 c3 : ClassId) (t : FieldType) : ClassId := match t with
  | .int => ci
  | .long => cl
  | .byte => cb
  | .short => cs
  | .boolean => cz
  | .object n => if n = RX4 then c4 else c3
  | _ => ci
theorem lw_K {s : State} {args : Array Value} (hts : ∀ w ∈ GT, w.before args s = true) (hNE : NE s) : ∃ (D : va_G) (κ : FieldType → ClassId), va_K D vwCl (tysOf κ) s := by
  have h0 : ∀ k : Nat, ∃ x : ClassId × (Nat → Nat), ∀ q, vwCl[k]? = some q → u_Kn s q.1 q.2.1 q.2.2 x.1 x.2 := by
    intro k
    cases hk : vwCl[k]? with
    | none => exact ⟨(0, fun _ => 0), fun q hq => by cases hq⟩
    | some r =>
      obtain ⟨c, iS, h⟩ := lw_kn hts k r hk
      exact ⟨(c, iS), fun q hq => by cases hq; exact h⟩
  obtain ⟨f, hf⟩ := Classical.axiomOfChoice h0
  obtain ⟨ci, i1, i2⟩ := ar_of (hts _ na_i)
  obtain ⟨cl, l1, l2⟩ := ar_of (hts _ na_l)
  obtain ⟨cb, b1, b2⟩ := ar_of (hts _ na_b)
  obtain ⟨cs, s1, s2⟩ := ar_of (hts _ na_s)
  obtain ⟨cz, z1, z2⟩ := ar_of (hts _ na_z)
  obtain ⟨c4, n1, n2⟩ := ao_of hNE.1
  obtain ⟨c3, m1, m2⟩ := ao_of hNE.2.1
  refine ⟨(fun k => (f k).1, fun k => (f k).2), kpO ci cl cb cs cz c4 c3, fun k q hq => hf k q hq, fun k q hq => ?_⟩
  match k, hq with
  | 0, hq => cases hq; exact ⟨i1, i2⟩
  | 1, hq => cases hq; exact ⟨l1, l2⟩
  | 2, hq => cases hq; exact ⟨b1, b2⟩
  | 3, hq => cases hq; exact ⟨s1, s2⟩
  | 4, hq => cases hq; exact ⟨z1, z2⟩
  | 5, hq =>
    cases hq
    show ArrOfT s (if RX4 = RX4 then c4 else c3) (.object RX4) ∧ va_RA s (if RX4 = RX4 then c4 else c3) (.object RX4)
    rw [if_pos rfl]; exact ⟨n1, n2⟩
  | 6, hq =>
    cases hq
    show ArrOfT s (if RX3 = RX4 then c4 else c3) (.object RX3) ∧ va_RA s (if RX3 = RX4 then c4 else c3) (.object RX3)
    rw [if_neg (by decide)]; exact ⟨m1, m2⟩
  | k + 7, hq => cases hq
theorem nn_0 : Cond.methodLinkNest RX11 9 yX7_init RX11 ∈ lw_tbl := tb_t 36 (by decide +kernel)
theorem nn_1 : Cond.methodLinkNest RX11 27 yX4_init RX11 ∈ lw_tbl := tb_t 148 (by decide +kernel)
theorem nn_2 : Cond.methodLinkNest RX5 15 yX4_init RX11 ∈ lw_tbl := tb_t 208 (by decide +kernel)
theorem nn_3 : Cond.methodLinkNest RX11 41 yX10_init RX11 ∈ lw_tbl := tb_t 222 (by decide +kernel)
theorem nn_4 : Cond.methodLinkNest RX11 52 yX3_init RX11 ∈ lw_tbl := tb_t 244 (by decide +kernel)
theorem nn_5 : Cond.methodLinkNest RX3 9 yX4_init RX11 ∈ lw_tbl := tb_t 249 (by decide +kernel)
theorem nn_6 : Cond.methodLinkNest RX3 18 yX2_init RX11 ∈ lw_tbl := tb_t 252 (by decide +kernel)
theorem nn_7 : Cond.methodLinkNest RX3 25 yX10_init RX11 ∈ lw_tbl := tb_t 276 (by decide +kernel)
theorem nn_8 : Cond.methodLinkNest RX11 55 yX0_init RX11 ∈ lw_tbl := tb_t 296 (by decide +kernel)
theorem nn_9 : Cond.methodLinkNest RX0 11 yX4_init RX11 ∈ lw_tbl := tb_t 301 (by decide +kernel)
theorem nn_10 : Cond.methodLinkNest RX11 62 yX9_init RX11 ∈ lw_tbl := tb_t 328 (by decide +kernel)
theorem nn_11 : Cond.methodLinkNest RX9 17 yX1_init RX11 ∈ lw_tbl := tb_t 334 (by decide +kernel)
theorem nn_12 : Cond.methodLinkNest RX11 72 yX2_init RX11 ∈ lw_tbl := tb_t 428 (by decide +kernel)
theorem ao_4 : Cond.arrayOver (.object RX4) ∈ lw_tbl := tb_t 207 (by decide +kernel)
theorem ao_3 : Cond.arrayOver (.object RX3) ∈ lw_tbl := tb_t 242 (by decide +kernel)
theorem lw_NE {s : State} {args : Array Value} (htb : ∀ w ∈ lw_tbl, w.before args s = true) : NE s := by
  refine ⟨va_AO.of (htb _ ao_4), va_AO.of (htb _ ao_3), ?_⟩
  unfold nnL
  exact List.forall_mem_cons.mpr ⟨va_Nw.of rfl (htb _ nn_0), List.forall_mem_cons.mpr ⟨va_Nw.of rfl (htb _ nn_1), List.forall_mem_cons.mpr ⟨va_Nw.of rfl (htb _ nn_2), List.forall_mem_cons.mpr ⟨va_Nw.of rfl (htb _ nn_3), List.forall_mem_cons.mpr ⟨va_Nw.of rfl (htb _ nn_4), List.forall_mem_cons.mpr ⟨va_Nw.of rfl (htb _ nn_5), List.forall_mem_cons.mpr ⟨va_Nw.of rfl (htb _ nn_6), List.forall_mem_cons.mpr ⟨va_Nw.of rfl (htb _ nn_7), List.forall_mem_cons.mpr ⟨va_Nw.of rfl (htb _ nn_8), List.forall_mem_cons.mpr ⟨va_Nw.of rfl (htb _ nn_9), List.forall_mem_cons.mpr ⟨va_Nw.of rfl (htb _ nn_10), List.forall_mem_cons.mpr ⟨va_Nw.of rfl (htb _ nn_11), List.forall_mem_cons.mpr ⟨va_Nw.of rfl (htb _ nn_12), fun _ h => absurd h List.not_mem_nil⟩⟩⟩⟩⟩⟩⟩⟩⟩⟩⟩⟩⟩
theorem nw_0 : Cond.declares (Bundle.initS "java/lang/RuntimeException") ∈ lw_tbl := tb_t 1113 (by decide +kernel)
theorem nw_1 : Cond.declares (Bundle.initS "java/lang/Exception") ∈ lw_tbl := tb_t 1115 (by decide +kernel)
theorem nw_2 : Cond.declares (Bundle.initS Bundle.tN) ∈ lw_tbl := tb_t 1117 (by decide +kernel)
theorem nw_3 : Cond.castable nl_NS nl_NS ∈ lw_tbl := tb_t 1111 (by decide +kernel)
theorem lw_NW {s : State} {args : Array Value} (htb : ∀ w ∈ lw_tbl, w.before args s = true) : NW s := ⟨va_Nw.of rfl (htb _ nw_0), va_Nw.of rfl (htb _ nw_1), va_Nw.of rfl (htb _ nw_2), va_Nw.of rfl (htb _ nw_3)⟩
def tmS (i : Nat) : Term := if i = 0 then .string RX8 19 else .string RX8 58
def tbS (i : Nat) : Nat := if i = 0 then 54 else 173
theorem sx_len : ∀ i : Nat, i < 2 → sLen.getD i 0 < 2 ^ 31 := by decide
theorem sx_ex : ∀ i : Nat, i < 2 → nrL[tbS i]? = some (Cond.exactly (tmS i) "java/lang/String") := by decide +kernel
theorem sx_co : ∀ i : Nat, i < 2 → nrL[tbS i + 1]? = some (Cond.eq (.field (tmS i) "java/lang/String" "coder" "B") (.int 0)) := by decide +kernel
theorem sx_ar : ∀ i : Nat, i < 2 → nrL[tbS i + 2]? = some (Cond.arrayOf (.field (tmS i) "java/lang/String" "value" "[B") .byte) := by decide +kernel
theorem sx_le : ∀ i : Nat, i < 2 → nrL[tbS i + 3]? = some (Cond.eq (.length (.field (tmS i) "java/lang/String" "value" "[B")) (.int (Int32.ofNat (sLen.getD i 0)))) := by decide +kernel
theorem sx_el : ∀ i : Nat, i < 2 → ∀ j : Nat, j < sLen.getD i 0 → nrL[tbS i + 4 + j]? = some (Cond.eq (.elem (.field (tmS i) "java/lang/String" "value" "[B") (.int (Int32.ofNat j))) (.int ((sByt.getD i []).getD j 0))) := by decide +kernel
theorem sx_ne : nrL[185]? = some (Cond.not (Cond.eq (tmS 0) (tmS 1))) := by decide +kernel
theorem nr_cs : nrL[4]? = some (Cond.eq (.static "java/lang/String" "COMPACT_STRINGS" "Z") (.int 1)) := by decide +kernel
theorem nr_fm : nrL[5]? = some (Cond.isRef (.static "jdk/internal/util/Preconditions" "SIOOBE_FORMATTER" "Ljava/util/function/BiFunction;")) := by decide +kernel
theorem nr_us : nrL[9]? = some (Cond.isRef (.static Bundle.tN "UNASSIGNED_STACK" Bundle.steD)) := by decide +kernel
theorem nr_su : nrL[10]? = some (Cond.isRef (.static Bundle.tN "SUPPRESSED_SENTINEL" Bundle.listD)) := by decide +kernel
theorem nr_s1 : nrL[186]? = some (Cond.exactly (.string RX11 258) "java/lang/String") := by decide +kernel
theorem nr_s2 : nrL[206]? = some (Cond.exactly (.string RX11 269) "java/lang/String") := by decide +kernel
theorem nr_s3 : nrL[225]? = some (Cond.exactly (.string RX11 275) "java/lang/String") := by decide +kernel
theorem tx_0 : Cond.stringRef RX8 19 sW ∈ lw_tbl := tb_t 63 (by decide +kernel)
theorem tx_1 : Cond.stringRef RX8 58 sS ∈ lw_tbl := tb_t 500 (by decide +kernel)
theorem tx_2 : Cond.stringRef RX11 258 "no such walker" ∈ lw_tbl := tb_t 1148 (by decide +kernel)
theorem tx_3 : Cond.stringRef RX11 269 "no such door" ∈ lw_tbl := tb_t 1184 (by decide +kernel)
theorem tx_4 : Cond.stringRef RX11 275 "no such rest" ∈ lw_tbl := tb_t 1191 (by decide +kernel)
theorem sl_0 : Cond.laysStatic "java/lang/String" "COMPACT_STRINGS" "Z" ∈ lw_tbl := tb_t 73 (by decide +kernel)
theorem sl_1 : Cond.laysStatic "jdk/internal/util/Preconditions" "SIOOBE_FORMATTER" "Ljava/util/function/BiFunction;" ∈ lw_tbl := tb_t 89 (by decide +kernel)
theorem sl_2 : Cond.laysStatic Bundle.tN "UNASSIGNED_STACK" Bundle.steD ∈ lw_tbl := tb_t 1136 (by decide +kernel)
theorem sl_3 : Cond.laysStatic Bundle.tN "SUPPRESSED_SENTINEL" Bundle.listD ∈ lw_tbl := tb_t 1138 (by decide +kernel)
theorem si_0 : Cond.initialized "java/lang/String" ∈ lw_tbl := tb_t 5 (by decide +kernel)
theorem si_1 : Cond.initialized "jdk/internal/util/Preconditions" ∈ lw_tbl := tb_t 7 (by decide +kernel)
theorem si_2 : Cond.initialized Bundle.tN ∈ lw_tbl := tb_t 22 (by decide +kernel)
theorem tx_of {s : State} {args : Array Value} {own tx : String} {k : Nat} (h1 : (Cond.stringRef own k tx).before args s = true) (h2 : (Cond.exactly (.string own k) "java/lang/String").before args s = true) : ∃ a, vk_R own k tx a s := by
  obtain ⟨a, c, cA, kA, q1, -⟩ := Cond.exactly_spec (args := args) (first := s) (o := none) (s := s) (idx := []) (t := .string own k) (cls := "java/lang/String") h2
  exact ⟨a, vk_R.of h1 q1⟩
theorem lw_EN {s : State} {args : Array Value} (htb : ∀ w ∈ lw_tbl, w.before args s = true) (hn : ∀ w ∈ nrL, w.before args s = true) : ∃ ρ0, EN ρ0 (fun q => s.heap.size ≤ q) s s.heap := by
  have hA : ∀ a : Nat, a < s.heap.size → ¬ (fun q : Nat => s.heap.size ≤ q) a := fun a h => Nat.not_le.mpr h
  have hm : ∀ (i : Nat) (w : Cond), nrL[i]? = some w → w.before args s = true := fun i w h => hn w (nr_t i h)
  have hne : ∀ i j : Nat, i < 2 → j < 2 → i ≠ j → (Cond.not (Cond.eq (tmS i) (tmS j))).before args s = true ∨ (Cond.not (Cond.eq (tmS j) (tmS i))).before args s = true := by
    intro i j hi hj hij
    rcases (show i = 0 ∧ j = 1 ∨ i = 1 ∧ j = 0 by omega) with ⟨rfl, rfl⟩ | ⟨rfl, rfl⟩
    · exact Or.inl (hm _ _ sx_ne)
    · exact Or.inr (hm _ _ sx_ne)
  obtain ⟨adK, adV, hS, hE⟩ := vk_Sof (args := args) (s := s) (N := 2) (tm := tmS) (len := sLen) (byt := sByt) (A := fun q => s.heap.size ≤ q) sx_len (fun i hi => hm _ _ (sx_ex i hi)) (fun i hi => hm _ _ (sx_co i hi)) (fun i hi => hm _ _ (sx_ar i hi)) (fun i hi => hm _ _ (sx_le i hi)) (fun i hi j hj => hm _ _ (sx_el i hi j hj)) hne hA
  obtain ⟨fm, hfm⟩ : ∃ fm : Nat, va_Z "jdk/internal/util/Preconditions" "SIOOBE_FORMATTER" "Ljava/util/function/BiFunction;" .null (fun q => s.heap.size ≤ q) s s.heap ∨ va_Z "jdk/internal/util/Preconditions" "SIOOBE_FORMATTER" "Ljava/util/function/BiFunction;" (.ref fm) (fun q => s.heap.size ≤ q) s s.heap := by
    rcases va_Zqof (A := fun q => s.heap.size ≤ q) (htb _ sl_1) (htb _ si_1) (hm _ _ nr_fm) hA with h | ⟨t, h⟩
    · exact ⟨0, Or.inl h⟩
    · exact ⟨t, Or.inr h⟩
  obtain ⟨ρ, e1, e2, e3⟩ : ∃ ρ : Nat → Nat, (∀ i, i < 2 → ρ (1000000 + 2 * i) = adK i) ∧ (∀ i, i < 2 → ρ (1000001 + 2 * i) = adV i) ∧ ρ 1000010 = fm := by
    refine ⟨fun n => if n = 1000010 then fm else if n % 2 = 0 then adK ((n - 1000000) / 2) else adV ((n - 1000001) / 2), fun i hi => ?_, fun i hi => ?_, rfl⟩
    · show (if 1000000 + 2 * i = 1000010 then fm else if (1000000 + 2 * i) % 2 = 0 then adK ((1000000 + 2 * i - 1000000) / 2) else adV ((1000000 + 2 * i - 1000001) / 2)) = adK i
      rw [if_neg (by omega), if_pos (by omega), show (1000000 + 2 * i - 1000000) / 2 = i by omega]
    · show (if 1000001 + 2 * i = 1000010 then fm else if (1000001 + 2 * i) % 2 = 0 then adK ((1000001 + 2 * i - 1000000) / 2) else adV ((1000001 + 2 * i - 1000001) / 2)) = adV i
      rw [if_neg (by omega), if_neg (by omega), show (1000001 + 2 * i - 1000001) / 2 = i by omega]
  have k0 : vk_R RX8 19 sW (ρ 1000000) s := vk_R.of (A := args) (htb _ tx_0) (by
    have h := hE 0 (by omega)
    rw [← e1 0 (by omega)] at h
    exact h)
  have k1 : vk_R RX8 58 sS (ρ 1000002) s := vk_R.of (A := args) (htb _ tx_1) (by
    have h := hE 1 (by omega)
    rw [← e1 1 (by omega)] at h
    exact h)
  refine ⟨ρ, ⟨fun i hi => ?_, fun i j hi hj h => ?_⟩, k0, k1, va_Zof (htb _ sl_0) (htb _ si_0) (va_eqt (hm _ _ nr_cs)) hA, tx_of (htb _ tx_2) (hm _ _ nr_s1), tx_of (htb _ tx_3) (hm _ _ nr_s2), tx_of (htb _ tx_4) (hm _ _ nr_s3), vx_Zqof (htb _ sl_2) (htb _ si_2) (hm _ _ nr_us) hA, vx_Zqof (htb _ sl_3) (htb _ si_2) (hm _ _ nr_su) hA, ?_⟩
  · have h := hS.1 i hi
    rw [← e1 i hi, ← e2 i hi] at h
    exact h
  · exact hS.2 i j hi hj (by rw [← e1 i hi, ← e1 j hj]; exact h)
  · rw [e3]; exact hfm
