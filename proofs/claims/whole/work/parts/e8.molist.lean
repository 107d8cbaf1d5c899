/-! the reference's maker, row by row -/
def mFs (n : Nat) (q : Nat → Nat) (al : Int32) : List Value := fdM.mapIdx (fun k d => if d.1 = 3 then (if d.2 ≤ n then .ref (q d.2) else .null) else if d.1 = 1 then .long 0 else if k = 57 then .int al else .int 0)
def mE (κ : FieldType → ClassId) (i : Nat) : va_E := shE κ (fun _ => 0) zM i (SHM.getD i (.inl (.int, 0, z0)))
def mCl (κ : FieldType → ClassId) (n : Nat) (q : Nat → Nat) : va_W := (List.range n).map (fun i => (q (i + 1), mE κ (i + 1)))
theorem mFs_len (n : Nat) (q : Nat → Nat) (al : Int32) : (mFs n q al).length = 73 := by unfold mFs; rw [List.length_mapIdx]; rfl
theorem mFs_cg {n : Nat} {q q' : Nat → Nat} {al : Int32} (h : ∀ i, i ≤ n → q i = q' i) : mFs n q al = mFs n q' al := by
  unfold mFs
  congr 1
  funext k d
  by_cases z : d.2 ≤ n
  · rw [h d.2 z]
  · rw [if_neg z, if_neg z]
def mU (n k : Nat) : Bool := (List.range 73).all (fun i => decide (fdM[i]? = some (3, n + 1) → i = k))
theorem mFs_set {n k : Nat} {q : Nat → Nat} {al : Int32} (hk : fdM[k]? = some (3, n + 1)) (hu : mU n k = true) : (mFs n q al).set k (.ref (q (n + 1))) = mFs (n + 1) q al := by
  have hu2 : ∀ i, fdM[i]? = some (3, n + 1) → i = k := fun i hi => by
    have h1 : i < 73 := (List.getElem?_eq_some_iff.mp hi).1
    exact of_decide_eq_true (List.all_eq_true.mp hu i (List.mem_range.mpr h1)) hi
  have hkl : k < 73 := (List.getElem?_eq_some_iff.mp hk).1
  apply List.ext_getElem?
  intro i
  rw [List.getElem?_set]
  by_cases z : k = i
  · subst z
    rw [if_pos rfl, if_pos (by rw [mFs_len]; exact hkl)]
    unfold mFs
    rw [List.getElem?_mapIdx, hk]
    simp
  · rw [if_neg z]
    unfold mFs
    rw [List.getElem?_mapIdx, List.getElem?_mapIdx]
    cases e : fdM[i]? with
    | none => rfl
    | some d =>
      obtain ⟨d1, d2⟩ := d
      simp only [Option.map_some]
      by_cases y : d1 = 3
      · subst y
        have ne : d2 ≠ n + 1 := fun w => z (hu2 i (by rw [e, w])).symm
        by_cases u : d2 ≤ n
        · rw [if_pos rfl, if_pos rfl, if_pos u, if_pos (by omega)]
        · rw [if_pos rfl, if_pos rfl, if_neg u, if_neg (by omega)]
      · rw [if_neg y, if_neg y]
theorem mFs_al {n : Nat} {q : Nat → Nat} {al : Int32} : (mFs n q 0).set 57 (.int al) = mFs n q al := by
  apply List.ext_getElem?
  intro i
  rw [List.getElem?_set]
  by_cases z : 57 = i
  · subst z
    rw [if_pos rfl, if_pos (by rw [mFs_len]; decide)]
    unfold mFs
    rw [List.getElem?_mapIdx, show fdM[57]? = some (0, 0) from rfl]
    rfl
  · rw [if_neg z]
    unfold mFs
    rw [List.getElem?_mapIdx, List.getElem?_mapIdx]
    cases e : fdM[i]? with
    | none => rfl
    | some d =>
      simp only [Option.map_some]
      rw [if_neg (Ne.symm z), if_neg (Ne.symm z)]
theorem mCl_s {κ : FieldType → ClassId} {n : Nat} {q : Nat → Nat} : mCl κ (n + 1) q = mCl κ n q ++ [(q (n + 1), mE κ (n + 1))] := by
  unfold mCl
  rw [List.range_succ, List.map_append]
  rfl
theorem mCl_cg {κ : FieldType → ClassId} {n : Nat} {q q' : Nat → Nat} (h : ∀ i, i ≤ n → q i = q' i) : mCl κ n q = mCl κ n q' := by
  unfold mCl
  apply List.map_congr_left
  intro i hi
  have := List.mem_range.mp hi
  rw [h (i + 1) (by omega)]
theorem gD_app {qs : List Nat} {a i : Nat} (h : i < qs.length) : gD (qs ++ [a]) i = gD qs i := by
  unfold gD
  rw [List.getD_eq_getElem?_getD, List.getD_eq_getElem?_getD, List.getElem?_append_left h]
theorem gD_last {qs : List Nat} {a : Nat} : gD (qs ++ [a]) qs.length = a := by
  unfold gD
  rw [List.getD_eq_getElem?_getD, List.getElem?_append_right (Nat.le_refl _), Nat.sub_self]
  rfl
def mW (κ : FieldType → ClassId) (n : Nat) (qs : List Nat) (al : Int32) : va_W := (gD qs 0, .inr (12, mFs n (gD qs) al)) :: mCl κ n (gD qs)
theorem N_arrM {D : va_G} {κ : FieldType → ClassId} {ρ : Nat → Nat} {G : va_W → Prop} {gc gs pc i : Nat} {qs : List Nat} {al n : Int32} {N' pl index k t0 : Nat} {atype : ArrayType} {ty fty : FieldType} {a0 : vp_A} (hl : qs.length = i + 1) (hk : fdM[k]? = some (3, i + 1)) (hu : mU i k = true) (hE : ∀ κ, mE κ (i + 1) = .inl (κ ty, a0)) (dA : decode cX12_init pc = .ok (.aload_n 0, 1)) (hpush : ∀ (h0 gc gs : Nat) (st : List Value) (w : va_W), NX RX12 cX12_init 1 40 D κ ρ G gc gs (pc + 1 + pl) [(0, .ref h0)] (.int n :: st) w → NX RX12 cX12_init 1 40 D κ ρ G gc gs (pc + 1) [(0, .ref h0)] st w) (ht : ∀ κ, (tysOf κ)[t0]? = some (κ ty, ty)) (harr : Cond.arrayClass (newarray.typeOf atype) ∈ GT) (hty : newarray.typeOf atype = ty) (ha : ∀ cA : ClassId, vp_cell cA a0 = arrV cA N' (fun _ => defaultValue ty)) (hn : ¬ n < 0) (hN : n.toNatClampNeg = N') (hby : N' * componentBytes ty ≤ 536870912) (dN : decode cX12_init (pc + 1 + pl) = .ok (.newarray atype, 2)) (fk : FLk RX12 index 12 k fty true) (hnr : ∀ q : Nat, narrow fty (.ref q) = .ref q) (hft : ∀ q : Nat, fits fty (.ref q) = true) (dP : decode cX12_init (pc + 1 + pl + 2) = .ok (.putfield index, 3)) (kk : ∀ qs' : List Nat, qs'.length = i + 1 + 1 → gD qs' 0 = gD qs 0 → NX RX12 cX12_init 1 40 D κ ρ G gc gs (pc + 1 + pl + 2 + 3) [(0, .ref (gD qs' 0))] [] (mW κ (i + 1) qs' al)) : NX RX12 cX12_init 1 40 D κ ρ G (gc + 1) (gs + N') pc [(0, .ref (gD qs 0))] [] (mW κ i qs al) := by
  have hkl : k < 73 := (List.getElem?_eq_some_iff.mp hk).1
  refine N_arr (NF := 73) (mFs_len _ _ _) hkl dA (hpush (gD qs 0)) ht harr hty ha hn hN hby dN fk (fun C T N h => by cases h; rfl) hnr hft dP (fun q fs' rest' e1 e2 _ => ?_)
  have g0 : gD (qs ++ [q]) 0 = gD qs 0 := gD_app (by omega)
  have := kk (qs ++ [q]) (by rw [List.length_append, hl]; rfl) g0
  rw [g0] at this
  refine N_eq ?_ this
  have gl : gD (qs ++ [q]) (i + 1) = q := by rw [← hl]; exact gD_last
  have cg : ∀ j, j ≤ i → gD qs j = gD (qs ++ [q]) j := fun j hj => (gD_app (by omega)).symm
  unfold mW
  rw [e1, e2, g0, mCl_s, hE, gl, ← mFs_set hk hu, gl, mFs_cg cg, mCl_cg cg]
theorem N_intM {D : va_G} {κ : FieldType → ClassId} {ρ : Nat → Nat} {G : va_W → Prop} {gc gs pc i : Nat} {qs : List Nat} {v : Int32} {pl index : Nat} {fty : FieldType} (dA : decode cX12_init pc = .ok (.aload_n 0, 1)) (hpush : ∀ (h0 gc gs : Nat) (st : List Value) (w : va_W), NX RX12 cX12_init 1 40 D κ ρ G gc gs (pc + 1 + pl) [(0, .ref h0)] (.int v :: st) w → NX RX12 cX12_init 1 40 D κ ρ G gc gs (pc + 1) [(0, .ref h0)] st w) (fk : FLk RX12 index 12 57 fty false) (hnr : narrow fty (.int v) = .int v) (hft : fits fty (.int v) = true) (dP : decode cX12_init (pc + 1 + pl) = .ok (.putfield index, 3)) (kk : NX RX12 cX12_init 1 40 D κ ρ G gc gs (pc + 1 + pl + 3) [(0, .ref (gD qs 0))] [] (mW κ i qs v)) : NX RX12 cX12_init 1 40 D κ ρ G gc gs pc [(0, .ref (gD qs 0))] [] (mW κ i qs 0) := by
  refine N_int1 (NF := 73) (mFs_len _ _ _) (k := 57) (by decide) dA (hpush (gD qs 0)) fk hnr hft dP (fun fs' e1 _ => ?_)
  refine N_eq ?_ kk
  rw [e1, mFs_al]
  rfl
theorem mo_cell (κ : FieldType → ClassId) (θ : Nat → Nat) : ∀ i, 0 < i → i < 50 → ∃ sh, SHM[i]? = some sh ∧ shE κ θ zMo i sh = mE κ i := by
  intro i h1 h2
  rcases (show i = 1 ∨ i = 2 ∨ i = 3 ∨ i = 4 ∨ i = 5 ∨ i = 6 ∨ i = 7 ∨ i = 8 ∨ i = 9 ∨ i = 10 ∨ i = 11 ∨ i = 12 ∨ i = 13 ∨ i = 14 ∨ i = 15 ∨ i = 16 ∨ i = 17 ∨ i = 18 ∨ i = 19 ∨ i = 20 ∨ i = 21 ∨ i = 22 ∨ i = 23 ∨ i = 24 ∨ i = 25 ∨ i = 26 ∨ i = 27 ∨ i = 28 ∨ i = 29 ∨ i = 30 ∨ i = 31 ∨ i = 32 ∨ i = 33 ∨ i = 34 ∨ i = 35 ∨ i = 36 ∨ i = 37 ∨ i = 38 ∨ i = 39 ∨ i = 40 ∨ i = 41 ∨ i = 42 ∨ i = 43 ∨ i = 44 ∨ i = 45 ∨ i = 46 ∨ i = 47 ∨ i = 48 ∨ i = 49 by omega) with rfl | rfl | rfl | rfl | rfl | rfl | rfl | rfl | rfl | rfl | rfl | rfl | rfl | rfl | rfl | rfl | rfl | rfl | rfl | rfl | rfl | rfl | rfl | rfl | rfl | rfl | rfl | rfl | rfl | rfl | rfl | rfl | rfl | rfl | rfl | rfl | rfl | rfl | rfl | rfl | rfl | rfl | rfl | rfl | rfl | rfl | rfl | rfl | rfl
  · exact ⟨_, sM_1, rfl⟩
  · exact ⟨_, sM_2, rfl⟩
  · exact ⟨_, sM_3, rfl⟩
  · exact ⟨_, sM_4, rfl⟩
  · exact ⟨_, sM_5, rfl⟩
  · exact ⟨_, sM_6, rfl⟩
  · exact ⟨_, sM_7, rfl⟩
  · exact ⟨_, sM_8, rfl⟩
  · exact ⟨_, sM_9, rfl⟩
  · exact ⟨_, sM_10, rfl⟩
  · exact ⟨_, sM_11, rfl⟩
  · exact ⟨_, sM_12, rfl⟩
  · exact ⟨_, sM_13, rfl⟩
  · exact ⟨_, sM_14, rfl⟩
  · exact ⟨_, sM_15, rfl⟩
  · exact ⟨_, sM_16, rfl⟩
  · exact ⟨_, sM_17, rfl⟩
  · exact ⟨_, sM_18, rfl⟩
  · exact ⟨_, sM_19, rfl⟩
  · exact ⟨_, sM_20, rfl⟩
  · exact ⟨_, sM_21, rfl⟩
  · exact ⟨_, sM_22, rfl⟩
  · exact ⟨_, sM_23, rfl⟩
  · exact ⟨_, sM_24, rfl⟩
  · exact ⟨_, sM_25, rfl⟩
  · exact ⟨_, sM_26, rfl⟩
  · exact ⟨_, sM_27, rfl⟩
  · exact ⟨_, sM_28, rfl⟩
  · exact ⟨_, sM_29, rfl⟩
  · exact ⟨_, sM_30, rfl⟩
  · exact ⟨_, sM_31, rfl⟩
  · exact ⟨_, sM_32, rfl⟩
  · exact ⟨_, sM_33, rfl⟩
  · exact ⟨_, sM_34, rfl⟩
  · exact ⟨_, sM_35, rfl⟩
  · exact ⟨_, sM_36, rfl⟩
  · exact ⟨_, sM_37, rfl⟩
  · exact ⟨_, sM_38, rfl⟩
  · exact ⟨_, sM_39, rfl⟩
  · exact ⟨_, sM_40, rfl⟩
  · exact ⟨_, sM_41, rfl⟩
  · exact ⟨_, sM_42, rfl⟩
  · exact ⟨_, sM_43, rfl⟩
  · exact ⟨_, sM_44, rfl⟩
  · exact ⟨_, sM_45, rfl⟩
  · exact ⟨_, sM_46, rfl⟩
  · exact ⟨_, sM_47, rfl⟩
  · exact ⟨_, sM_48, rfl⟩
  · exact ⟨_, sM_49, rfl⟩
theorem fdM_ok : fdM.all (fun d => decide ((d.1 = 0 ∨ d.1 = 1) ∨ (d.1 = 3 ∧ d.2 ≤ 49))) = true := by decide +kernel
theorem mo_eq {κ : FieldType → ClassId} {ρ : Nat → Nat} {qs : List Nat} : mW κ 49 qs 63 = wsOf SHM κ (fun i => if i < 1000000 then gD qs i else ρ i) zMo := by
  apply List.ext_getElem?
  intro i
  by_cases h0 : i = 0
  · subst h0
    rw [ws_get sM_0]
    have key : mFs 49 (gD qs) 63 = fdM.mapIdx (fdV (fun i => if i < 1000000 then gD qs i else ρ i) zMo 0) := by
      unfold mFs
      apply List.ext_getElem?
      intro k
      rw [List.getElem?_mapIdx, List.getElem?_mapIdx]
      cases e : fdM[k]? with
      | none => rfl
      | some d =>
        have hd := List.all_eq_true.mp fdM_ok d (List.mem_of_getElem? e)
        obtain ⟨d1, d2⟩ := d
        have hd : (d1 = 0 ∨ d1 = 1) ∨ (d1 = 3 ∧ d2 ≤ 49) := of_decide_eq_true hd
        simp only [Option.map_some]
        congr 1
        rcases hd with (z | z) | ⟨z, z2⟩
        · subst z
          show (if k = 57 then Value.int 63 else Value.int 0) = .int (if 0 = 0 ∧ k = 57 then 63 else 0)
          by_cases y : k = 57
          · rw [if_pos y, if_pos ⟨rfl, y⟩]
          · rw [if_neg y, if_neg (fun w => y w.2)]
        · subst z
          rfl
        · subst z
          show (if d2 ≤ 49 then Value.ref (gD qs d2) else Value.null) = .ref (if d2 < 1000000 then gD qs d2 else ρ d2)
          rw [if_pos z2, if_pos (by omega)]
    show some (gD qs 0, (.inr (12, mFs 49 (gD qs) 63) : va_E)) = some (gD qs 0, .inr (12, fdM.mapIdx (fdV (fun i => if i < 1000000 then gD qs i else ρ i) zMo 0)))
    rw [key]
  · by_cases h1 : i < 50
    · obtain ⟨sh, s1, s2⟩ := mo_cell κ (fun i => if i < 1000000 then gD qs i else ρ i) i (by omega) h1
      rw [ws_get s1, s2]
      obtain ⟨j, rfl⟩ : ∃ j, i = j + 1 := ⟨i - 1, by omega⟩
      show (mCl κ 49 (gD qs))[j]? = _
      unfold mCl
      rw [List.getElem?_map, List.getElem?_range (by omega)]
      show some (gD qs (j + 1), mE κ (j + 1)) = some ((if j + 1 < 1000000 then gD qs (j + 1) else ρ (j + 1)), mE κ (j + 1))
      rw [if_pos (by omega)]
    · have e1 : (mW κ 49 qs 63).length = 50 := by unfold mW mCl; simp
      rw [List.getElem?_eq_none (by omega), List.getElem?_eq_none (by unfold wsOf; rw [List.length_mapIdx, shm_len]; omega)]
theorem nk_X12_f : ∀ j, j < 73 → defaultValue (tyX12 j) = vp_V (mFs 0 (fun _ => 0) 0) j := by
  intro j hj
  unfold vp_V
  rw [List.getD_eq_getElem?_getD, mFs, List.getElem?_mapIdx]
  rcases (show j = 0 ∨ j = 1 ∨ j = 2 ∨ j = 3 ∨ j = 4 ∨ j = 5 ∨ j = 6 ∨ j = 7 ∨ j = 8 ∨ j = 9 ∨ j = 10 ∨ j = 11 ∨ j = 12 ∨ j = 13 ∨ j = 14 ∨ j = 15 ∨ j = 16 ∨ j = 17 ∨ j = 18 ∨ j = 19 ∨ j = 20 ∨ j = 21 ∨ j = 22 ∨ j = 23 ∨ j = 24 ∨ j = 25 ∨ j = 26 ∨ j = 27 ∨ j = 28 ∨ j = 29 ∨ j = 30 ∨ j = 31 ∨ j = 32 ∨ j = 33 ∨ j = 34 ∨ j = 35 ∨ j = 36 ∨ j = 37 ∨ j = 38 ∨ j = 39 ∨ j = 40 ∨ j = 41 ∨ j = 42 ∨ j = 43 ∨ j = 44 ∨ j = 45 ∨ j = 46 ∨ j = 47 ∨ j = 48 ∨ j = 49 ∨ j = 50 ∨ j = 51 ∨ j = 52 ∨ j = 53 ∨ j = 54 ∨ j = 55 ∨ j = 56 ∨ j = 57 ∨ j = 58 ∨ j = 59 ∨ j = 60 ∨ j = 61 ∨ j = 62 ∨ j = 63 ∨ j = 64 ∨ j = 65 ∨ j = 66 ∨ j = 67 ∨ j = 68 ∨ j = 69 ∨ j = 70 ∨ j = 71 ∨ j = 72 by omega) with rfl | rfl | rfl | rfl | rfl | rfl | rfl | rfl | rfl | rfl | rfl | rfl | rfl | rfl | rfl | rfl | rfl | rfl | rfl | rfl | rfl | rfl | rfl | rfl | rfl | rfl | rfl | rfl | rfl | rfl | rfl | rfl | rfl | rfl | rfl | rfl | rfl | rfl | rfl | rfl | rfl | rfl | rfl | rfl | rfl | rfl | rfl | rfl | rfl | rfl | rfl | rfl | rfl | rfl | rfl | rfl | rfl | rfl | rfl | rfl | rfl | rfl | rfl | rfl | rfl | rfl | rfl | rfl | rfl | rfl | rfl | rfl | rfl <;> rfl
set_option maxHeartbeats 8000000 in
set_option maxRecDepth 100000 in
theorem n_X12 (D : va_G) (κ : FieldType → ClassId) (ρ : Nat → Nat) (h0 : Nat) : NCon yX12_init cX12_init 1 40 49 7155 12 (mFs 0 (fun _ => 0) 0) D κ ρ h0 [] (Gmo κ ρ h0) := by
  refine NCon.of_NX (by decide +kernel) rfl (Nat.le_of_ble_eq_true rfl) ?_
  have st0 : ∀ qs : List Nat, qs.length = 0 + 1 → gD qs 0 = h0 → NX RX12 cX12_init 1 40 D κ ρ (Gmo κ ρ h0) 49 7155 4 [(0, .ref (gD qs 0))] [] (mW κ 0 qs 0) := by
    intro qs0 hl0 hq0
    refine N_arrM (i := 0) (pc := 4) (gc := 48) (gs := 6155) (n := 1000) (N' := 1000) (pl := 3) (k := 2) (atype := .int) (ty := .int) (a0 := (1000, .inl (fun _ => 0))) hl0 rfl (by decide +kernel) (fun _ => rfl) (td kX12_init 2 rfl) (fun h0 gc gs st w kk => N_sipush (pc := 5) (v := 1000) (td kX12_init 3 rfl) (by decide) kk) (t0 := 0) (fun _ => rfl) na_i rfl (fun _ => rfl) (by decide) rfl (by decide) (td kX12_init 4 rfl) fk_X12_7 (fun _ => rfl) (fun _ => rfl) (td kX12_init 5 rfl) (fun qs1 hl1 hg1 => ?_)
    have hq1 := hg1.trans hq0
    clear hg1 hl0 hq0
    refine N_arrM (i := 1) (pc := 13) (gc := 47) (gs := 6147) (n := 8) (N' := 8) (pl := 2) (k := 10) (atype := .int) (ty := .int) (a0 := (8, .inl (fun _ => 0))) hl1 rfl (by decide +kernel) (fun _ => rfl) (td kX12_init 6 rfl) (fun h0 gc gs st w kk => N_bipush (pc := 14) (v := 8) (td kX12_init 7 rfl) (by decide) kk) (t0 := 0) (fun _ => rfl) na_i rfl (fun _ => rfl) (by decide) rfl (by decide) (td kX12_init 8 rfl) fk_X12_13 (fun _ => rfl) (fun _ => rfl) (td kX12_init 9 rfl) (fun qs2 hl2 hg2 => ?_)
    have hq2 := hg2.trans hq1
    clear hg2 hl1 hq1
    refine N_arrM (i := 2) (pc := 21) (gc := 46) (gs := 6135) (n := 12) (N' := 12) (pl := 2) (k := 11) (atype := .long) (ty := .long) (a0 := (12, .inr (.inl (fun _ => 0)))) hl2 rfl (by decide +kernel) (fun _ => rfl) (td kX12_init 10 rfl) (fun h0 gc gs st w kk => N_bipush (pc := 22) (v := 12) (td kX12_init 11 rfl) (by decide) kk) (t0 := 1) (fun _ => rfl) na_l rfl (fun _ => rfl) (by decide) rfl (by decide) (td kX12_init 12 rfl) fk_X12_16 (fun _ => rfl) (fun _ => rfl) (td kX12_init 13 rfl) (fun qs3 hl3 hg3 => ?_)
    have hq3 := hg3.trans hq2
    clear hg3 hl2 hq2
    refine N_arrM (i := 3) (pc := 29) (gc := 45) (gs := 6123) (n := 12) (N' := 12) (pl := 2) (k := 12) (atype := .long) (ty := .long) (a0 := (12, .inr (.inl (fun _ => 0)))) hl3 rfl (by decide +kernel) (fun _ => rfl) (td kX12_init 14 rfl) (fun h0 gc gs st w kk => N_bipush (pc := 30) (v := 12) (td kX12_init 15 rfl) (by decide) kk) (t0 := 1) (fun _ => rfl) na_l rfl (fun _ => rfl) (by decide) rfl (by decide) (td kX12_init 16 rfl) fk_X12_20 (fun _ => rfl) (fun _ => rfl) (td kX12_init 17 rfl) (fun qs4 hl4 hg4 => ?_)
    have hq4 := hg4.trans hq3
    clear hg4 hl3 hq3
    refine N_arrM (i := 4) (pc := 37) (gc := 44) (gs := 6107) (n := 16) (N' := 16) (pl := 2) (k := 13) (atype := .int) (ty := .int) (a0 := (16, .inl (fun _ => 0))) hl4 rfl (by decide +kernel) (fun _ => rfl) (td kX12_init 18 rfl) (fun h0 gc gs st w kk => N_bipush (pc := 38) (v := 16) (td kX12_init 19 rfl) (by decide) kk) (t0 := 0) (fun _ => rfl) na_i rfl (fun _ => rfl) (by decide) rfl (by decide) (td kX12_init 20 rfl) fk_X12_23 (fun _ => rfl) (fun _ => rfl) (td kX12_init 21 rfl) (fun qs5 hl5 hg5 => ?_)
    have hq5 := hg5.trans hq4
    clear hg5 hl4 hq4
    refine N_arrM (i := 5) (pc := 45) (gc := 43) (gs := 6091) (n := 16) (N' := 16) (pl := 2) (k := 14) (atype := .int) (ty := .int) (a0 := (16, .inl (fun _ => 0))) hl5 rfl (by decide +kernel) (fun _ => rfl) (td kX12_init 22 rfl) (fun h0 gc gs st w kk => N_bipush (pc := 46) (v := 16) (td kX12_init 23 rfl) (by decide) kk) (t0 := 0) (fun _ => rfl) na_i rfl (fun _ => rfl) (by decide) rfl (by decide) (td kX12_init 24 rfl) fk_X12_26 (fun _ => rfl) (fun _ => rfl) (td kX12_init 25 rfl) (fun qs6 hl6 hg6 => ?_)
    have hq6 := hg6.trans hq5
    clear hg6 hl5 hq5
    refine N_arrM (i := 6) (pc := 53) (gc := 42) (gs := 6075) (n := 16) (N' := 16) (pl := 2) (k := 15) (atype := .int) (ty := .int) (a0 := (16, .inl (fun _ => 0))) hl6 rfl (by decide +kernel) (fun _ => rfl) (td kX12_init 26 rfl) (fun h0 gc gs st w kk => N_bipush (pc := 54) (v := 16) (td kX12_init 27 rfl) (by decide) kk) (t0 := 0) (fun _ => rfl) na_i rfl (fun _ => rfl) (by decide) rfl (by decide) (td kX12_init 28 rfl) fk_X12_29 (fun _ => rfl) (fun _ => rfl) (td kX12_init 29 rfl) (fun qs7 hl7 hg7 => ?_)
    have hq7 := hg7.trans hq6
    clear hg7 hl6 hq6
    refine N_arrM (i := 7) (pc := 61) (gc := 41) (gs := 6063) (n := 12) (N' := 12) (pl := 2) (k := 16) (atype := .int) (ty := .int) (a0 := (12, .inl (fun _ => 0))) hl7 rfl (by decide +kernel) (fun _ => rfl) (td kX12_init 30 rfl) (fun h0 gc gs st w kk => N_bipush (pc := 62) (v := 12) (td kX12_init 31 rfl) (by decide) kk) (t0 := 0) (fun _ => rfl) na_i rfl (fun _ => rfl) (by decide) rfl (by decide) (td kX12_init 32 rfl) fk_X12_32 (fun _ => rfl) (fun _ => rfl) (td kX12_init 33 rfl) (fun qs8 hl8 hg8 => ?_)
    have hq8 := hg8.trans hq7
    clear hg8 hl7 hq7
    refine N_arrM (i := 8) (pc := 69) (gc := 40) (gs := 6051) (n := 12) (N' := 12) (pl := 2) (k := 17) (atype := .int) (ty := .int) (a0 := (12, .inl (fun _ => 0))) hl8 rfl (by decide +kernel) (fun _ => rfl) (td kX12_init 34 rfl) (fun h0 gc gs st w kk => N_bipush (pc := 70) (v := 12) (td kX12_init 35 rfl) (by decide) kk) (t0 := 0) (fun _ => rfl) na_i rfl (fun _ => rfl) (by decide) rfl (by decide) (td kX12_init 36 rfl) fk_X12_35 (fun _ => rfl) (fun _ => rfl) (td kX12_init 37 rfl) (fun qs9 hl9 hg9 => ?_)
    have hq9 := hg9.trans hq8
    clear hg9 hl8 hq8
    refine N_arrM (i := 9) (pc := 77) (gc := 39) (gs := 6039) (n := 12) (N' := 12) (pl := 2) (k := 18) (atype := .int) (ty := .int) (a0 := (12, .inl (fun _ => 0))) hl9 rfl (by decide +kernel) (fun _ => rfl) (td kX12_init 38 rfl) (fun h0 gc gs st w kk => N_bipush (pc := 78) (v := 12) (td kX12_init 39 rfl) (by decide) kk) (t0 := 0) (fun _ => rfl) na_i rfl (fun _ => rfl) (by decide) rfl (by decide) (td kX12_init 40 rfl) fk_X12_38 (fun _ => rfl) (fun _ => rfl) (td kX12_init 41 rfl) (fun qs10 hl10 hg10 => ?_)
    have hq10 := hg10.trans hq9
    clear hg10 hl9 hq9
    refine N_arrM (i := 10) (pc := 85) (gc := 38) (gs := 6027) (n := 12) (N' := 12) (pl := 2) (k := 19) (atype := .int) (ty := .int) (a0 := (12, .inl (fun _ => 0))) hl10 rfl (by decide +kernel) (fun _ => rfl) (td kX12_init 42 rfl) (fun h0 gc gs st w kk => N_bipush (pc := 86) (v := 12) (td kX12_init 43 rfl) (by decide) kk) (t0 := 0) (fun _ => rfl) na_i rfl (fun _ => rfl) (by decide) rfl (by decide) (td kX12_init 44 rfl) fk_X12_41 (fun _ => rfl) (fun _ => rfl) (td kX12_init 45 rfl) (fun qs11 hl11 hg11 => ?_)
    have hq11 := hg11.trans hq10
    clear hg11 hl10 hq10
    refine N_arrM (i := 11) (pc := 93) (gc := 37) (gs := 6025) (n := 2) (N' := 2) (pl := 1) (k := 20) (atype := .int) (ty := .int) (a0 := (2, .inl (fun _ => 0))) hl11 rfl (by decide +kernel) (fun _ => rfl) (td kX12_init 46 rfl) (fun h0 gc gs st w kk => N_iconst (pc := 94) (v := 2) (td kX12_init 47 rfl) (by decide) kk) (t0 := 0) (fun _ => rfl) na_i rfl (fun _ => rfl) (by decide) rfl (by decide) (td kX12_init 48 rfl) fk_X12_44 (fun _ => rfl) (fun _ => rfl) (td kX12_init 49 rfl) (fun qs12 hl12 hg12 => ?_)
    have hq12 := hg12.trans hq11
    clear hg12 hl11 hq11
    refine N_arrM (i := 12) (pc := 100) (gc := 36) (gs := 6023) (n := 2) (N' := 2) (pl := 1) (k := 21) (atype := .int) (ty := .int) (a0 := (2, .inl (fun _ => 0))) hl12 rfl (by decide +kernel) (fun _ => rfl) (td kX12_init 50 rfl) (fun h0 gc gs st w kk => N_iconst (pc := 101) (v := 2) (td kX12_init 51 rfl) (by decide) kk) (t0 := 0) (fun _ => rfl) na_i rfl (fun _ => rfl) (by decide) rfl (by decide) (td kX12_init 52 rfl) fk_X12_47 (fun _ => rfl) (fun _ => rfl) (td kX12_init 53 rfl) (fun qs13 hl13 hg13 => ?_)
    have hq13 := hg13.trans hq12
    clear hg13 hl12 hq12
    refine N_arrM (i := 13) (pc := 107) (gc := 35) (gs := 4023) (n := 2000) (N' := 2000) (pl := 3) (k := 22) (atype := .int) (ty := .int) (a0 := (2000, .inl (fun _ => 0))) hl13 rfl (by decide +kernel) (fun _ => rfl) (td kX12_init 54 rfl) (fun h0 gc gs st w kk => N_sipush (pc := 108) (v := 2000) (td kX12_init 55 rfl) (by decide) kk) (t0 := 0) (fun _ => rfl) na_i rfl (fun _ => rfl) (by decide) rfl (by decide) (td kX12_init 56 rfl) fk_X12_50 (fun _ => rfl) (fun _ => rfl) (td kX12_init 57 rfl) (fun qs14 hl14 hg14 => ?_)
    have hq14 := hg14.trans hq13
    clear hg14 hl13 hq13
    refine N_arrM (i := 14) (pc := 116) (gc := 34) (gs := 4016) (n := 7) (N' := 7) (pl := 2) (k := 25) (atype := .int) (ty := .int) (a0 := (7, .inl (fun _ => 0))) hl14 rfl (by decide +kernel) (fun _ => rfl) (td kX12_init 58 rfl) (fun h0 gc gs st w kk => N_bipush (pc := 117) (v := 7) (td kX12_init 59 rfl) (by decide) kk) (t0 := 0) (fun _ => rfl) na_i rfl (fun _ => rfl) (by decide) rfl (by decide) (td kX12_init 60 rfl) fk_X12_53 (fun _ => rfl) (fun _ => rfl) (td kX12_init 61 rfl) (fun qs15 hl15 hg15 => ?_)
    have hq15 := hg15.trans hq14
    clear hg15 hl14 hq14
    refine N_arrM (i := 15) (pc := 124) (gc := 33) (gs := 4009) (n := 7) (N' := 7) (pl := 2) (k := 26) (atype := .boolean) (ty := .boolean) (a0 := (7, .inl (fun _ => 0))) hl15 rfl (by decide +kernel) (fun _ => rfl) (td kX12_init 62 rfl) (fun h0 gc gs st w kk => N_bipush (pc := 125) (v := 7) (td kX12_init 63 rfl) (by decide) kk) (t0 := 4) (fun _ => rfl) na_z rfl (fun _ => rfl) (by decide) rfl (by decide) (td kX12_init 64 rfl) fk_X12_56 (fun _ => rfl) (fun _ => rfl) (td kX12_init 65 rfl) (fun qs16 hl16 hg16 => ?_)
    have hq16 := hg16.trans hq15
    clear hg16 hl15 hq15
    refine N_arrM (i := 16) (pc := 132) (gc := 32) (gs := 4002) (n := 7) (N' := 7) (pl := 2) (k := 27) (atype := .int) (ty := .int) (a0 := (7, .inl (fun _ => 0))) hl16 rfl (by decide +kernel) (fun _ => rfl) (td kX12_init 66 rfl) (fun h0 gc gs st w kk => N_bipush (pc := 133) (v := 7) (td kX12_init 67 rfl) (by decide) kk) (t0 := 0) (fun _ => rfl) na_i rfl (fun _ => rfl) (by decide) rfl (by decide) (td kX12_init 68 rfl) fk_X12_60 (fun _ => rfl) (fun _ => rfl) (td kX12_init 69 rfl) (fun qs17 hl17 hg17 => ?_)
    have hq17 := hg17.trans hq16
    clear hg17 hl16 hq16
    refine N_arrM (i := 17) (pc := 140) (gc := 31) (gs := 3995) (n := 7) (N' := 7) (pl := 2) (k := 28) (atype := .int) (ty := .int) (a0 := (7, .inl (fun _ => 0))) hl17 rfl (by decide +kernel) (fun _ => rfl) (td kX12_init 70 rfl) (fun h0 gc gs st w kk => N_bipush (pc := 141) (v := 7) (td kX12_init 71 rfl) (by decide) kk) (t0 := 0) (fun _ => rfl) na_i rfl (fun _ => rfl) (by decide) rfl (by decide) (td kX12_init 72 rfl) fk_X12_63 (fun _ => rfl) (fun _ => rfl) (td kX12_init 73 rfl) (fun qs18 hl18 hg18 => ?_)
    have hq18 := hg18.trans hq17
    clear hg18 hl17 hq17
    refine N_arrM (i := 18) (pc := 148) (gc := 30) (gs := 3988) (n := 7) (N' := 7) (pl := 2) (k := 29) (atype := .int) (ty := .int) (a0 := (7, .inl (fun _ => 0))) hl18 rfl (by decide +kernel) (fun _ => rfl) (td kX12_init 74 rfl) (fun h0 gc gs st w kk => N_bipush (pc := 149) (v := 7) (td kX12_init 75 rfl) (by decide) kk) (t0 := 0) (fun _ => rfl) na_i rfl (fun _ => rfl) (by decide) rfl (by decide) (td kX12_init 76 rfl) fk_X12_66 (fun _ => rfl) (fun _ => rfl) (td kX12_init 77 rfl) (fun qs19 hl19 hg19 => ?_)
    have hq19 := hg19.trans hq18
    clear hg19 hl18 hq18
    refine N_arrM (i := 19) (pc := 156) (gc := 29) (gs := 3981) (n := 7) (N' := 7) (pl := 2) (k := 30) (atype := .int) (ty := .int) (a0 := (7, .inl (fun _ => 0))) hl19 rfl (by decide +kernel) (fun _ => rfl) (td kX12_init 78 rfl) (fun h0 gc gs st w kk => N_bipush (pc := 157) (v := 7) (td kX12_init 79 rfl) (by decide) kk) (t0 := 0) (fun _ => rfl) na_i rfl (fun _ => rfl) (by decide) rfl (by decide) (td kX12_init 80 rfl) fk_X12_69 (fun _ => rfl) (fun _ => rfl) (td kX12_init 81 rfl) (fun qs20 hl20 hg20 => ?_)
    have hq20 := hg20.trans hq19
    clear hg20 hl19 hq19
    refine N_arrM (i := 20) (pc := 164) (gc := 28) (gs := 3974) (n := 7) (N' := 7) (pl := 2) (k := 31) (atype := .int) (ty := .int) (a0 := (7, .inl (fun _ => 0))) hl20 rfl (by decide +kernel) (fun _ => rfl) (td kX12_init 82 rfl) (fun h0 gc gs st w kk => N_bipush (pc := 165) (v := 7) (td kX12_init 83 rfl) (by decide) kk) (t0 := 0) (fun _ => rfl) na_i rfl (fun _ => rfl) (by decide) rfl (by decide) (td kX12_init 84 rfl) fk_X12_72 (fun _ => rfl) (fun _ => rfl) (td kX12_init 85 rfl) (fun qs21 hl21 hg21 => ?_)
    have hq21 := hg21.trans hq20
    clear hg21 hl20 hq20
    refine N_arrM (i := 21) (pc := 172) (gc := 27) (gs := 3967) (n := 7) (N' := 7) (pl := 2) (k := 32) (atype := .int) (ty := .int) (a0 := (7, .inl (fun _ => 0))) hl21 rfl (by decide +kernel) (fun _ => rfl) (td kX12_init 86 rfl) (fun h0 gc gs st w kk => N_bipush (pc := 173) (v := 7) (td kX12_init 87 rfl) (by decide) kk) (t0 := 0) (fun _ => rfl) na_i rfl (fun _ => rfl) (by decide) rfl (by decide) (td kX12_init 88 rfl) fk_X12_75 (fun _ => rfl) (fun _ => rfl) (td kX12_init 89 rfl) (fun qs22 hl22 hg22 => ?_)
    have hq22 := hg22.trans hq21
    clear hg22 hl21 hq21
    refine N_arrM (i := 22) (pc := 180) (gc := 26) (gs := 3960) (n := 7) (N' := 7) (pl := 2) (k := 33) (atype := .int) (ty := .int) (a0 := (7, .inl (fun _ => 0))) hl22 rfl (by decide +kernel) (fun _ => rfl) (td kX12_init 90 rfl) (fun h0 gc gs st w kk => N_bipush (pc := 181) (v := 7) (td kX12_init 91 rfl) (by decide) kk) (t0 := 0) (fun _ => rfl) na_i rfl (fun _ => rfl) (by decide) rfl (by decide) (td kX12_init 92 rfl) fk_X12_78 (fun _ => rfl) (fun _ => rfl) (td kX12_init 93 rfl) (fun qs23 hl23 hg23 => ?_)
    have hq23 := hg23.trans hq22
    clear hg23 hl22 hq22
    refine N_arrM (i := 23) (pc := 188) (gc := 25) (gs := 3953) (n := 7) (N' := 7) (pl := 2) (k := 34) (atype := .int) (ty := .int) (a0 := (7, .inl (fun _ => 0))) hl23 rfl (by decide +kernel) (fun _ => rfl) (td kX12_init 94 rfl) (fun h0 gc gs st w kk => N_bipush (pc := 189) (v := 7) (td kX12_init 95 rfl) (by decide) kk) (t0 := 0) (fun _ => rfl) na_i rfl (fun _ => rfl) (by decide) rfl (by decide) (td kX12_init 96 rfl) fk_X12_81 (fun _ => rfl) (fun _ => rfl) (td kX12_init 97 rfl) (fun qs24 hl24 hg24 => ?_)
    have hq24 := hg24.trans hq23
    clear hg24 hl23 hq23
    refine N_arrM (i := 24) (pc := 196) (gc := 24) (gs := 3946) (n := 7) (N' := 7) (pl := 2) (k := 35) (atype := .int) (ty := .int) (a0 := (7, .inl (fun _ => 0))) hl24 rfl (by decide +kernel) (fun _ => rfl) (td kX12_init 98 rfl) (fun h0 gc gs st w kk => N_bipush (pc := 197) (v := 7) (td kX12_init 99 rfl) (by decide) kk) (t0 := 0) (fun _ => rfl) na_i rfl (fun _ => rfl) (by decide) rfl (by decide) (td kX12_init 100 rfl) fk_X12_84 (fun _ => rfl) (fun _ => rfl) (td kX12_init 101 rfl) (fun qs25 hl25 hg25 => ?_)
    have hq25 := hg25.trans hq24
    clear hg25 hl24 hq24
    refine N_arrM (i := 25) (pc := 204) (gc := 23) (gs := 3926) (n := 20) (N' := 20) (pl := 2) (k := 36) (atype := .int) (ty := .int) (a0 := (20, .inl (fun _ => 0))) hl25 rfl (by decide +kernel) (fun _ => rfl) (td kX12_init 102 rfl) (fun h0 gc gs st w kk => N_bipush (pc := 205) (v := 20) (td kX12_init 103 rfl) (by decide) kk) (t0 := 0) (fun _ => rfl) na_i rfl (fun _ => rfl) (by decide) rfl (by decide) (td kX12_init 104 rfl) fk_X12_87 (fun _ => rfl) (fun _ => rfl) (td kX12_init 105 rfl) (fun qs26 hl26 hg26 => ?_)
    have hq26 := hg26.trans hq25
    clear hg26 hl25 hq25
    refine N_arrM (i := 26) (pc := 212) (gc := 22) (gs := 3890) (n := 36) (N' := 36) (pl := 2) (k := 40) (atype := .int) (ty := .int) (a0 := (36, .inl (fun _ => 0))) hl26 rfl (by decide +kernel) (fun _ => rfl) (td kX12_init 106 rfl) (fun h0 gc gs st w kk => N_bipush (pc := 213) (v := 36) (td kX12_init 107 rfl) (by decide) kk) (t0 := 0) (fun _ => rfl) na_i rfl (fun _ => rfl) (by decide) rfl (by decide) (td kX12_init 108 rfl) fk_X12_90 (fun _ => rfl) (fun _ => rfl) (td kX12_init 109 rfl) (fun qs27 hl27 hg27 => ?_)
    have hq27 := hg27.trans hq26
    clear hg27 hl26 hq26
    refine N_arrM (i := 27) (pc := 220) (gc := 21) (gs := 3884) (n := 6) (N' := 6) (pl := 2) (k := 41) (atype := .int) (ty := .int) (a0 := (6, .inl (fun _ => 0))) hl27 rfl (by decide +kernel) (fun _ => rfl) (td kX12_init 110 rfl) (fun h0 gc gs st w kk => N_bipush (pc := 221) (v := 6) (td kX12_init 111 rfl) (by decide) kk) (t0 := 0) (fun _ => rfl) na_i rfl (fun _ => rfl) (by decide) rfl (by decide) (td kX12_init 112 rfl) fk_X12_93 (fun _ => rfl) (fun _ => rfl) (td kX12_init 113 rfl) (fun qs28 hl28 hg28 => ?_)
    have hq28 := hg28.trans hq27
    clear hg28 hl27 hq27
    refine N_arrM (i := 28) (pc := 228) (gc := 20) (gs := 3644) (n := 240) (N' := 240) (pl := 3) (k := 42) (atype := .int) (ty := .int) (a0 := (240, .inl (fun _ => 0))) hl28 rfl (by decide +kernel) (fun _ => rfl) (td kX12_init 114 rfl) (fun h0 gc gs st w kk => N_sipush (pc := 229) (v := 240) (td kX12_init 115 rfl) (by decide) kk) (t0 := 0) (fun _ => rfl) na_i rfl (fun _ => rfl) (by decide) rfl (by decide) (td kX12_init 116 rfl) fk_X12_96 (fun _ => rfl) (fun _ => rfl) (td kX12_init 117 rfl) (fun qs29 hl29 hg29 => ?_)
    have hq29 := hg29.trans hq28
    clear hg29 hl28 hq28
    refine N_arrM (i := 29) (pc := 237) (gc := 19) (gs := 3404) (n := 240) (N' := 240) (pl := 3) (k := 43) (atype := .int) (ty := .int) (a0 := (240, .inl (fun _ => 0))) hl29 rfl (by decide +kernel) (fun _ => rfl) (td kX12_init 118 rfl) (fun h0 gc gs st w kk => N_sipush (pc := 238) (v := 240) (td kX12_init 119 rfl) (by decide) kk) (t0 := 0) (fun _ => rfl) na_i rfl (fun _ => rfl) (by decide) rfl (by decide) (td kX12_init 120 rfl) fk_X12_99 (fun _ => rfl) (fun _ => rfl) (td kX12_init 121 rfl) (fun qs30 hl30 hg30 => ?_)
    have hq30 := hg30.trans hq29
    clear hg30 hl29 hq29
    refine N_arrM (i := 30) (pc := 246) (gc := 18) (gs := 3164) (n := 240) (N' := 240) (pl := 3) (k := 44) (atype := .int) (ty := .int) (a0 := (240, .inl (fun _ => 0))) hl30 rfl (by decide +kernel) (fun _ => rfl) (td kX12_init 122 rfl) (fun h0 gc gs st w kk => N_sipush (pc := 247) (v := 240) (td kX12_init 123 rfl) (by decide) kk) (t0 := 0) (fun _ => rfl) na_i rfl (fun _ => rfl) (by decide) rfl (by decide) (td kX12_init 124 rfl) fk_X12_102 (fun _ => rfl) (fun _ => rfl) (td kX12_init 125 rfl) (fun qs31 hl31 hg31 => ?_)
    have hq31 := hg31.trans hq30
    clear hg31 hl30 hq30
    refine N_arrM (i := 31) (pc := 255) (gc := 17) (gs := 3159) (n := 5) (N' := 5) (pl := 1) (k := 45) (atype := .int) (ty := .int) (a0 := (5, .inl (fun _ => 0))) hl31 rfl (by decide +kernel) (fun _ => rfl) (td kX12_init 126 rfl) (fun h0 gc gs st w kk => N_iconst (pc := 256) (v := 5) (td kX12_init 127 rfl) (by decide) kk) (t0 := 0) (fun _ => rfl) na_i rfl (fun _ => rfl) (by decide) rfl (by decide) (td kX12_init 128 rfl) fk_X12_105 (fun _ => rfl) (fun _ => rfl) (td kX12_init 129 rfl) (fun qs32 hl32 hg32 => ?_)
    have hq32 := hg32.trans hq31
    clear hg32 hl31 hq31
    refine N_arrM (i := 32) (pc := 262) (gc := 16) (gs := 3129) (n := 30) (N' := 30) (pl := 2) (k := 46) (atype := .int) (ty := .int) (a0 := (30, .inl (fun _ => 0))) hl32 rfl (by decide +kernel) (fun _ => rfl) (td kX12_init 130 rfl) (fun h0 gc gs st w kk => N_bipush (pc := 263) (v := 30) (td kX12_init 131 rfl) (by decide) kk) (t0 := 0) (fun _ => rfl) na_i rfl (fun _ => rfl) (by decide) rfl (by decide) (td kX12_init 132 rfl) fk_X12_108 (fun _ => rfl) (fun _ => rfl) (td kX12_init 133 rfl) (fun qs33 hl33 hg33 => ?_)
    have hq33 := hg33.trans hq32
    clear hg33 hl32 hq32
    refine N_arrM (i := 33) (pc := 270) (gc := 15) (gs := 3099) (n := 30) (N' := 30) (pl := 2) (k := 47) (atype := .int) (ty := .int) (a0 := (30, .inl (fun _ => 0))) hl33 rfl (by decide +kernel) (fun _ => rfl) (td kX12_init 134 rfl) (fun h0 gc gs st w kk => N_bipush (pc := 271) (v := 30) (td kX12_init 135 rfl) (by decide) kk) (t0 := 0) (fun _ => rfl) na_i rfl (fun _ => rfl) (by decide) rfl (by decide) (td kX12_init 136 rfl) fk_X12_111 (fun _ => rfl) (fun _ => rfl) (td kX12_init 137 rfl) (fun qs34 hl34 hg34 => ?_)
    have hq34 := hg34.trans hq33
    clear hg34 hl33 hq33
    refine N_arrM (i := 34) (pc := 278) (gc := 14) (gs := 3069) (n := 30) (N' := 30) (pl := 2) (k := 48) (atype := .boolean) (ty := .boolean) (a0 := (30, .inl (fun _ => 0))) hl34 rfl (by decide +kernel) (fun _ => rfl) (td kX12_init 138 rfl) (fun h0 gc gs st w kk => N_bipush (pc := 279) (v := 30) (td kX12_init 139 rfl) (by decide) kk) (t0 := 4) (fun _ => rfl) na_z rfl (fun _ => rfl) (by decide) rfl (by decide) (td kX12_init 140 rfl) fk_X12_114 (fun _ => rfl) (fun _ => rfl) (td kX12_init 141 rfl) (fun qs35 hl35 hg35 => ?_)
    have hq35 := hg35.trans hq34
    clear hg35 hl34 hq34
    refine N_arrM (i := 35) (pc := 286) (gc := 13) (gs := 3028) (n := 41) (N' := 41) (pl := 2) (k := 49) (atype := .int) (ty := .int) (a0 := (41, .inl (fun _ => 0))) hl35 rfl (by decide +kernel) (fun _ => rfl) (td kX12_init 142 rfl) (fun h0 gc gs st w kk => N_bipush (pc := 287) (v := 41) (td kX12_init 143 rfl) (by decide) kk) (t0 := 0) (fun _ => rfl) na_i rfl (fun _ => rfl) (by decide) rfl (by decide) (td kX12_init 144 rfl) fk_X12_117 (fun _ => rfl) (fun _ => rfl) (td kX12_init 145 rfl) (fun qs36 hl36 hg36 => ?_)
    have hq36 := hg36.trans hq35
    clear hg36 hl35 hq35
    refine N_arrM (i := 36) (pc := 294) (gc := 12) (gs := 2987) (n := 41) (N' := 41) (pl := 2) (k := 50) (atype := .int) (ty := .int) (a0 := (41, .inl (fun _ => 0))) hl36 rfl (by decide +kernel) (fun _ => rfl) (td kX12_init 146 rfl) (fun h0 gc gs st w kk => N_bipush (pc := 295) (v := 41) (td kX12_init 147 rfl) (by decide) kk) (t0 := 0) (fun _ => rfl) na_i rfl (fun _ => rfl) (by decide) rfl (by decide) (td kX12_init 148 rfl) fk_X12_120 (fun _ => rfl) (fun _ => rfl) (td kX12_init 149 rfl) (fun qs37 hl37 hg37 => ?_)
    have hq37 := hg37.trans hq36
    clear hg37 hl36 hq36
    refine N_arrM (i := 37) (pc := 302) (gc := 11) (gs := 2946) (n := 41) (N' := 41) (pl := 2) (k := 51) (atype := .int) (ty := .int) (a0 := (41, .inl (fun _ => 0))) hl37 rfl (by decide +kernel) (fun _ => rfl) (td kX12_init 150 rfl) (fun h0 gc gs st w kk => N_bipush (pc := 303) (v := 41) (td kX12_init 151 rfl) (by decide) kk) (t0 := 0) (fun _ => rfl) na_i rfl (fun _ => rfl) (by decide) rfl (by decide) (td kX12_init 152 rfl) fk_X12_123 (fun _ => rfl) (fun _ => rfl) (td kX12_init 153 rfl) (fun qs38 hl38 hg38 => ?_)
    have hq38 := hg38.trans hq37
    clear hg38 hl37 hq37
    refine N_arrM (i := 38) (pc := 310) (gc := 10) (gs := 2782) (n := 164) (N' := 164) (pl := 3) (k := 52) (atype := .int) (ty := .int) (a0 := (164, .inl (fun _ => 0))) hl38 rfl (by decide +kernel) (fun _ => rfl) (td kX12_init 154 rfl) (fun h0 gc gs st w kk => N_sipush (pc := 311) (v := 164) (td kX12_init 155 rfl) (by decide) kk) (t0 := 0) (fun _ => rfl) na_i rfl (fun _ => rfl) (by decide) rfl (by decide) (td kX12_init 156 rfl) fk_X12_126 (fun _ => rfl) (fun _ => rfl) (td kX12_init 157 rfl) (fun qs39 hl39 hg39 => ?_)
    have hq39 := hg39.trans hq38
    clear hg39 hl38 hq38
    refine N_arrM (i := 39) (pc := 319) (gc := 9) (gs := 2126) (n := 656) (N' := 656) (pl := 3) (k := 53) (atype := .int) (ty := .int) (a0 := (656, .inl (fun _ => 0))) hl39 rfl (by decide +kernel) (fun _ => rfl) (td kX12_init 158 rfl) (fun h0 gc gs st w kk => N_sipush (pc := 320) (v := 656) (td kX12_init 159 rfl) (by decide) kk) (t0 := 0) (fun _ => rfl) na_i rfl (fun _ => rfl) (by decide) rfl (by decide) (td kX12_init 160 rfl) fk_X12_129 (fun _ => rfl) (fun _ => rfl) (td kX12_init 161 rfl) (fun qs40 hl40 hg40 => ?_)
    have hq40 := hg40.trans hq39
    clear hg40 hl39 hq39
    refine N_arrM (i := 40) (pc := 328) (gc := 8) (gs := 2122) (n := 4) (N' := 4) (pl := 1) (k := 54) (atype := .boolean) (ty := .boolean) (a0 := (4, .inl (fun _ => 0))) hl40 rfl (by decide +kernel) (fun _ => rfl) (td kX12_init 162 rfl) (fun h0 gc gs st w kk => N_iconst (pc := 329) (v := 4) (td kX12_init 163 rfl) (by decide) kk) (t0 := 4) (fun _ => rfl) na_z rfl (fun _ => rfl) (by decide) rfl (by decide) (td kX12_init 164 rfl) fk_X12_132 (fun _ => rfl) (fun _ => rfl) (td kX12_init 165 rfl) (fun qs41 hl41 hg41 => ?_)
    have hq41 := hg41.trans hq40
    clear hg41 hl40 hq40
    refine N_intM (i := 41) (pc := 335) (v := 63) (pl := 2) (td kX12_init 166 rfl) (fun h0 gc gs st w kk => N_bipush (pc := 336) (v := 63) (td kX12_init 167 rfl) (by decide) kk) fk_X12_135 rfl rfl (td kX12_init 168 rfl) ?_
    refine N_arrM (i := 41) (pc := 341) (gc := 7) (gs := 2114) (n := 8) (N' := 8) (pl := 2) (k := 58) (atype := .int) (ty := .int) (a0 := (8, .inl (fun _ => 0))) hl41 rfl (by decide +kernel) (fun _ => rfl) (td kX12_init 169 rfl) (fun h0 gc gs st w kk => N_bipush (pc := 342) (v := 8) (td kX12_init 170 rfl) (by decide) kk) (t0 := 0) (fun _ => rfl) na_i rfl (fun _ => rfl) (by decide) rfl (by decide) (td kX12_init 171 rfl) fk_X12_139 (fun _ => rfl) (fun _ => rfl) (td kX12_init 172 rfl) (fun qs42 hl42 hg42 => ?_)
    have hq42 := hg42.trans hq41
    clear hg42 hl41 hq41
    refine N_arrM (i := 42) (pc := 349) (gc := 6) (gs := 2108) (n := 6) (N' := 6) (pl := 2) (k := 59) (atype := .int) (ty := .int) (a0 := (6, .inl (fun _ => 0))) hl42 rfl (by decide +kernel) (fun _ => rfl) (td kX12_init 173 rfl) (fun h0 gc gs st w kk => N_bipush (pc := 350) (v := 6) (td kX12_init 174 rfl) (by decide) kk) (t0 := 0) (fun _ => rfl) na_i rfl (fun _ => rfl) (by decide) rfl (by decide) (td kX12_init 175 rfl) fk_X12_142 (fun _ => rfl) (fun _ => rfl) (td kX12_init 176 rfl) (fun qs43 hl43 hg43 => ?_)
    have hq43 := hg43.trans hq42
    clear hg43 hl42 hq42
    refine N_arrM (i := 43) (pc := 357) (gc := 5) (gs := 2102) (n := 6) (N' := 6) (pl := 2) (k := 64) (atype := .int) (ty := .int) (a0 := (6, .inl (fun _ => 0))) hl43 rfl (by decide +kernel) (fun _ => rfl) (td kX12_init 177 rfl) (fun h0 gc gs st w kk => N_bipush (pc := 358) (v := 6) (td kX12_init 178 rfl) (by decide) kk) (t0 := 0) (fun _ => rfl) na_i rfl (fun _ => rfl) (by decide) rfl (by decide) (td kX12_init 179 rfl) fk_X12_145 (fun _ => rfl) (fun _ => rfl) (td kX12_init 180 rfl) (fun qs44 hl44 hg44 => ?_)
    have hq44 := hg44.trans hq43
    clear hg44 hl43 hq43
    refine N_arrM (i := 44) (pc := 365) (gc := 4) (gs := 2096) (n := 6) (N' := 6) (pl := 2) (k := 65) (atype := .int) (ty := .int) (a0 := (6, .inl (fun _ => 0))) hl44 rfl (by decide +kernel) (fun _ => rfl) (td kX12_init 181 rfl) (fun h0 gc gs st w kk => N_bipush (pc := 366) (v := 6) (td kX12_init 182 rfl) (by decide) kk) (t0 := 0) (fun _ => rfl) na_i rfl (fun _ => rfl) (by decide) rfl (by decide) (td kX12_init 183 rfl) fk_X12_148 (fun _ => rfl) (fun _ => rfl) (td kX12_init 184 rfl) (fun qs45 hl45 hg45 => ?_)
    have hq45 := hg45.trans hq44
    clear hg45 hl44 hq44
    refine N_arrM (i := 45) (pc := 373) (gc := 3) (gs := 1996) (n := 100) (N' := 100) (pl := 2) (k := 66) (atype := .int) (ty := .int) (a0 := (100, .inl (fun _ => 0))) hl45 rfl (by decide +kernel) (fun _ => rfl) (td kX12_init 185 rfl) (fun h0 gc gs st w kk => N_bipush (pc := 374) (v := 100) (td kX12_init 186 rfl) (by decide) kk) (t0 := 0) (fun _ => rfl) na_i rfl (fun _ => rfl) (by decide) rfl (by decide) (td kX12_init 187 rfl) fk_X12_151 (fun _ => rfl) (fun _ => rfl) (td kX12_init 188 rfl) (fun qs46 hl46 hg46 => ?_)
    have hq46 := hg46.trans hq45
    clear hg46 hl45 hq45
    refine N_arrM (i := 46) (pc := 381) (gc := 2) (gs := 1990) (n := 6) (N' := 6) (pl := 2) (k := 67) (atype := .int) (ty := .int) (a0 := (6, .inl (fun _ => 0))) hl46 rfl (by decide +kernel) (fun _ => rfl) (td kX12_init 189 rfl) (fun h0 gc gs st w kk => N_bipush (pc := 382) (v := 6) (td kX12_init 190 rfl) (by decide) kk) (t0 := 0) (fun _ => rfl) na_i rfl (fun _ => rfl) (by decide) rfl (by decide) (td kX12_init 191 rfl) fk_X12_154 (fun _ => rfl) (fun _ => rfl) (td kX12_init 192 rfl) (fun qs47 hl47 hg47 => ?_)
    have hq47 := hg47.trans hq46
    clear hg47 hl46 hq46
    refine N_arrM (i := 47) (pc := 389) (gc := 1) (gs := 1984) (n := 6) (N' := 6) (pl := 2) (k := 68) (atype := .int) (ty := .int) (a0 := (6, .inl (fun _ => 0))) hl47 rfl (by decide +kernel) (fun _ => rfl) (td kX12_init 193 rfl) (fun h0 gc gs st w kk => N_bipush (pc := 390) (v := 6) (td kX12_init 194 rfl) (by decide) kk) (t0 := 0) (fun _ => rfl) na_i rfl (fun _ => rfl) (by decide) rfl (by decide) (td kX12_init 195 rfl) fk_X12_157 (fun _ => rfl) (fun _ => rfl) (td kX12_init 196 rfl) (fun qs48 hl48 hg48 => ?_)
    have hq48 := hg48.trans hq47
    clear hg48 hl47 hq47
    refine N_arrM (i := 48) (pc := 397) (gc := 0) (gs := 0) (n := 1984) (N' := 1984) (pl := 3) (k := 71) (atype := .int) (ty := .int) (a0 := (1984, .inl (fun _ => 0))) hl48 rfl (by decide +kernel) (fun _ => rfl) (td kX12_init 197 rfl) (fun h0 gc gs st w kk => N_sipush (pc := 398) (v := 1984) (td kX12_init 198 rfl) (by decide) kk) (t0 := 0) (fun _ => rfl) na_i rfl (fun _ => rfl) (by decide) rfl (by decide) (td kX12_init 199 rfl) fk_X12_160 (fun _ => rfl) (fun _ => rfl) (td kX12_init 200 rfl) (fun qs49 hl49 hg49 => ?_)
    have hq49 := hg49.trans hq48
    clear hg49 hl48 hq48
    obtain ⟨μ0, e0, hp⟩ := mo_first
    have hx := x_imgM zMo
    rw [e0] at hx
    refine N_eq (mo_eq (ρ := ρ)) ?_
    exact N_X (L := [(0, .ref 0)]) (stk := []) (fun i hi => if_neg (by omega)) hx rfl rfl ⟨qs49, μ0, hl49, hq49, rfl, hp⟩
  refine N_aload_n (pc := 0) (td kX12_init 0 rfl) rfl 0 rfl ?_
  refine N_obj (pc := 1) no_X12 (by decide) (Nat.le_of_ble_eq_true rfl) (td kX12_init 1 rfl) ?_
  exact st0 [h0] rfl rfl
