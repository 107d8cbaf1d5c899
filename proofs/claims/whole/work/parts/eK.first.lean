/-! the law's first steps -/
theorem nw_L_8 : Cond.classLink RL 8 RX11 ∈ GT := gt_t 26 (by decide +kernel) (by decide)
theorem nk_X11_a : Cond.instantiable RX11 11 ∈ GT := gt_t 27 (by decide +kernel) (by decide)
theorem nk_X11_b : Cond.initialized RX11 ∈ GT := gt_t 1 (by decide +kernel) (by decide)
theorem nk_X11_c : Cond.instanceMethod yX11_init ∈ GT := gt_t 29 (by decide +kernel) (by decide)
theorem nk_X11_d : Cond.code yX11_init cX11_init 2 none ∈ GT := gt_t 30 (by decide +kernel) (by decide)
theorem nw_L_20 : Cond.classLink RL 20 RX12 ∈ GT := gt_t 1192 (by decide +kernel) (by decide)
theorem nk_X12_a : Cond.instantiable RX12 73 ∈ GT := gt_t 1193 (by decide +kernel) (by decide)
theorem nk_X12_b : Cond.initialized RX12 ∈ GT := gt_t 17 (by decide +kernel) (by decide)
theorem nk_X12_c : Cond.instanceMethod yX12_init ∈ GT := gt_t 1195 (by decide +kernel) (by decide)
theorem nk_X12_d : Cond.code yX12_init cX12_init 1 none ∈ GT := gt_t 1196 (by decide +kernel) (by decide)
theorem nk_X11_f : ∀ j, j < 11 → defaultValue (tyX11 j) = vp_V [.null, .null, .null, .null, .null, .null, .null, .null, .null, .null, .null] j := by
  intro j hj
  rcases (show j = 0 ∨ j = 1 ∨ j = 2 ∨ j = 3 ∨ j = 4 ∨ j = 5 ∨ j = 6 ∨ j = 7 ∨ j = 8 ∨ j = 9 ∨ j = 10 by omega) with rfl | rfl | rfl | rfl | rfl | rfl | rfl | rfl | rfl | rfl | rfl <;> rfl

theorem lw_lv {ρ : Nat → Nat} {ls4 : Array Slot} (hl4 : lv_has ls4 7 [(4, .int 0), (3, .ref (ρ 3000)), (2, .ref (ρ 2000)), (1, .ref (ρ 0)), (0, .ref (ρ 4000))]) : lv_has ls4 7 ((lws 0).map (trL ρ)) := lv_sub hl4 [4, 3, 2, 1, 0] rfl
theorem lw_ent {p : Program} {e : Env} {s : State} {m : MethodId} {below : List Frame} {meth : Method} {c : Code} {l : Launch} {b L cells slots : Nat} {xs : Nat → Int32} {D : va_G} {κ : FieldType → ClassId} {ρ : Nat → Nat} {σ μ : Mm} {H5 : Heap} {locs4 : List Loc} {ls4 : Array Slot} (hL : L ≤ 3584) (hC : LCx L xs D κ ρ p l s m meth c b) (hI : Iv σ μ) (hW : LWS D κ ρ s σ μ (fun _ => 0) H5 locs4) (hc : cells ≤ 1000) (hsl : slots ≤ 100000) (hl4 : lv_has ls4 7 [(4, .int 0), (3, .ref (ρ 3000)), (2, .ref (ρ 2000)), (1, .ref (ρ 0)), (0, .ref (ρ 4000))]) : W p l e room_1 s m #[Value.ref b] below meth c H5 locs4 cells slots (lw_Z below #[Value.ref b] s) (F0 m 23 ls4 []) :=
  lw_loop (xs := xs) hL 512 0 σ μ (fun _ => 0) (by omega) (by omega) hI D κ ρ p l e s m below meth c b hC H5 locs4 cells slots ls4 ⟨by omega, by omega⟩ hW (lw_lv hl4)
theorem lws_firstE {D : va_G} {κ : FieldType → ClassId} {ρ0 : Nat → Nat} {s : State} {H : Heap} {locs : List Loc} {wC w2 : va_W} {qs Q : List Nat} {μ τ : Mm} {qo b : Nat} (hq : Wq wC (wsOf SHC κ (thC (rX ρ0 qs qo b) Q) (mC τ))) (hw : w2 = wsOf SHM κ (fun i => if i < 1000000 then gD qs i else ρ0 i) μ) (hP : va_P D vwCl ((wC ++ w2) ++ [(qo, .inl (κ .long, 1, .inr (.inl (fun _ => 0))))]) H) (hD : va_D (fun q => s.heap.size ≤ q) ((wC ++ w2) ++ [(qo, .inl (κ .long, 1, .inr (.inl (fun _ => 0))))])) (hS : va_S (fun q => s.heap.size ≤ q) s.heap H locs) : LWS D κ (thC (rX ρ0 qs qo b) Q) s (mC τ) μ (fun _ => 0) H locs := by
  rw [hw] at hP hD
  exact lws_first (wC := wC) (qs := qs) (Q := Q) (μ := μ) (τ := τ) (qo := qo) (b := b) (ρ0 := ρ0) hq hP hD hS
theorem gmo_out {κ : FieldType → ClassId} {ρ : Nat → Nat} {h0 : Nat} {w : va_W} (h : Gmo κ ρ h0 w) : ∃ (qs : List Nat) (μ : Mm), gD qs 0 = h0 ∧ w = wsOf SHM κ (fun i => if i < 1000000 then gD qs i else ρ i) μ ∧ MoF μ := by
  unfold Gmo at h
  obtain ⟨qs, μ, -, h2, h3, h4⟩ := h
  exact ⟨qs, μ, h2, h3, h4⟩
theorem lw_enter {p : Program} {e : Env} {s : State} {m : MethodId} {below : List Frame} {meth : Method} {c : Code} (l : Launch) {b L q1 q2 qo cells slots : Nat} {xs : Nat → Int32} {D : va_G} {κ : FieldType → ClassId} {ρ0 : Nat → Nat} {w1 w2 : va_W} {H5 : Heap} {locs4 : List Loc} {ls4 : Array Slot} (hL : L ≤ 3584) (hx : p.tables.exec = Jvm.exec) (hb : c.code = code) (hr : meth.sig.returnType = ret) (hml : c.maxLocals = 7) (hown : s.vm.findClass RL = some m.cls) (htb : ∀ w ∈ lw_tbl, w.before #[Value.ref b] s = true) (hX : va_X b L xs s s.heap) (hbl : b < s.heap.size) (hlk : meth.locks = false) (hK : va_K D vwCl (tysOf κ) s) (hEN : EN ρ0 (fun q => s.heap.size ≤ q) s s.heap) (hNW : NW s) (hst : l.stackTraces = false) (hG1 : Gn κ q1 w1) (hG2 : Gmo κ ρ0 q2 w2) (hP5 : va_P D vwCl ((w1 ++ w2) ++ [(qo, .inl (κ .long, 1, .inr (.inl (fun _ => 0))))]) H5) (hD5 : va_D (fun q => s.heap.size ≤ q) ((w1 ++ w2) ++ [(qo, .inl (κ .long, 1, .inr (.inl (fun _ => 0))))])) (hS5 : va_S (fun q => s.heap.size ≤ q) s.heap H5 locs4) (hc : cells ≤ 1000) (hsl : slots ≤ 100000) (hl4 : lv_has ls4 7 [(4, .int 0), (3, .ref qo), (2, .ref q2), (1, .ref q1), (0, .ref b)]) : W p l e room_1 s m #[Value.ref b] below meth c H5 locs4 cells slots (lw_Z below #[Value.ref b] s) (F0 m 23 ls4 []) := by
  have hts : ∀ w ∈ GT, w.before #[Value.ref b] s = true := fun w hw => htb w (gt_tbl hw)
  obtain ⟨qs, μ, m2, hw, hmo⟩ := gmo_out hG2
  obtain ⟨Q, τ, g1, g2, g3⟩ := gn_world hG1 (rX ρ0 qs qo b)
  have hlws := lws_firstE (s := s) (locs := locs4) g3 hw hP5 hD5 hS5
  have r3 : thC (rX ρ0 qs qo b) Q 3000 = qo := rX_o
  have r4 : thC (rX ρ0 qs qo b) Q 4000 = b := rX_b
  have r2 : thC (rX ρ0 qs qo b) Q 2000 = q2 := (rX_m (i := 0) (by decide)).trans m2
  have r0 : thC (rX ρ0 qs qo b) Q 0 = q1 := (thC_lt (i := 0) (by decide)).trans g1
  have re : ∀ i, 1000000 ≤ i → thC (rX ρ0 qs qo b) Q i = ρ0 i := fun i hi => rX_e hi
  generalize thC (rX ρ0 qs qo b) Q = ρ at hlws r3 r4 r2 r0 re
  clear g3 hP5 hD5
  have hl5 : lv_has ls4 7 [(4, .int 0), (3, .ref (ρ 3000)), (2, .ref (ρ 2000)), (1, .ref (ρ 0)), (0, .ref (ρ 4000))] := by
    rw [r3, r4, r2, r0]; exact hl4
  exact lw_ent hL ⟨⟨hx, hb, hr, hml, hown, hts, hlk⟩, hX, hbl, r4, hK, hEN.ren re, hNW, hst, htb⟩ (iv_first g2 hmo) hlws hc hsl hl5
set_option maxHeartbeats 400000 in
set_option maxRecDepth 100000 in
theorem lw_first {p : Program} {e : Env} {s : State} {m : MethodId} {below : List Frame} {meth : Method} {c : Code} (l : Launch) {b L : Nat} {xs : Nat → Int32} {D : va_G} {κ : FieldType → ClassId} {ρ0 : Nat → Nat} (hL : L ≤ 3584) (hx : p.tables.exec = Jvm.exec) (hb : c.code = code) (hr : meth.sig.returnType = ret) (hml : c.maxLocals = 7) (hown : s.vm.findClass RL = some m.cls) (htb : ∀ w ∈ lw_tbl, w.before #[Value.ref b] s = true) (hX : va_X b L xs s s.heap) (hbl : b < s.heap.size) (hlk : meth.locks = false) (hK : va_K D vwCl (tysOf κ) s) (hEN : EN ρ0 (fun q => s.heap.size ≤ q) s s.heap) (hNW : NW s) (hNE : NE s) (hst : l.stackTraces = false) : W p l e room_1 s m #[Value.ref b] below meth c s.heap [] 0 0 (lw_Z below #[Value.ref b] s) (entryFrame m ([Value.ref b] : List Value).toArray 7) := by
  have hts : ∀ w ∈ GT, w.before #[Value.ref b] s = true := fun w hw => htb w (gt_tbl hw)
  have hA : ∀ q : Nat, s.heap.size ≤ q → s.heap.size ≤ q := fun _ h => h
  have hP0 : va_P D vwCl [] s.heap := fun k x hx => by cases hx
  have hD0 : va_D (fun q => s.heap.size ≤ q) [] := ⟨fun i j p q hp _ _ => (by cases hp), fun k q hq => (by cases hq)⟩
  have hl := lv_entry [Value.ref b] (n := 7) (Nat.le_of_ble_eq_true rfl)
  rw [lg_entry_eq]
  refine va_new (ci := 11) hx hb hts wi_X11 tyX11 tyX11_ok hown (hts _ nw_L_8) (hts _ nk_X11_a) (hts _ nk_X11_b) hK hP0 hD0 (va_S.rf (A := fun q => s.heap.size ≤ q)) hA rfl nk_X11_f (by decide) (by decide) (td kLw_0 0 rfl) (fun q1 H1 hP1 hD1 hS1 => ?_)
  refine lv_dup hx hb (td kLw_0 1 rfl) rfl ?_
  refine W_call (own := RL) (n := 0) (d := 41) (w := []) (As := []) (st := [.ref q1]) hx hb hml hown hts (by decide) (by decide) hK hA hEN hNE (n_X11 D κ ρ0 q1) lk_L_19 nk_X11_c nk_X11_d nk_X11_b (by decide +kernel) rfl (by decide) (by decide) rfl rfl (Nat.le_of_ble_eq_true rfl) (td kLw_0 2 rfl) (by decide) (by decide) ⟨hP1, hD1, hS1⟩ hl (fun w1 H2 locs2 hG1 hw2 => ?_)
  rw [List.nil_append w1] at hw2
  refine lv_astore_n (lv' := [(1, .ref q1), (0, .ref b)]) hx hb (i := 1) (td kLw_0 3 rfl) rfl hl (by decide) rfl (fun ls1 hl1 => ?_)
  refine va_new (ci := 12) hx hb hts wi_X12 tyX12 tyX12_ok hown (hts _ nw_L_20) (hts _ nk_X12_a) (hts _ nk_X12_b) hK hw2.1 hw2.2.1 hw2.2.2 hA rfl nk_X12_f (by decide) (by decide) (td kLw_0 4 rfl) (fun q2 H3 hP3 hD3 hS3 => ?_)
  refine lv_dup hx hb (td kLw_0 5 rfl) rfl ?_
  refine W_call (own := RL) (n := 0) (d := 41) (w := w1) (As := []) (st := [.ref q2]) hx hb hml hown hts (by decide) (by decide) hK hA hEN hNE (n_X12 D κ ρ0 q2) lk_L_22 nk_X12_c nk_X12_d nk_X12_b (by decide +kernel) rfl (by decide) (by decide) rfl rfl (Nat.le_of_ble_eq_true rfl) (td kLw_0 6 rfl) (by decide) (by decide) ⟨hP3, hD3, hS3⟩ hl1 (fun w2 H4 locs4 hG2 hw4 => ?_)
  refine lv_astore_n (lv' := [(2, .ref q2), (1, .ref q1), (0, .ref b)]) hx hb (i := 2) (td kLw_0 7 rfl) rfl hl1 (by decide) rfl (fun ls2 hl2 => ?_)
  refine lv_iconst hx hb (v := 1) (td kLw_0 8 rfl) (by decide) ?_
  refine va_newa (n := 1) (N' := 1) (atype := .long) (ty := .long) (a0 := (1, .inr (.inl (fun _ => 0)))) hx hb (hts _ na_l) rfl hK hw4.1 hw4.2.1 hw4.2.2 hA (fun _ => rfl) (by decide) rfl (by decide) (by decide) (by decide) (td kLw_0 9 rfl) (fun qo cA H5 hK5 hP5 hD5 hS5 => ?_)
  have e9 : cA = κ .long := by
    have h1 := (hK5.2 (tysOf κ).length (cA, .long) (by simp)).2
    exact ra_eq h1 (hK.2 1 _ rfl).2
  subst e9
  refine lv_astore_n (lv' := [(3, .ref qo), (2, .ref q2), (1, .ref q1), (0, .ref b)]) hx hb (i := 3) (td kLw_0 10 rfl) rfl hl2 (by decide) rfl (fun ls3 hl3 => ?_)
  refine lv_iconst hx hb (v := 0) (td kLw_0 11 rfl) (by decide) ?_
  refine lv_istore (lv' := [(4, .int 0), (3, .ref qo), (2, .ref q2), (1, .ref q1), (0, .ref b)]) hx hb (td kLw_0 12 rfl) hl3 (by decide) rfl (fun ls4 hl4 => ?_)
  exact lw_enter l hL hx hb hr hml hown htb hX hbl hlk hK hEN hNW hst hG1 hG2 hP5 hD5 hS5 (by decide) (by decide) hl4
