/-! the two made worlds and the row out are the law's first worlds -/
def rX (ρ : Nat → Nat) (qs : List Nat) (qo b : Nat) (i : Nat) : Nat := if 2000 ≤ i ∧ i < 2050 then gD qs (i - 2000) else if i = 3000 then qo else if i = 4000 then b else ρ i
theorem thC_ge {ρ : Nat → Nat} {Q : List Nat} {i : Nat} (h : ¬ i < 245) : thC ρ Q i = ρ i := if_neg h
theorem rX_m {ρ : Nat → Nat} {qs Q : List Nat} {qo b i : Nat} (h : i < 50) : thC (rX ρ qs qo b) Q (2000 + i) = gD qs i := by
  rw [thC_ge (by omega)]
  unfold rX
  rw [if_pos (by omega), Nat.add_sub_cancel_left]
theorem rX_o {ρ : Nat → Nat} {qs Q : List Nat} {qo b : Nat} : thC (rX ρ qs qo b) Q 3000 = qo := by
  rw [thC_ge (by omega)]
  unfold rX
  rw [if_neg (by omega), if_pos rfl]
theorem rX_b {ρ : Nat → Nat} {qs Q : List Nat} {qo b : Nat} : thC (rX ρ qs qo b) Q 4000 = b := by
  rw [thC_ge (by omega)]
  unfold rX
  rw [if_neg (by omega), if_neg (by omega), if_pos rfl]
theorem rX_e {ρ : Nat → Nat} {qs Q : List Nat} {qo b i : Nat} (h : 1000000 ≤ i) : thC (rX ρ qs qo b) Q i = ρ i := by
  rw [thC_ge (by omega)]
  unfold rX
  rw [if_neg (by omega), if_neg (by omega), if_neg (by omega)]
theorem ws_len {S : List Sh} {κ : FieldType → ClassId} {θ : Nat → Nat} {σ : Mm} : (wsOf S κ θ σ).length = S.length := by unfold wsOf; rw [List.length_mapIdx]
theorem ws_adr {S : List Sh} {κ : FieldType → ClassId} {θ : Nat → Nat} {σ : Mm} {i : Nat} (h : i < S.length) : ∃ e, (wsOf S κ θ σ)[i]? = some (θ i, e) := ⟨_, ws_get (List.getElem?_eq_getElem h)⟩
set_option maxRecDepth 100000 in
theorem len_C : SHC.length = 245 := rfl
set_option maxRecDepth 100000 in
theorem len_M : SHM.length = 50 := rfl
def psL (i : Nat) : Nat := if i < 245 then i else if i < 2050 then 245 + (i - 2000) else 295
set_option maxRecDepth 100000 in
set_option maxHeartbeats 1000000 in
theorem lws_first {D : va_G} {κ : FieldType → ClassId} {ρ0 : Nat → Nat} {s : State} {H : Heap} {locs : List Loc} {wC : va_W} {qs Q : List Nat} {μ τ : Mm} {qo b : Nat} (hq : Wq wC (wsOf SHC κ (thC (rX ρ0 qs qo b) Q) (mC τ))) (hP : va_P D vwCl ((wC ++ wsOf SHM κ (fun i => if i < 1000000 then gD qs i else ρ0 i) μ) ++ [(qo, .inl (κ .long, 1, .inr (.inl (fun _ => 0))))]) H) (hD : va_D (fun q => s.heap.size ≤ q) ((wC ++ wsOf SHM κ (fun i => if i < 1000000 then gD qs i else ρ0 i) μ) ++ [(qo, .inl (κ .long, 1, .inr (.inl (fun _ => 0))))])) (hS : va_S (fun q => s.heap.size ≤ q) s.heap H locs) : LWS D κ (thC (rX ρ0 qs qo b) Q) s (mC τ) μ (fun _ => 0) H locs := by
  obtain ⟨ρ, hρ⟩ : ∃ ρ, ρ = thC (rX ρ0 qs qo b) Q := ⟨_, rfl⟩
  have eM : wsOf SHM κ (fun i => if i < 1000000 then gD qs i else ρ0 i) μ = wsOf SHM κ (rM ρ) μ := by
    refine (Wq_part (b := 0) (S0 := SHM) (S1 := SHM) (θ := rM ρ) (σ := μ) rfl (by decide +kernel) (fun i hi => ?_) (fun i _ => by rw [Nat.zero_add]) (fun i _ => by rw [Nat.zero_add])).trans wsAt_0.symm
    rw [len_M] at hi
    show (if 0 + i < 2000 then ρ (2000 + (0 + i)) else ρ (0 + i)) = if i < 1000000 then gD qs i else ρ0 i
    rw [Nat.zero_add, if_pos (by omega), if_pos (by omega), hρ, rX_m hi]
  have eO : [(qo, (.inl (κ .long, 1, .inr (.inl (fun _ => 0))) : va_E))] = wO κ ρ (fun _ => 0) := by
    unfold wO
    rw [hρ, rX_o]
  rw [← hρ] at hq ⊢
  have q0 : Wq ((wC ++ wsOf SHM κ (fun i => if i < 1000000 then gD qs i else ρ0 i) μ) ++ [(qo, .inl (κ .long, 1, .inr (.inl (fun _ => 0))))]) ((wsOf SHC κ ρ (mC τ) ++ wsOf SHM κ (rM ρ) μ) ++ wO κ ρ (fun _ => 0)) := Wq.app (Wq.app hq (Wq.of eM)) (Wq.of eO)
  have hP := q0.P hP
  have hD := q0.D hD
  have lC : (wsOf SHC κ ρ (mC τ)).length = 245 := ws_len.trans len_C
  have lM : (wsOf SHM κ (rM ρ) μ).length = 50 := ws_len.trans len_M
  have gC : ∀ k x, (wsOf SHC κ ρ (mC τ))[k]? = some x → ((wsOf SHC κ ρ (mC τ) ++ wsOf SHM κ (rM ρ) μ) ++ wO κ ρ (fun _ => 0))[k]? = some x := fun k x hx => by
    have hk := (List.getElem?_eq_some_iff.mp hx).1
    rw [List.getElem?_append_left (by rw [List.length_append]; omega), List.getElem?_append_left hk]; exact hx
  have gM : ∀ k x, (wsOf SHM κ (rM ρ) μ)[k]? = some x → ((wsOf SHC κ ρ (mC τ) ++ wsOf SHM κ (rM ρ) μ) ++ wO κ ρ (fun _ => 0))[245 + k]? = some x := fun k x hx => by
    have hk := (List.getElem?_eq_some_iff.mp hx).1
    rw [List.getElem?_append_left (by rw [List.length_append]; omega), List.getElem?_append_right (by omega), lC, Nat.add_sub_cancel_left]; exact hx
  have gO : ∀ k x, (wO κ ρ (fun _ => 0))[k]? = some x → ((wsOf SHC κ ρ (mC τ) ++ wsOf SHM κ (rM ρ) μ) ++ wO κ ρ (fun _ => 0))[295 + k]? = some x := fun k x hx => by
    rw [List.getElem?_append_right (by rw [List.length_append]; omega), List.length_append, lC, lM, Nat.add_sub_cancel_left]; exact hx
  have ad : ∀ i, dmL i → ∃ e, ((wsOf SHC κ ρ (mC τ) ++ wsOf SHM κ (rM ρ) μ) ++ wO κ ρ (fun _ => 0))[psL i]? = some (ρ i, e) := by
    intro i hi
    rcases hi with h | ⟨h1, h2⟩ | h
    · obtain ⟨e, he⟩ := ws_adr (S := SHC) (κ := κ) (θ := ρ) (σ := mC τ) (i := i) (by rw [len_C]; exact h)
      refine ⟨e, ?_⟩
      unfold psL
      rw [if_pos h]
      exact gC i _ he
    · obtain ⟨e, he⟩ := ws_adr (S := SHM) (κ := κ) (θ := rM ρ) (σ := μ) (i := i - 2000) (by rw [len_M]; omega)
      refine ⟨e, ?_⟩
      have er : rM ρ (i - 2000) = ρ i := by
        unfold rM
        rw [if_pos (by omega), show 2000 + (i - 2000) = i by omega]
      rw [er] at he
      unfold psL
      rw [if_neg (by omega), if_pos h2]
      exact gM _ _ he
    · subst h
      exact ⟨_, gO 0 _ rfl⟩
  refine ⟨fun k x hx => hP k x (gC k x hx), fun k x hx => hP _ x (gM k x hx), fun k x hx => hP _ x (gO k x hx), fun i j hi hj e => ?_, fun i hi => ?_, hS⟩
  · obtain ⟨e1, h1⟩ := ad i hi
    obtain ⟨e2, h2⟩ := ad j hj
    have := hD.1 _ _ _ _ h1 h2 e
    unfold psL at this
    unfold dmL at hi hj
    split at this <;> split at this <;> (try split at this) <;> (try split at this) <;> omega
  · obtain ⟨e1, h1⟩ := ad i hi
    exact hD.2 _ _ h1
