/-- a field's link and place -/
def FLk (own : String) (index ci k : Nat) (ty : FieldType) (fin : Bool) : Prop := ∃ (C : String) (T : u_T) (N : Nat) (ty0 : Nat → FieldType), vwCl[ci]? = some (C, T, N) ∧ k < N ∧ Cond.fieldLink own index C (T k).2.1 (T k).2.2.1 ∈ GT ∧ (∀ w ∈ u_ws C T N, w ∈ GT) ∧ (∀ k, k < N → parseFieldDescriptor (T k).2.2.1 = some (ty0 k)) ∧ (∀ a, a < N → ∀ b, b < N → a ≠ b → (T a).2.1 ≠ (T b).2.1) ∧ (T k).1 = C ∧ parseFieldDescriptor (T k).2.2.1 = some ty ∧ (T k).2.2.2 = fin
section XS
variable {S : List Sh} {own : String} {cc : ByteArray} {nL : Nat} {ret : Option FieldType} {d g : Nat} {pc : Nat} {L : List (Nat × Value)} {st : List Value} {σ : Mm} {E : Option (Int32 × Mm)} {F : Mm → Option (Int32 × Mm)} {a ci index n z : Nat} {fds : List Fq} {ty : FieldType} {fin : Bool} {r : Nat → Nat} {i : Int32}
theorem X_get {k : Nat} {dd : Fq} {v : Value} (hs : S[a]? = some (.inr (ci, fds))) (hf : fds[k]? = some dd) (fk : FLk own index ci k ty fin) (hv : ∀ ρ, fdV ρ σ a k dd = tr ρ v) (hd : decode cc pc = .ok (.getfield index, 3)) (kk : X (wsOf S) own cc nL ret d g (pc + 3) L (v :: st) σ E) : X (wsOf S) own cc nL ret d g pc L (.ref a :: st) σ E := by
  intro D κ ρ A p l e R s m args below meth c hC H locs cells slots Z ls r τ hcs hR hl hE hZ
  obtain ⟨C, T, N, ty0, h1, h2, h3, h4, -, -, h7, -, -⟩ := fk
  obtain ⟨hx, hb, -, hml, hown, hts, -, hfr, hlo, hK, hA, hEN⟩ := id hC
  exact va_get (ref := C) hx hb hts h4 hown hK hR.1 a (ws_get hs) h1 k h2 (hts _ h3) (fun x h => by rw [h7] at h; exact h) (v := tr ρ v) (by rw [List.getElem?_mapIdx, hf, ← hv ρ]; rfl) hd (kk D κ ρ A p l e R s m args below meth c hC H locs cells slots Z ls r τ hcs hR hl hE hZ)
theorem X_getI {k : Nat} (hs : S[a]? = some (.inr (ci, fds))) (hf : fds[k]? = some (0, z)) (fk : FLk own index ci k ty fin) (hd : decode cc pc = .ok (.getfield index, 3)) (kk : X (wsOf S) own cc nL ret d g (pc + 3) L (.int (gI σ a k) :: st) σ E) : X (wsOf S) own cc nL ret d g pc L (.ref a :: st) σ E := X_get hs hf fk (fun _ => rfl) hd kk
theorem X_getL {k : Nat} (hs : S[a]? = some (.inr (ci, fds))) (hf : fds[k]? = some (1, z)) (fk : FLk own index ci k ty fin) (hd : decode cc pc = .ok (.getfield index, 3)) (kk : X (wsOf S) own cc nL ret d g (pc + 3) L (.long (gL σ a k) :: st) σ E) : X (wsOf S) own cc nL ret d g pc L (.ref a :: st) σ E := X_get hs hf fk (fun _ => rfl) hd kk
theorem X_getR {k : Nat} (hs : S[a]? = some (.inr (ci, fds))) (hf : fds[k]? = some (2, z)) (fk : FLk own index ci k ty fin) (hd : decode cc pc = .ok (.getfield index, 3)) (kk : X (wsOf S) own cc nL ret d g (pc + 3) L (.ref (gR σ a k) :: st) σ E) : X (wsOf S) own cc nL ret d g pc L (.ref a :: st) σ E := X_get hs hf fk (fun _ => rfl) hd kk
theorem X_getF {k b : Nat} (hs : S[a]? = some (.inr (ci, fds))) (hf : fds[k]? = some (3, b)) (fk : FLk own index ci k ty fin) (hd : decode cc pc = .ok (.getfield index, 3)) (kk : X (wsOf S) own cc nL ret d g (pc + 3) L (.ref b :: st) σ E) : X (wsOf S) own cc nL ret d g pc L (.ref a :: st) σ E := X_get hs hf fk (fun _ => rfl) hd kk
theorem X_putI {k : Nat} {v : Int32} (hs : S[a]? = some (.inr (ci, fds))) (hf : fds[k]? = some (0, z)) (fk : FLk own index ci k ty false) (hn : narrow ty (.int v) = .int v) (hfit : fits ty (.int v) = true) (hd : decode cc pc = .ok (.putfield index, 3)) (kk : ∀ σ, X (wsOf S) own cc nL ret d g (pc + 3) L st σ (F σ)) : X (wsOf S) own cc nL ret d g pc L (.int v :: .ref a :: st) σ (bn (pI σ a k v) F) := by
  intro D κ ρ A p l e R s m args below meth c hC H locs cells slots Z ls r τ hcs hR hl hE hZ
  obtain ⟨C, T, N, ty0, h1, h2, h3, h4, h5, h6, h7, h8, h9⟩ := fk
  obtain ⟨hx, hb, -, hml, hown, hts, -, hfr, hlo, hK, hA, hEN⟩ := id hC
  refine va_put (ref := C) hx hb hts h4 ty0 h5 h6 hown hK hR.1 hR.2.1 hR.2.2 a (ws_get hs) h1 k h2 (hts _ h3) (fun x h => by rw [h7] at h; exact h) h9 h8 hn hfit (by rw [List.length_mapIdx]; exact (List.getElem?_eq_some_iff.mp hf).1) hd (fun H1 locs1 hP hD hS => ?_)
  have hP : va_P D vwCl ((wsOf S κ ρ σ).set a (ρ a, .inr (ci, (fds.mapIdx (fdV ρ σ a)).set k (.int v)))) H1 := hP
  have hD : va_D A ((wsOf S κ ρ σ).set a (ρ a, .inr (ci, (fds.mapIdx (fdV ρ σ a)).set k (.int v)))) := hD
  rw [← ws_pIo hs hf] at hP hD
  exact kk (pI σ a k v) D κ ρ A p l e R s m args below meth c hC H1 locs1 cells slots Z ls r τ hcs ⟨hP, hD, hS⟩ hl hE hZ
theorem X_putL {k : Nat} {v : Int64} (hs : S[a]? = some (.inr (ci, fds))) (hf : fds[k]? = some (1, z)) (fk : FLk own index ci k .long false) (hd : decode cc pc = .ok (.putfield index, 3)) (kk : ∀ σ, X (wsOf S) own cc nL ret d g (pc + 3) L st σ (F σ)) : X (wsOf S) own cc nL ret d g pc L (.long v :: .ref a :: st) σ (bn (pL σ a k v) F) := by
  intro D κ ρ A p l e R s m args below meth c hC H locs cells slots Z ls r τ hcs hR hl hE hZ
  obtain ⟨C, T, N, ty0, h1, h2, h3, h4, h5, h6, h7, h8, h9⟩ := fk
  obtain ⟨hx, hb, -, hml, hown, hts, -, hfr, hlo, hK, hA, hEN⟩ := id hC
  refine va_put (ref := C) hx hb hts h4 ty0 h5 h6 hown hK hR.1 hR.2.1 hR.2.2 a (ws_get hs) h1 k h2 (hts _ h3) (fun x h => by rw [h7] at h; exact h) h9 h8 (v := .long v) rfl rfl (by rw [List.length_mapIdx]; exact (List.getElem?_eq_some_iff.mp hf).1) hd (fun H1 locs1 hP hD hS => ?_)
  rw [← ws_pLo hs hf] at hP hD
  exact kk (pL σ a k v) D κ ρ A p l e R s m args below meth c hC H1 locs1 cells slots Z ls r τ hcs ⟨hP, hD, hS⟩ hl hE hZ
theorem X_putR {k v : Nat} {C0 : String} (hs : S[a]? = some (.inr (ci, fds))) (hf : fds[k]? = some (2, z)) (fk : FLk own index ci k (.object C0) false) (hd : decode cc pc = .ok (.putfield index, 3)) (kk : ∀ σ, X (wsOf S) own cc nL ret d g (pc + 3) L st σ (F σ)) : X (wsOf S) own cc nL ret d g pc L (.ref v :: .ref a :: st) σ (bn (pR σ a k v) F) := by
  intro D κ ρ A p l e R s m args below meth c hC H locs cells slots Z ls r τ hcs hR hl hE hZ
  obtain ⟨C, T, N, ty0, h1, h2, h3, h4, h5, h6, h7, h8, h9⟩ := fk
  obtain ⟨hx, hb, -, hml, hown, hts, -, hfr, hlo, hK, hA, hEN⟩ := id hC
  refine va_put (ref := C) hx hb hts h4 ty0 h5 h6 hown hK hR.1 hR.2.1 hR.2.2 a (ws_get hs) h1 k h2 (hts _ h3) (fun x h => by rw [h7] at h; exact h) h9 h8 (v := .ref (ρ v)) rfl rfl (by rw [List.length_mapIdx]; exact (List.getElem?_eq_some_iff.mp hf).1) hd (fun H1 locs1 hP hD hS => ?_)
  rw [← ws_pRo hs hf] at hP hD
  exact kk (pR σ a k v) D κ ρ A p l e R s m args below meth c hC H1 locs1 cells slots Z ls r τ hcs ⟨hP, hD, hS⟩ hl hE hZ
theorem X_iald (hs : S[a]? = some (.inl (.int, n, r))) (hd : decode cc pc = .ok (.iaload, 1)) (kk : X (wsOf S) own cc nL ret d g (pc + 1) L (.int (gI σ a i.toNatClampNeg) :: st) σ E) : X (wsOf S) own cc nL ret d g pc L (.int i :: .ref a :: st) σ (ck (inb i n) E) := by
  refine X_ck (fun hi => ?_)
  intro D κ ρ A p l e R s m args below meth c hC H locs cells slots Z ls rr τ hcs hR hl hE hZ
  obtain ⟨hx, hb, -, hml, hown, hts, -, hfr, hlo, hK, hA, hEN⟩ := id hC
  exact va_iald hx hb hK hR.1 a 0 (ws_get hs) rfl (inb_in hi) hd (kk D κ ρ A p l e R s m args below meth c hC H locs cells slots Z ls rr τ hcs hR hl hE hZ)
theorem X_bald (hs : S[a]? = some (.inl (.byte, n, r))) (hd : decode cc pc = .ok (.baload, 1)) (kk : X (wsOf S) own cc nL ret d g (pc + 1) L (.int (gI σ a i.toNatClampNeg) :: st) σ E) : X (wsOf S) own cc nL ret d g pc L (.int i :: .ref a :: st) σ (ck (inb i n) E) := by
  refine X_ck (fun hi => ?_)
  intro D κ ρ A p l e R s m args below meth c hC H locs cells slots Z ls rr τ hcs hR hl hE hZ
  obtain ⟨hx, hb, -, hml, hown, hts, -, hfr, hlo, hK, hA, hEN⟩ := id hC
  exact va_bald hx hb hK hR.1 a 2 (ws_get hs) rfl (inb_in hi) hd (kk D κ ρ A p l e R s m args below meth c hC H locs cells slots Z ls rr τ hcs hR hl hE hZ)
theorem X_zald (hs : S[a]? = some (.inl (.boolean, n, r))) (hd : decode cc pc = .ok (.baload, 1)) (kk : X (wsOf S) own cc nL ret d g (pc + 1) L (.int (gI σ a i.toNatClampNeg) :: st) σ E) : X (wsOf S) own cc nL ret d g pc L (.int i :: .ref a :: st) σ (ck (inb i n) E) := by
  refine X_ck (fun hi => ?_)
  intro D κ ρ A p l e R s m args below meth c hC H locs cells slots Z ls rr τ hcs hR hl hE hZ
  obtain ⟨hx, hb, -, hml, hown, hts, -, hfr, hlo, hK, hA, hEN⟩ := id hC
  exact va_zald hx hb hK hR.1 a 4 (ws_get hs) rfl (inb_in hi) hd (kk D κ ρ A p l e R s m args below meth c hC H locs cells slots Z ls rr τ hcs hR hl hE hZ)
theorem X_sald (hs : S[a]? = some (.inl (.short, n, r))) (hd : decode cc pc = .ok (.saload, 1)) (kk : X (wsOf S) own cc nL ret d g (pc + 1) L (.int (gI σ a i.toNatClampNeg) :: st) σ E) : X (wsOf S) own cc nL ret d g pc L (.int i :: .ref a :: st) σ (ck (inb i n) E) := by
  refine X_ck (fun hi => ?_)
  intro D κ ρ A p l e R s m args below meth c hC H locs cells slots Z ls rr τ hcs hR hl hE hZ
  obtain ⟨hx, hb, -, hml, hown, hts, -, hfr, hlo, hK, hA, hEN⟩ := id hC
  exact va_sald hx hb hK hR.1 a 3 (ws_get hs) rfl (inb_in hi) hd (kk D κ ρ A p l e R s m args below meth c hC H locs cells slots Z ls rr τ hcs hR hl hE hZ)
theorem X_lald (hs : S[a]? = some (.inl (.long, n, r))) (hd : decode cc pc = .ok (.laload, 1)) (kk : X (wsOf S) own cc nL ret d g (pc + 1) L (.long (gL σ a i.toNatClampNeg) :: st) σ E) : X (wsOf S) own cc nL ret d g pc L (.int i :: .ref a :: st) σ (ck (inb i n) E) := by
  refine X_ck (fun hi => ?_)
  intro D κ ρ A p l e R s m args below meth c hC H locs cells slots Z ls rr τ hcs hR hl hE hZ
  obtain ⟨hx, hb, -, hml, hown, hts, -, hfr, hlo, hK, hA, hEN⟩ := id hC
  exact va_lald hx hb hK hR.1 a 1 (ws_get hs) rfl (inb_in hi) hd (kk D κ ρ A p l e R s m args below meth c hC H locs cells slots Z ls rr τ hcs hR hl hE hZ)
theorem X_aald {C0 : String} (t0 : Nat) (ht : ∀ κ, (tysOf κ)[t0]? = some (κ (.object C0), .object C0)) (hs : S[a]? = some (.inl (.object C0, n, r))) (hd : decode cc pc = .ok (.aaload, 1)) (kk : X (wsOf S) own cc nL ret d g (pc + 1) L (.ref (r i.toNatClampNeg) :: st) σ E) : X (wsOf S) own cc nL ret d g pc L (.int i :: .ref a :: st) σ (ck (inb i n) E) := by
  refine X_ck (fun hi => ?_)
  intro D κ ρ A p l e R s m args below meth c hC H locs cells slots Z ls rr τ hcs hR hl hE hZ
  obtain ⟨hx, hb, -, hml, hown, hts, -, hfr, hlo, hK, hA, hEN⟩ := id hC
  exact va_aldq hx hb hK hR.1 a t0 (ws_get hs) (ht κ) (inb_in hi) hd (kk D κ ρ A p l e R s m args below meth c hC H locs cells slots Z ls rr τ hcs hR hl hE hZ)
theorem X_alen {v : Int32} (t0 : Nat) (ht : ∀ κ, (tysOf κ)[t0]? = some (κ ty, ty)) (hs : S[a]? = some (.inl (ty, n, r))) (hv : ∀ ρ, Int32.ofNat (arE ρ σ a ty n r).1 = v) (hd : decode cc pc = .ok (.arraylength, 1)) (kk : X (wsOf S) own cc nL ret d g (pc + 1) L (.int v :: st) σ E) : X (wsOf S) own cc nL ret d g pc L (.ref a :: st) σ E := by
  intro D κ ρ A p l e R s m args below meth c hC H locs cells slots Z ls rr τ hcs hR hl hE hZ
  obtain ⟨hx, hb, -, hml, hown, hts, -, hfr, hlo, hK, hA, hEN⟩ := id hC
  exact va_alen hx hb hK hR.1 a t0 (ws_get hs) (ht κ) (hv ρ) hd (kk D κ ρ A p l e R s m args below meth c hC H locs cells slots Z ls rr τ hcs hR hl hE hZ)
theorem X_iast {v : Int32} (hs : S[a]? = some (.inl (.int, n, r))) (hd : decode cc pc = .ok (.iastore, 1)) (kk : ∀ σ, X (wsOf S) own cc nL ret d g (pc + 1) L st σ (F σ)) : X (wsOf S) own cc nL ret d g pc L (.int v :: .int i :: .ref a :: st) σ (ck (inb i n) (bn (pI σ a i.toNatClampNeg v) F)) := by
  refine X_ck (fun hi => ?_)
  intro D κ ρ A p l e R s m args below meth c hC H locs cells slots Z ls rr τ hcs hR hl hE hZ
  obtain ⟨hx, hb, -, hml, hown, hts, -, hfr, hlo, hK, hA, hEN⟩ := id hC
  refine va_iast hx hb hK hR.1 hR.2.1 hR.2.2 a 0 (ws_get hs) rfl (inb_in hi) hd (fun H1 locs1 hP hD hS => ?_)
  rw [← ws_pIa rfl hs] at hP hD
  exact kk _ D κ ρ A p l e R s m args below meth c hC H1 locs1 cells slots Z ls rr τ hcs ⟨hP, hD, hS⟩ hl hE hZ
theorem X_bast {v : Int32} (hs : S[a]? = some (.inl (.byte, n, r))) (hd : decode cc pc = .ok (.bastore, 1)) (kk : ∀ σ, X (wsOf S) own cc nL ret d g (pc + 1) L st σ (F σ)) : X (wsOf S) own cc nL ret d g pc L (.int v :: .int i :: .ref a :: st) σ (ck (inb i n) (bn (pI σ a i.toNatClampNeg (vp_nar .byte v)) F)) := by
  refine X_ck (fun hi => ?_)
  intro D κ ρ A p l e R s m args below meth c hC H locs cells slots Z ls rr τ hcs hR hl hE hZ
  obtain ⟨hx, hb, -, hml, hown, hts, -, hfr, hlo, hK, hA, hEN⟩ := id hC
  refine va_bast hx hb hK hR.1 hR.2.1 hR.2.2 a 2 (ws_get hs) rfl (inb_in hi) hd (fun H1 locs1 hP hD hS => ?_)
  rw [← ws_pIa rfl hs] at hP hD
  exact kk _ D κ ρ A p l e R s m args below meth c hC H1 locs1 cells slots Z ls rr τ hcs ⟨hP, hD, hS⟩ hl hE hZ
theorem X_zast {v : Int32} (hs : S[a]? = some (.inl (.boolean, n, r))) (hd : decode cc pc = .ok (.bastore, 1)) (kk : ∀ σ, X (wsOf S) own cc nL ret d g (pc + 1) L st σ (F σ)) : X (wsOf S) own cc nL ret d g pc L (.int v :: .int i :: .ref a :: st) σ (ck (inb i n) (bn (pI σ a i.toNatClampNeg (vp_nar .boolean v)) F)) := by
  refine X_ck (fun hi => ?_)
  intro D κ ρ A p l e R s m args below meth c hC H locs cells slots Z ls rr τ hcs hR hl hE hZ
  obtain ⟨hx, hb, -, hml, hown, hts, -, hfr, hlo, hK, hA, hEN⟩ := id hC
  refine va_zast hx hb hK hR.1 hR.2.1 hR.2.2 a 4 (ws_get hs) rfl (inb_in hi) hd (fun H1 locs1 hP hD hS => ?_)
  rw [← ws_pIa rfl hs] at hP hD
  exact kk _ D κ ρ A p l e R s m args below meth c hC H1 locs1 cells slots Z ls rr τ hcs ⟨hP, hD, hS⟩ hl hE hZ
theorem X_sast {v : Int32} (hs : S[a]? = some (.inl (.short, n, r))) (hd : decode cc pc = .ok (.sastore, 1)) (kk : ∀ σ, X (wsOf S) own cc nL ret d g (pc + 1) L st σ (F σ)) : X (wsOf S) own cc nL ret d g pc L (.int v :: .int i :: .ref a :: st) σ (ck (inb i n) (bn (pI σ a i.toNatClampNeg (vp_nar .short v)) F)) := by
  refine X_ck (fun hi => ?_)
  intro D κ ρ A p l e R s m args below meth c hC H locs cells slots Z ls rr τ hcs hR hl hE hZ
  obtain ⟨hx, hb, -, hml, hown, hts, -, hfr, hlo, hK, hA, hEN⟩ := id hC
  refine va_sast hx hb hK hR.1 hR.2.1 hR.2.2 a 3 (ws_get hs) rfl (inb_in hi) hd (fun H1 locs1 hP hD hS => ?_)
  rw [← ws_pIa rfl hs] at hP hD
  exact kk _ D κ ρ A p l e R s m args below meth c hC H1 locs1 cells slots Z ls rr τ hcs ⟨hP, hD, hS⟩ hl hE hZ
theorem X_last {v : Int64} (hs : S[a]? = some (.inl (.long, n, r))) (hd : decode cc pc = .ok (.lastore, 1)) (kk : ∀ σ, X (wsOf S) own cc nL ret d g (pc + 1) L st σ (F σ)) : X (wsOf S) own cc nL ret d g pc L (.long v :: .int i :: .ref a :: st) σ (ck (inb i n) (bn (pL σ a i.toNatClampNeg v) F)) := by
  refine X_ck (fun hi => ?_)
  intro D κ ρ A p l e R s m args below meth c hC H locs cells slots Z ls rr τ hcs hR hl hE hZ
  obtain ⟨hx, hb, -, hml, hown, hts, -, hfr, hlo, hK, hA, hEN⟩ := id hC
  refine va_last hx hb hK hR.1 hR.2.1 hR.2.2 a 1 (ws_get hs) rfl (inb_in hi) hd (fun H1 locs1 hP hD hS => ?_)
  rw [← ws_pLa hs] at hP hD
  exact kk _ D κ ρ A p l e R s m args below meth c hC H1 locs1 cells slots Z ls rr τ hcs ⟨hP, hD, hS⟩ hl hE hZ
end XS
/-- the room of a method that calls d deep and makes nothing -/
def rmd (d : Nat) : Room := { frames := d, cells := 0, slots := 0, locals := 48 * d }
/-- a contract's end -/
def QcOf {T : Type} (wf : (FieldType → ClassId) → (Nat → Nat) → T → va_W) (ret : Option FieldType) (D : va_G) (κ : FieldType → ClassId) (ρ : Nat → Nat) (A : Nat → Prop) (r : Int32) (τ : T) : Array Value → State → Outcome → State → Prop := match ret with
  | none => va_Qv (fun u : T => u = τ) (fun u t => va_P D vwCl (wf κ ρ u) t.heap ∧ va_D A (wf κ ρ u)) A
  | some ty => va_Qi (fun (r' : Int32) (u : T) => r' = r ∧ u = τ ∧ narrow ty (.int r) = .int r) (fun u t => va_P D vwCl (wf κ ρ u) t.heap ∧ va_D A (wf κ ρ u)) A
/-- a contract: with arguments av and memory σ the method comes to the end that E tells -/
def Con {T : Type} (wf : (FieldType → ClassId) → (Nat → Nat) → T → va_W) (y : MethodName) (cc : ByteArray) (nL : Nat) (ret : Option FieldType) (d : Nat) (av : List Value) (σ : T) (E : Option (Int32 × T)) : Prop :=
  ∀ (l : Launch) (D : va_G) (κ : FieldType → ClassId) (ρ : Nat → Nat) (sz : Nat) (r : Int32) (τ : T), E = some (r, τ) → Met l y (Cond.code y cc nL ret :: GT) (rmd d) (va_Pc (av.map (tr ρ)) (fun U => U.heap.size = sz ∧ va_P D vwCl (wf κ ρ σ) U.heap ∧ va_K D vwCl (tysOf κ) U ∧ va_D (fun _ => True) (wf κ ρ σ) ∧ EN ρ (va_A (wf κ ρ σ) sz) U U.heap)) (QcOf wf ret D κ ρ (va_A (wf κ ρ σ) sz) r τ) 0 0 (va_A (wf κ ρ σ) sz)
theorem tr_sl (ρ : Nat → Nat) (av : List Value) : (lg_sl (av.map (tr ρ))).length = (lg_sl av).length := by
  induction av with
  | nil => rfl
  | cons v t ih =>
    simp only [lg_sl, List.map_cons, List.flatMap_cons, List.length_append, tr_cat] at ih ⊢
    rw [ih]
    split <;> rfl
theorem tr_args (ρ : Nat → Nat) (av : List Value) : ∀ i, lv_args i (av.map (tr ρ)) = (lv_args i av).map (trL ρ) := by
  induction av with
  | nil => intro i; rfl
  | cons v t ih =>
    intro i
    simp only [List.map_cons, lv_args, tr_cat, ih]
    rfl
theorem Con.of_X {T : Type} {wf : (FieldType → ClassId) → (Nat → Nat) → T → va_W} {y : MethodName} {cc : ByteArray} {nL : Nat} {ret : Option FieldType} {d : Nat} {av : List Value} {σ : T} {E : Option (Int32 × T)} (hy : plainName y.cls = true) (hlen : (lg_sl av).length ≤ nL) (hX : X wf y.cls cc nL ret d 0 0 (lv_args 0 av) [] σ E) : Con wf y cc nL ret d av σ E := by
  intro l D κ ρ sz r τ hE
  refine Met.ofW (cc := cc) (maxL := nL) (ret := ret) hy rfl ?_
  intro p e s m args below meth c s₁ B hml hv
  obtain ⟨rfl, hsz, hP, hK, hD0, hEN⟩ := hv
  subst hsz
  have hts := atoms_spec (ws := Cond.code y cc nL ret :: GT) B.pre
  have hown : s.vm.findClass y.cls = some m.cls := findClass_of_methodNamed B.named
  have hlocks := B.notSynchronized
  have hD := hD0.self (sz := s.heap.size)
  have hl := lv_entry (av.map (tr ρ)) (n := nL) (by rw [tr_sl]; exact hlen)
  rw [lg_entry_eq]
  rw [tr_args] at hl
  have hA : ∀ q : Nat, s.heap.size ≤ q → va_A (wf κ ρ σ) s.heap.size q := fun q h => Or.inr h
  refine hX D κ ρ (va_A (wf κ ρ σ) s.heap.size) p l e (rmd d) s m _ below meth c ⟨B.exec, B.bytes, B.returns, hml, hown, fun w hw => hts w (List.mem_cons_of_mem _ hw), hlocks, Nat.le_refl _, Nat.le_refl _, hK, hA, hEN⟩ s.heap [] 0 0 _ _ r τ ⟨Nat.le_refl _, Nat.le_refl _⟩ ⟨hP, hD, va_S.rf⟩ hl hE ?_
  intro H locs cells slots pc ls hcs hR
  have e1 : cells = 0 := Nat.le_zero.mp hcs.1
  have e2 : slots = 0 := Nat.le_zero.mp hcs.2
  subst e1
  subst e2
  cases ret with
  | none =>
    intro hd
    exact W.vret B.exec B.bytes B.returns (fun t ht hW => ⟨⟨τ, rfl, rfl, by rw [ht]; exact hR.1, hR.2.1⟩, hR.2.2.F ht⟩) hR.2.2.2.2 hd
  | some ty =>
    intro hn hd
    exact W.zret B.exec B.bytes B.returns hn (fun t ht hW => ⟨⟨r, τ, rfl, ⟨rfl, rfl, hn⟩, by rw [ht]; exact hR.1, hR.2.1⟩, hR.2.2.F ht⟩) hR.2.2.2.2 hd
/-- what a call needs of the tables: of an object's method, of a static one -/
def MkV (y : MethodName) (cc : ByteArray) (nL : Nat) (ret : Option FieldType) (n ci : Nat) : Prop := Cond.instanceMethod y ∈ GT ∧ Cond.selects y.cls y y ∈ GT ∧ Cond.initialized y.cls ∈ GT ∧ Cond.code y cc nL ret ∈ GT ∧ (y.cls ≠ "java/lang/invoke/MethodHandle" ∧ y.cls ≠ "java/lang/invoke/VarHandle" ∧ (parseMethodDescriptor y.desc).map (fun d => d.parameters.length) = some n) ∧ (∃ T N, vwCl[ci]? = some (y.cls, T, N)) ∧ 19 + nL ≤ 48
def MkS (y : MethodName) (cc : ByteArray) (nL : Nat) (ret : Option FieldType) (n : Nat) : Prop := Cond.static y ∈ GT ∧ Cond.initialized y.cls ∈ GT ∧ Cond.code y cc nL ret ∈ GT ∧ (y.cls ≠ "java/lang/invoke/MethodHandle" ∧ y.cls ≠ "java/lang/invoke/VarHandle" ∧ (parseMethodDescriptor y.desc).map (fun d => d.parameters.length) = some n) ∧ 19 + nL ≤ 48
theorem nl_blind {T : Type} {wf : (FieldType → ClassId) → (Nat → Nat) → T → va_W} {D : va_G} {κ : FieldType → ClassId} {ρ : Nat → Nat} {σ : T} {av : List Value} {sz : Nat} : FrameBlind (va_Pc av (fun U => U.heap.size = sz ∧ va_P D vwCl (wf κ ρ σ) U.heap ∧ va_K D vwCl (tysOf κ) U ∧ va_D (fun _ => True) (wf κ ρ σ) ∧ EN ρ (va_A (wf κ ρ σ) sz) U U.heap)) := fun a U g mk q => by
  obtain ⟨q0, q1, qP, qK, qD, qE⟩ := q
  exact ⟨q0, q1, qP, va_K.moved (u := U) (U := U.calling g mk a) (Vm.Alike.refl U.vm) qK, qD, qE.same rfl rfl⟩
section XC
variable {T : Type} {wf : (FieldType → ClassId) → (Nat → Nat) → T → va_W} {S : List Sh} {own : String} {cc cc' : ByteArray} {nL nL' : Nat} {ret : Option FieldType} {d d' g : Nat} {pc : Nat} {L : List (Nat × Value)} {st stk As : List Value} {b ci index n : Nat} {fds : List Fq} {ty : FieldType} {y : MethodName}
theorem X_calli {σ : Mm} {Ef : Option (Int32 × Mm)} {F : Int32 → Mm → Option (Int32 × Mm)} (hs : S[b]? = some (.inr (ci, fds))) (hcon : Con (wsOf S) y cc' nL' (some ty) d' (.ref b :: As) σ Ef) (mk : MkV y cc' nL' (some ty) n ci) (hlink : Cond.methodLink own index y ∈ GT) (hdd : d' + 1 ≤ d) (hn : As.length = n) (hst : stk = As.reverse ++ .ref b :: st) (hsum : (st.map fun v => v.category).sum ≤ 8) (hd : decode cc pc = .ok (.invokevirtual index, 3)) (kk : ∀ r τ, Ef = some (r, τ) → narrow ty (.int r) = .int r → X (wsOf S) own cc nL ret d g (pc + 3) L (.int r :: st) τ (F r τ)) : X (wsOf S) own cc nL ret d g pc L stk σ (cl Ef F) := by
  intro D κ ρ A p l e R s m args below meth c hC H locs cells slots Z ls rr τ hcs hR hl hE hZ
  obtain ⟨hx, hb, -, hml, hown, hts, -, hfr, hlo, hK, hA, hEN⟩ := id hC
  obtain ⟨hP, hD, hS⟩ := id hR
  obtain ⟨m1, m2, m3, m4, m5, ⟨T0, N0, m6⟩, m7⟩ := mk
  cases hEf : Ef with
  | none => rw [hEf] at hE; cases hE
  | some q =>
    obtain ⟨r1, τ1⟩ := q
    rw [hEf] at hE
    have hE : F r1 τ1 = some (rr, τ) := hE
    have hM := hcon l D κ ρ H.size r1 τ1 hEf
    have hFc : ∀ q, va_A (wsOf S κ ρ σ) H.size q → A q := fun q h => by
      rcases h with ⟨k, e9, hk⟩ | h
      · exact hD.2 k _ hk
      · exact hA q (Nat.le_trans hS.1 h)
    subst hst
    refine va_calli (va_runV (As := As.map (tr ρ)) (rest := st.map (tr ρ)) ⟨hx, hb, hml, hown, hts⟩ hM ⟨callB_of n hts (gt_in m4) rfl rfl rfl (hts _ m3) (hts _ hlink) m5 ⟨by show d' + 1 ≤ _; omega, by show 8 + (nL' + 11) + 48 * d' ≤ _; omega⟩, hts _ m1, hts _ m2⟩ ⟨nl_blind, va_recv hK hP m6 (ws_get hs), fun U hU hW => ⟨rfl, by rw [hU], by rw [hU]; exact hP, va_K.moved hW.alike hK, hD.weaken (fun _ _ _ _ => trivial), hEN.call hS hFc hW hU⟩⟩ rfl (by rw [List.length_map]; exact hn) hl.1 (by simp [tr]) (by show 2 * 0 + _ ≤ 8; rw [tr_sum]; omega) hd ⟨by omega, by omega⟩) hS (fun q _ h => hFc q h) hFc (fun r2 u t H1 locs1 ht hvm hw hB hz1 hk1 hS1 => ?_)
    obtain ⟨rfl, rfl, hnr⟩ := hw
    rw [ht] at hB
    exact kk r2 u hEf hnr D κ ρ A p l e R s m args below meth c hC H1 locs1 cells slots Z ls rr τ hcs ⟨hB.1, hB.2.weaken (fun k q hk h => hFc q.1 h), hS1⟩ hl hE hZ
theorem X_callv {σ : Mm} {Ef : Option (Int32 × Mm)} {F : Int32 → Mm → Option (Int32 × Mm)} (hs : S[b]? = some (.inr (ci, fds))) (hcon : Con (wsOf S) y cc' nL' none d' (.ref b :: As) σ Ef) (mk : MkV y cc' nL' none n ci) (hlink : Cond.methodLink own index y ∈ GT) (hdd : d' + 1 ≤ d) (hn : As.length = n) (hst : stk = As.reverse ++ .ref b :: st) (hsum : (st.map fun v => v.category).sum ≤ 8) (hd : decode cc pc = .ok (.invokevirtual index, 3)) (kk : ∀ r τ, Ef = some (r, τ) → X (wsOf S) own cc nL ret d g (pc + 3) L st τ (F r τ)) : X (wsOf S) own cc nL ret d g pc L stk σ (cl Ef F) := by
  intro D κ ρ A p l e R s m args below meth c hC H locs cells slots Z ls rr τ hcs hR hl hE hZ
  obtain ⟨hx, hb, -, hml, hown, hts, -, hfr, hlo, hK, hA, hEN⟩ := id hC
  obtain ⟨hP, hD, hS⟩ := id hR
  obtain ⟨m1, m2, m3, m4, m5, ⟨T0, N0, m6⟩, m7⟩ := mk
  cases hEf : Ef with
  | none => rw [hEf] at hE; cases hE
  | some q =>
    obtain ⟨r1, τ1⟩ := q
    rw [hEf] at hE
    have hE : F r1 τ1 = some (rr, τ) := hE
    have hM := hcon l D κ ρ H.size r1 τ1 hEf
    have hFc : ∀ q, va_A (wsOf S κ ρ σ) H.size q → A q := fun q h => by
      rcases h with ⟨k, e9, hk⟩ | h
      · exact hD.2 k _ hk
      · exact hA q (Nat.le_trans hS.1 h)
    subst hst
    refine va_callv (va_runV (As := As.map (tr ρ)) (rest := st.map (tr ρ)) ⟨hx, hb, hml, hown, hts⟩ hM ⟨callB_of n hts (gt_in m4) rfl rfl rfl (hts _ m3) (hts _ hlink) m5 ⟨by show d' + 1 ≤ _; omega, by show 8 + (nL' + 11) + 48 * d' ≤ _; omega⟩, hts _ m1, hts _ m2⟩ ⟨nl_blind, va_recv hK hP m6 (ws_get hs), fun U hU hW => ⟨rfl, by rw [hU], by rw [hU]; exact hP, va_K.moved hW.alike hK, hD.weaken (fun _ _ _ _ => trivial), hEN.call hS hFc hW hU⟩⟩ rfl (by rw [List.length_map]; exact hn) hl.1 (by simp [tr]) (by show 2 * 0 + _ ≤ 8; rw [tr_sum]; omega) hd ⟨by omega, by omega⟩) hS (fun q _ h => hFc q h) hFc (fun u t H1 locs1 ht hvm hw hB hz1 hk1 hS1 => ?_)
    have hw : u = τ1 := hw
    rw [ht, hw] at hB
    exact kk r1 τ1 hEf D κ ρ A p l e R s m args below meth c hC H1 locs1 cells slots Z ls rr τ hcs ⟨hB.1, hB.2.weaken (fun k q hk h => hFc q.1 h), hS1⟩ hl hE hZ
theorem X_callsi {σ : T} {Ef : Option (Int32 × T)} {F : Int32 → T → Option (Int32 × T)} (hcon : Con wf y cc' nL' (some ty) d' As σ Ef) (mk : MkS y cc' nL' (some ty) n) (hlink : Cond.methodLink own index y ∈ GT) (hdd : d' + 1 ≤ d) (hn : As.length = n) (hst : stk = As.reverse ++ st) (hsum : (st.map fun v => v.category).sum ≤ 8) (hd : decode cc pc = .ok (.invokestatic index, 3)) (kk : ∀ r τ, Ef = some (r, τ) → narrow ty (.int r) = .int r → X wf own cc nL ret d g (pc + 3) L (.int r :: st) τ (F r τ)) : X wf own cc nL ret d g pc L stk σ (cl Ef F) := by
  intro D κ ρ A p l e R s m args below meth c hC H locs cells slots Z ls rr τ hcs hR hl hE hZ
  obtain ⟨hx, hb, -, hml, hown, hts, -, hfr, hlo, hK, hA, hEN⟩ := id hC
  obtain ⟨hP, hD, hS⟩ := id hR
  obtain ⟨m1, m3, m4, m5, m7⟩ := mk
  cases hEf : Ef with
  | none => rw [hEf] at hE; cases hE
  | some q =>
    obtain ⟨r1, τ1⟩ := q
    rw [hEf] at hE
    have hE : F r1 τ1 = some (rr, τ) := hE
    have hM := hcon l D κ ρ H.size r1 τ1 hEf
    have hFc : ∀ q, va_A (wf κ ρ σ) H.size q → A q := fun q h => by
      rcases h with ⟨k, e9, hk⟩ | h
      · exact hD.2 k _ hk
      · exact hA q (Nat.le_trans hS.1 h)
    subst hst
    refine va_calli (va_runS (As := As.map (tr ρ)) (rest := st.map (tr ρ)) ⟨hx, hb, hml, hown, hts⟩ hM ⟨callB_of n hts (gt_in m4) rfl rfl rfl (hts _ m3) (hts _ hlink) m5 ⟨by show d' + 1 ≤ _; omega, by show 8 + (nL' + 11) + 48 * d' ≤ _; omega⟩, hts _ m1⟩ ⟨nl_blind, fun U hU hW => ⟨rfl, by rw [hU], by rw [hU]; exact hP, va_K.moved hW.alike hK, hD.weaken (fun _ _ _ _ => trivial), hEN.call hS hFc hW hU⟩⟩ rfl (by rw [List.length_map]; exact hn) hl.1 (by simp [tr]) (by show 2 * 0 + _ ≤ 8; rw [tr_sum]; omega) hd ⟨by omega, by omega⟩) hS (fun q _ h => hFc q h) hFc (fun r2 u t H1 locs1 ht hvm hw hB hz1 hk1 hS1 => ?_)
    obtain ⟨rfl, rfl, hnr⟩ := hw
    rw [ht] at hB
    exact kk r2 u hEf hnr D κ ρ A p l e R s m args below meth c hC H1 locs1 cells slots Z ls rr τ hcs ⟨hB.1, hB.2.weaken (fun k q hk h => hFc q.1 h), hS1⟩ hl hE hZ
theorem X_callsv {σ : T} {Ef : Option (Int32 × T)} {F : Int32 → T → Option (Int32 × T)} (hcon : Con wf y cc' nL' none d' As σ Ef) (mk : MkS y cc' nL' none n) (hlink : Cond.methodLink own index y ∈ GT) (hdd : d' + 1 ≤ d) (hn : As.length = n) (hst : stk = As.reverse ++ st) (hsum : (st.map fun v => v.category).sum ≤ 8) (hd : decode cc pc = .ok (.invokestatic index, 3)) (kk : ∀ r τ, Ef = some (r, τ) → X wf own cc nL ret d g (pc + 3) L st τ (F r τ)) : X wf own cc nL ret d g pc L stk σ (cl Ef F) := by
  intro D κ ρ A p l e R s m args below meth c hC H locs cells slots Z ls rr τ hcs hR hl hE hZ
  obtain ⟨hx, hb, -, hml, hown, hts, -, hfr, hlo, hK, hA, hEN⟩ := id hC
  obtain ⟨hP, hD, hS⟩ := id hR
  obtain ⟨m1, m3, m4, m5, m7⟩ := mk
  cases hEf : Ef with
  | none => rw [hEf] at hE; cases hE
  | some q =>
    obtain ⟨r1, τ1⟩ := q
    rw [hEf] at hE
    have hE : F r1 τ1 = some (rr, τ) := hE
    have hM := hcon l D κ ρ H.size r1 τ1 hEf
    have hFc : ∀ q, va_A (wf κ ρ σ) H.size q → A q := fun q h => by
      rcases h with ⟨k, e9, hk⟩ | h
      · exact hD.2 k _ hk
      · exact hA q (Nat.le_trans hS.1 h)
    subst hst
    refine va_callv (va_runS (As := As.map (tr ρ)) (rest := st.map (tr ρ)) ⟨hx, hb, hml, hown, hts⟩ hM ⟨callB_of n hts (gt_in m4) rfl rfl rfl (hts _ m3) (hts _ hlink) m5 ⟨by show d' + 1 ≤ _; omega, by show 8 + (nL' + 11) + 48 * d' ≤ _; omega⟩, hts _ m1⟩ ⟨nl_blind, fun U hU hW => ⟨rfl, by rw [hU], by rw [hU]; exact hP, va_K.moved hW.alike hK, hD.weaken (fun _ _ _ _ => trivial), hEN.call hS hFc hW hU⟩⟩ rfl (by rw [List.length_map]; exact hn) hl.1 (by simp [tr]) (by show 2 * 0 + _ ≤ 8; rw [tr_sum]; omega) hd ⟨by omega, by omega⟩) hS (fun q _ h => hFc q h) hFc (fun u t H1 locs1 ht hvm hw hB hz1 hk1 hS1 => ?_)
    have hw : u = τ1 := hw
    rw [ht, hw] at hB
    exact kk r1 τ1 hEf D κ ρ A p l e R s m args below meth c hC H1 locs1 cells slots Z ls rr τ hcs ⟨hB.1, hB.2.weaken (fun k q hk h => hFc q.1 h), hS1⟩ hl hE hZ
theorem X_callip {σ : Mm} {Ef : Option (Int32 × Mm)} {F : Int32 → Mm → Option (Int32 × Mm)} (hp : ∀ r τ, Ef = some (r, τ) → τ = σ) (hs : S[b]? = some (.inr (ci, fds))) (hcon : Con (wsOf S) y cc' nL' (some ty) d' (.ref b :: As) σ Ef) (mk : MkV y cc' nL' (some ty) n ci) (hlink : Cond.methodLink own index y ∈ GT) (hdd : d' + 1 ≤ d) (hn : As.length = n) (hst : stk = As.reverse ++ .ref b :: st) (hsum : (st.map fun v => v.category).sum ≤ 8) (hd : decode cc pc = .ok (.invokevirtual index, 3)) (kk : ∀ r, narrow ty (.int r) = .int r → X (wsOf S) own cc nL ret d g (pc + 3) L (.int r :: st) σ (F r σ)) : X (wsOf S) own cc nL ret d g pc L stk σ (cl Ef F) :=
  X_calli hs hcon mk hlink hdd hn hst hsum hd (fun r τ he hr => by have e := hp r τ he; subst e; exact kk r hr)
theorem X_callsip {σ : T} {Ef : Option (Int32 × T)} {F : Int32 → T → Option (Int32 × T)} (hp : ∀ r τ, Ef = some (r, τ) → τ = σ) (hcon : Con wf y cc' nL' (some ty) d' As σ Ef) (mk : MkS y cc' nL' (some ty) n) (hlink : Cond.methodLink own index y ∈ GT) (hdd : d' + 1 ≤ d) (hn : As.length = n) (hst : stk = As.reverse ++ st) (hsum : (st.map fun v => v.category).sum ≤ 8) (hd : decode cc pc = .ok (.invokestatic index, 3)) (kk : ∀ r, narrow ty (.int r) = .int r → X wf own cc nL ret d g (pc + 3) L (.int r :: st) σ (F r σ)) : X wf own cc nL ret d g pc L stk σ (cl Ef F) :=
  X_callsi hcon mk hlink hdd hn hst hsum hd (fun r τ he hr => by have e := hp r τ he; subst e; exact kk r hr)
end XC
section XP
variable {T : Type} {wf : (FieldType → ClassId) → (Nat → Nat) → T → va_W} {S : List Sh} {own : String} {cc : ByteArray} {nL : Nat} {ret : Option FieldType} {d g : Nat} {pc : Nat} {L : List (Nat × Value)} {st : List Value} {σ : T} {E E1 E2 : Option (Int32 × T)}
theorem X_br {v : Nat} {F : Nat → Option (Int32 × T)} (k : ∀ x, X wf own cc nL ret d g pc L (.ref x :: st) σ (F x)) : X wf own cc nL ret d g pc L (.ref v :: st) σ (bn v F) := k v
/-- a split ahead of a switch -/
theorem X_sp {x c : Int32} (kt : x = c → X wf own cc nL ret d g pc L st σ E1) (kf : ¬ x = c → X wf own cc nL ret d g pc L st σ E2) : X wf own cc nL ret d g pc L st σ (if x = c then E1 else E2) := by
  by_cases h : x = c
  · rw [if_pos h]; exact kt h
  · rw [if_neg h]; exact kf h
theorem tsw_ne {x c : Int32} (z : Int) (hz : c.toInt = z) (h : ¬ x = c) : x.toInt ≠ z := fun e => h (Int32.toInt_inj.mp (e.trans hz.symm))
theorem X_swI {x c : Int32} {dflt lo hi : Int} {offs : Array Int} {len : Nat} {off : Int} {tgt : Nat} (hd : decode cc pc = .ok (.tableswitch dflt lo hi offs, len)) (hx : x = c) (h1 : ¬ c.toInt < lo) (h2 : ¬ hi < c.toInt) (ho : offs[(c.toInt - lo).toNat]? = some off) (ht : (pc : Int) + off = (tgt : Int)) (k : X wf own cc nL ret d g tgt L st σ E) : X wf own cc nL ret d g pc L (.int x :: st) σ E := by
  intro D κ ρ A p l e R s m args below meth c9 hC H locs cells slots Z ls r τ hcs hR hl hE hZ
  subst hx
  exact lv_tableIn hC.1 hC.2.1 hd h1 h2 ho ht (k D κ ρ A p l e R s m args below meth c9 hC H locs cells slots Z ls r τ hcs hR hl hE hZ)
theorem X_swO {x : Int32} {dflt lo hi : Int} {offs : Array Int} {len : Nat} {tgt : Nat} (hd : decode cc pc = .ok (.tableswitch dflt lo hi offs, len)) (h : x.toInt < lo ∨ hi < x.toInt) (ht : (pc : Int) + dflt = (tgt : Int)) (k : X wf own cc nL ret d g tgt L st σ E) : X wf own cc nL ret d g pc L (.int x :: st) σ E := by
  intro D κ ρ A p l e R s m args below meth c9 hC H locs cells slots Z ls r τ hcs hR hl hE hZ
  exact lv_tableOut hC.1 hC.2.1 hd h ht (k D κ ρ A p l e R s m args below meth c9 hC H locs cells slots Z ls r τ hcs hR hl hE hZ)
end XP
/-- a copy of a stretch of an array -/
theorem X_acpy {S : List Sh} {own : String} {cc : ByteArray} {nL : Nat} {ret : Option FieldType} {d g : Nat} {pc : Nat} {L : List (Nat × Value)} {st : List Value} {σ : Mm} {F : Mm → Option (Int32 × Mm)} {a a0 n0 n1 index : Nat} {ty : FieldType} {r0 r1 : Nat → Nat} {sp dp n : Int32} (t0 : Nat) (ht : ∀ κ, (tysOf κ)[t0]? = some (κ ty, ty)) (hil : nl_il ty = true) (hprim : refKind ty = false) (hs0 : S[a0]? = some (.inl (ty, n0, r0))) (hs : S[a]? = some (.inl (ty, n1, r1))) (h1 : ¬ sp < 0) (h2 : ¬ dp < 0) (h3 : ¬ n < 0) (h4 : sp.toNatClampNeg + n.toNatClampNeg ≤ n0) (h5 : dp.toNatClampNeg + n.toNatClampNeg ≤ n1) (hfit : ∀ i, i < n.toNatClampNeg → fits ty (.int (σ.1 a0 (sp.toNatClampNeg + i))) = true) (hlink : Cond.methodLink own index arraycopyName ∈ GT) (hd1 : 1 ≤ d) (hsum : (st.map fun v => v.category).sum ≤ 8) (hd : decode cc pc = .ok (.invokestatic index, 3)) (kk : ∀ σ, X (wsOf S) own cc nL ret d g (pc + 3) L st σ (F σ)) : X (wsOf S) own cc nL ret d g pc L (.int n :: .int dp :: .ref a :: .int sp :: .ref a0 :: st) σ (bn (pC σ a0 sp.toNatClampNeg a dp.toNatClampNeg n.toNatClampNeg) F) := by
  intro D κ ρ A p l e R s m args below meth c hC H locs cells slots Z ls rr τ hcs hR hl hE hZ
  obtain ⟨hx, hb, -, hml, hown, hts, -, hfr, hlo, hK, hA, hEN⟩ := id hC
  have e0 : (wsOf S κ ρ σ)[a0]? = some (ρ a0, .inl (κ ty, n0, .inl (σ.1 a0))) := by rw [ws_get hs0]; simp only [shE, arE_i hil]
  have e1 : (wsOf S κ ρ σ)[a]? = some (ρ a, .inl (κ ty, n1, .inl (σ.1 a))) := by rw [ws_get hs]; simp only [shE, arE_i hil]
  have hnw : nativeFrameWords "java/lang/System" "arraycopy" 5 + 11 ≤ 40 := by decide +kernel
  refine va_copyi (rest := st.map (tr ρ)) hx hb (by rw [hml, hl.1]) hown (hts _ hlink) (hts _ mw_ac_1) (hts _ mw_ac_2) (hts _ mw_ac_0) hK hR.1 hR.2.1 hR.2.2 a0 a t0 t0 e0 e1 (ht κ) (ht κ) hprim h1 h2 h3 h4 h5 hfit (by omega) (by rw [tr_sum]; omega) hd (fun H1 locs1 hP hD hS => ?_)
  rw [← ws_pCa hil hs] at hP hD
  exact kk _ D κ ρ A p l e R s m args below meth c hC H1 locs1 cells slots Z ls rr τ hcs ⟨hP, hD, hS⟩ hl hE hZ
/-- it leaves the memory alone -/
def Pu {T : Type} (σ : T) (E : Option (Int32 × T)) : Prop := ∀ r τ, E = some (r, τ) → τ = σ
section PU
variable {T : Type} {σ : T} {E E1 E2 : Option (Int32 × T)}
theorem Pu_none : Pu σ none := fun _ _ h => by cases h
theorem Pu_some {r : Int32} : Pu σ (some (r, σ)) := fun _ _ h => by cases h; rfl
theorem Pu_ck {b : Bool} (k : Pu σ E) : Pu σ (ck b E) := by
  cases b
  · exact Pu_none
  · exact k
theorem Pu_if {c : Prop} [Decidable c] (k1 : Pu σ E1) (k2 : Pu σ E2) : Pu σ (if c then E1 else E2) := by
  split
  · exact k1
  · exact k2
theorem Pu_bn {α : Type} {v : α} {F : α → Option (Int32 × T)} (k : ∀ x, Pu σ (F x)) : Pu σ (bn v F) := k v
theorem Pu_cl {γ : Type} {o : Option (Int32 × γ)} {F : Int32 → γ → Option (Int32 × T)} (k : ∀ r u, Pu σ (F r u)) : Pu σ (cl o F) := by
  cases o with
  | none => exact Pu_none
  | some q => exact k q.1 q.2
theorem Pu_jn {α : Type} {K : α} {B : α → Option (Int32 × T)} (P : α → Prop) (h : P K) (k : ∀ K, P K → Pu σ (B K)) : Pu σ (jn K B) := k K h
end PU
