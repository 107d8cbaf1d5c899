/-- the words of the tables that a call may take along -/
def nl_ok (w : Cond) : Bool := (w.onTables && w.keeps) || (match w with | .arrayClass _ => true | _ => false)
def GT : List Cond := lw_tbl.filter nl_ok
theorem gt_t {w : Cond} (i : Nat) (h : tables_1[i]? = some w) (ok : nl_ok w = true) : w ∈ GT := List.mem_filter.mpr ⟨List.mem_append_right _ (List.mem_of_getElem? h), ok⟩
theorem gt_p {w : Cond} (i : Nat) (h : (k2_sels lw_privs)[i]? = some w) (ok : nl_ok w = true) : w ∈ GT := List.mem_filter.mpr ⟨List.mem_append_left _ (List.mem_of_getElem? h), ok⟩
theorem gt_good {w : Cond} (h : w ∈ GT) : (w.onTables && w.keeps) = true ∨ ∃ ty, w = .arrayClass ty := by
  have h2 := (List.mem_filter.mp h).2
  unfold nl_ok at h2
  rcases (Bool.or_eq_true _ _).mp h2 with h3 | h3
  · exact Or.inl h3
  · right
    split at h3
    · exact ⟨_, rfl⟩
    · cases h3
theorem gt_in {y : MethodName} {cc : ByteArray} {nL : Nat} {ret : Option FieldType} (h : Cond.code y cc nL ret ∈ GT) : GoodIn GT (Cond.code y cc nL ret :: GT) := by
  intro w hw
  rcases List.mem_cons.mp hw with e | e
  · subst e; exact ⟨h, gt_good h⟩
  · exact ⟨e, gt_good e⟩
theorem gt_tbl {w : Cond} (h : w ∈ GT) : w ∈ lw_tbl := (List.mem_filter.mp h).1
/-- memory: ints, longs, references, by address and place -/
abbrev Mm : Type := (Nat → Nat → Int32) × (Nat → Nat → Int64) × (Nat → Nat → Nat)
def gI (σ : Mm) (a k : Nat) : Int32 := σ.1 a k
def gL (σ : Mm) (a k : Nat) : Int64 := σ.2.1 a k
def gR (σ : Mm) (a k : Nat) : Nat := σ.2.2 a k
def pI (σ : Mm) (a k : Nat) (v : Int32) : Mm := (fun b => if b = a then upd (σ.1 a) k v else σ.1 b, σ.2)
def pL (σ : Mm) (a k : Nat) (v : Int64) : Mm := (σ.1, fun b => if b = a then vp_updL (σ.2.1 a) k v else σ.2.1 b, σ.2.2)
def pR (σ : Mm) (a k : Nat) (v : Nat) : Mm := (σ.1, σ.2.1, fun b => if b = a then (fun j => if j = k then v else σ.2.2 a j) else σ.2.2 b)
def pC (σ : Mm) (src sp dst dp n : Nat) : Mm := (fun b => if b = dst then va_cpy (σ.1 src) (σ.1 dst) sp dp n else σ.1 b, σ.2)
/-- shapes: an array (type, length, its fixed references), an object (its number, its fields: 0 int, 1 long, 2 reference, 3 fixed reference) -/
abbrev Fq : Type := Nat × Nat
abbrev Sh : Type := (FieldType × Nat × (Nat → Nat)) ⊕ (Nat × List Fq)
def fdV (ρ : Nat → Nat) (σ : Mm) (a k : Nat) (d : Fq) : Value := match d.1 with
  | 0 => .int (σ.1 a k)
  | 1 => .long (σ.2.1 a k)
  | 2 => .ref (ρ (σ.2.2 a k))
  | _ => .ref (ρ d.2)
def arE (ρ : Nat → Nat) (σ : Mm) (a : Nat) (ty : FieldType) (n : Nat) (r : Nat → Nat) : vp_A := match ty with
  | .long => (n, .inr (.inl (σ.2.1 a)))
  | .object _ => (n, .inr (.inr (.inr (.inr fun j => some (ρ (r j))))))
  | _ => (n, .inl (σ.1 a))
def shE (κ : FieldType → ClassId) (ρ : Nat → Nat) (σ : Mm) (a : Nat) (sh : Sh) : va_E := match sh with
  | .inl q => .inl (κ q.1, arE ρ σ a q.1 q.2.1 q.2.2)
  | .inr q => .inr (q.1, q.2.mapIdx (fdV ρ σ a))
def wsOf (S : List Sh) (κ : FieldType → ClassId) (ρ : Nat → Nat) (σ : Mm) : va_W := S.mapIdx (fun a sh => (ρ a, shE κ ρ σ a sh))
theorem ws_get {S : List Sh} {κ : FieldType → ClassId} {ρ : Nat → Nat} {σ : Mm} {a : Nat} {sh : Sh} (h : S[a]? = some sh) : (wsOf S κ ρ σ)[a]? = some (ρ a, shE κ ρ σ a sh) := by
  simp [wsOf, h]
theorem fdV_congr {ρ : Nat → Nat} {σ τ : Mm} {a : Nat} (h1 : σ.1 a = τ.1 a) (h2 : σ.2.1 a = τ.2.1 a) (h3 : σ.2.2 a = τ.2.2 a) : fdV ρ σ a = fdV ρ τ a := by
  funext k d
  simp only [fdV, h1, h2, h3]
theorem shE_congr {κ : FieldType → ClassId} {ρ : Nat → Nat} {σ τ : Mm} {a : Nat} {sh : Sh} (h1 : σ.1 a = τ.1 a) (h2 : σ.2.1 a = τ.2.1 a) (h3 : σ.2.2 a = τ.2.2 a) : shE κ ρ σ a sh = shE κ ρ τ a sh := by
  rcases sh with ⟨ty, n, r⟩ | ⟨ci, fds⟩
  · cases ty <;> simp [shE, arE, h1, h2]
  · simp only [shE, fdV_congr h1 h2 h3]
theorem ws_set {S : List Sh} {κ : FieldType → ClassId} {ρ : Nat → Nat} {σ τ : Mm} {a : Nat} {sh : Sh} (h : S[a]? = some sh) (h1 : ∀ i, i ≠ a → τ.1 i = σ.1 i) (h2 : ∀ i, i ≠ a → τ.2.1 i = σ.2.1 i) (h3 : ∀ i, i ≠ a → τ.2.2 i = σ.2.2 i) : wsOf S κ ρ τ = (wsOf S κ ρ σ).set a (ρ a, shE κ ρ τ a sh) := by
  have hlt : a < S.length := (List.getElem?_eq_some_iff.mp h).1
  apply List.ext_getElem?
  intro i
  rw [List.getElem?_set]
  by_cases e : a = i
  · subst e
    obtain ⟨q1, q2⟩ := List.getElem?_eq_some_iff.mp h
    simp [wsOf, hlt, q2]
  · rw [if_neg e]
    simp only [wsOf, List.getElem?_mapIdx]
    cases hs : S[i]? with
    | none => rfl
    | some q => simp only [Option.map_some]; rw [shE_congr (h1 i (Ne.symm e)) (h2 i (Ne.symm e)) (h3 i (Ne.symm e))]
theorem mapIdx_set {α β : Type} {l : List α} {f g : Nat → α → β} {k : Nat} {d : α} {v : β} (h : l[k]? = some d) (hv : g k d = v) (hg : ∀ i x, i ≠ k → g i x = f i x) : l.mapIdx g = (l.mapIdx f).set k v := by
  have hlt : k < l.length := (List.getElem?_eq_some_iff.mp h).1
  apply List.ext_getElem?
  intro i
  rw [List.getElem?_set]
  by_cases e : k = i
  · subst e
    obtain ⟨h1, h2⟩ := List.getElem?_eq_some_iff.mp h
    simp [hlt, h2, hv]
  · rw [if_neg e]
    simp only [List.getElem?_mapIdx]
    cases hs : l[i]? with
    | none => rfl
    | some q => simp only [Option.map_some]; rw [hg i q (Ne.symm e)]
section PW
variable {S : List Sh} {κ : FieldType → ClassId} {ρ : Nat → Nat} {σ : Mm} {a k ci z n : Nat} {fds : List Fq} {r : Nat → Nat}
theorem ws_pIo {v : Int32} (h : S[a]? = some (.inr (ci, fds))) (hf : fds[k]? = some (0, z)) : wsOf S κ ρ (pI σ a k v) = (wsOf S κ ρ σ).set a (ρ a, .inr (ci, (fds.mapIdx (fdV ρ σ a)).set k (.int v))) := by
  rw [ws_set (σ := σ) (τ := pI σ a k v) h (fun i hi => by simp [pI, hi]) (fun i hi => rfl) (fun i hi => rfl)]
  have : fds.mapIdx (fdV ρ (pI σ a k v) a) = (fds.mapIdx (fdV ρ σ a)).set k (.int v) := mapIdx_set hf (by simp [fdV, pI, upd]) (fun i x hi => by simp [fdV, pI, upd, hi])
  simp only [shE, this]
theorem ws_pLo {v : Int64} (h : S[a]? = some (.inr (ci, fds))) (hf : fds[k]? = some (1, z)) : wsOf S κ ρ (pL σ a k v) = (wsOf S κ ρ σ).set a (ρ a, .inr (ci, (fds.mapIdx (fdV ρ σ a)).set k (.long v))) := by
  rw [ws_set (σ := σ) (τ := pL σ a k v) h (fun i hi => rfl) (fun i hi => by simp [pL, hi]) (fun i hi => rfl)]
  have : fds.mapIdx (fdV ρ (pL σ a k v) a) = (fds.mapIdx (fdV ρ σ a)).set k (.long v) := mapIdx_set hf (by simp [fdV, pL, vp_updL]) (fun i x hi => by simp [fdV, pL, vp_updL, hi])
  simp only [shE, this]
theorem ws_pRo {v : Nat} (h : S[a]? = some (.inr (ci, fds))) (hf : fds[k]? = some (2, z)) : wsOf S κ ρ (pR σ a k v) = (wsOf S κ ρ σ).set a (ρ a, .inr (ci, (fds.mapIdx (fdV ρ σ a)).set k (.ref (ρ v)))) := by
  rw [ws_set (σ := σ) (τ := pR σ a k v) h (fun i hi => rfl) (fun i hi => rfl) (fun i hi => by simp [pR, hi])]
  have : fds.mapIdx (fdV ρ (pR σ a k v) a) = (fds.mapIdx (fdV ρ σ a)).set k (.ref (ρ v)) := mapIdx_set hf (by simp [fdV, pR]) (fun i x hi => by simp [fdV, pR, hi])
  simp only [shE, this]
/-- the types whose elements are ints -/
def nl_il (ty : FieldType) : Bool := match ty with
  | .int | .byte | .short | .boolean => true
  | _ => false
theorem arE_i {ty : FieldType} (ht : nl_il ty = true) : arE ρ σ a ty n r = (n, .inl (σ.1 a)) := by
  cases ty <;> first | rfl | (simp [nl_il] at ht)
theorem ws_pIa {ty : FieldType} {v : Int32} (ht : nl_il ty = true) (h : S[a]? = some (.inl (ty, n, r))) : wsOf S κ ρ (pI σ a k v) = (wsOf S κ ρ σ).set a (ρ a, .inl (κ ty, n, .inl (upd (σ.1 a) k v))) := by
  rw [ws_set (σ := σ) (τ := pI σ a k v) h (fun i hi => by simp [pI, hi]) (fun i hi => rfl) (fun i hi => rfl)]
  simp [shE, arE_i ht, pI]
theorem ws_pCa {ty : FieldType} {b sp dp m : Nat} (ht : nl_il ty = true) (h : S[a]? = some (.inl (ty, n, r))) : wsOf S κ ρ (pC σ b sp a dp m) = (wsOf S κ ρ σ).set a (ρ a, .inl (κ ty, n, .inl (va_cpy (σ.1 b) (σ.1 a) sp dp m))) := by
  rw [ws_set (σ := σ) (τ := pC σ b sp a dp m) h (fun i hi => by simp [pC, hi]) (fun i hi => rfl) (fun i hi => rfl)]
  simp [shE, arE_i ht, pC]
theorem ws_pLa {v : Int64} (h : S[a]? = some (.inl (.long, n, r))) : wsOf S κ ρ (pL σ a k v) = (wsOf S κ ρ σ).set a (ρ a, .inl (κ .long, n, .inr (.inl (vp_updL (σ.2.1 a) k v)))) := by
  rw [ws_set (σ := σ) (τ := pL σ a k v) h (fun i hi => rfl) (fun i hi => by simp [pL, hi]) (fun i hi => rfl)]
  simp [shE, arE, pL]
end PW
/-- the pieces of an image -/
def bn {α β : Type} (v : α) (f : α → β) : β := f v
def ck {β : Type} (b : Bool) (E : Option β) : Option β := match b with
  | true => E
  | false => none
def cl {β γ : Type} (o : Option (Int32 × γ)) (k : Int32 → γ → Option β) : Option β := match o with
  | none => none
  | some q => k q.1 q.2
def jn {α β : Type} (K : α) (B : α → β) : β := B K
def inb (i : Int32) (n : Nat) : Bool := decide (¬ (i < 0 ∨ n ≤ i.toNatClampNeg))
theorem inb_in {i : Int32} {n : Nat} (h : inb i n = true) : vp_in i n := by simpa [inb, vp_in] using h
def lq1 {α ω : Type} (F : (α → Option ω) → α → Option ω) : Nat → α → Option ω
  | 0 => fun _ => none
  | n + 1 => F (lq1 F n)
def lq2 {α β ω : Type} (F : (α → β → Option ω) → α → β → Option ω) : Nat → α → β → Option ω
  | 0 => fun _ _ => none
  | n + 1 => F (lq2 F n)
def lq3 {α β γ ω : Type} (F : (α → β → γ → Option ω) → α → β → γ → Option ω) : Nat → α → β → γ → Option ω
  | 0 => fun _ _ _ => none
  | n + 1 => F (lq3 F n)
def lq4 {α β γ δ ω : Type} (F : (α → β → γ → δ → Option ω) → α → β → γ → δ → Option ω) : Nat → α → β → γ → δ → Option ω
  | 0 => fun _ _ _ _ => none
  | n + 1 => F (lq4 F n)
def lq5 {α β γ δ ε ω : Type} (F : (α → β → γ → δ → ε → Option ω) → α → β → γ → δ → ε → Option ω) : Nat → α → β → γ → δ → ε → Option ω
  | 0 => fun _ _ _ _ _ => none
  | n + 1 => F (lq5 F n)
def lq6 {α β γ δ ε ζ ω : Type} (F : (α → β → γ → δ → ε → ζ → Option ω) → α → β → γ → δ → ε → ζ → Option ω) : Nat → α → β → γ → δ → ε → ζ → Option ω
  | 0 => fun _ _ _ _ _ _ => none
  | n + 1 => F (lq6 F n)
theorem lq1_ind {α ω : Type} {F : (α → Option ω) → α → Option ω} (P : α → Option ω → Prop) (h0 : ∀ a, P a none) (hs : ∀ rec, (∀ a, P a (rec a)) → ∀ a, P a (F rec a)) : ∀ n a, P a (lq1 F n a)
  | 0, a => h0 a
  | n + 1, a => hs _ (lq1_ind P h0 hs n) a
theorem lq2_ind {α β ω : Type} {F : (α → β → Option ω) → α → β → Option ω} (P : α → β → Option ω → Prop) (h0 : ∀ a b, P a b none) (hs : ∀ rec, (∀ a b, P a b (rec a b)) → ∀ a b, P a b (F rec a b)) : ∀ n a b, P a b (lq2 F n a b)
  | 0, a, b => h0 a b
  | n + 1, a, b => hs _ (lq2_ind P h0 hs n) a b
theorem lq3_ind {α β γ ω : Type} {F : (α → β → γ → Option ω) → α → β → γ → Option ω} (P : α → β → γ → Option ω → Prop) (h0 : ∀ a b c, P a b c none) (hs : ∀ rec, (∀ a b c, P a b c (rec a b c)) → ∀ a b c, P a b c (F rec a b c)) : ∀ n a b c, P a b c (lq3 F n a b c)
  | 0, a, b, c => h0 a b c
  | n + 1, a, b, c => hs _ (lq3_ind P h0 hs n) a b c
theorem lq4_ind {α β γ δ ω : Type} {F : (α → β → γ → δ → Option ω) → α → β → γ → δ → Option ω} (P : α → β → γ → δ → Option ω → Prop) (h0 : ∀ a b c d, P a b c d none) (hs : ∀ rec, (∀ a b c d, P a b c d (rec a b c d)) → ∀ a b c d, P a b c d (F rec a b c d)) : ∀ n a b c d, P a b c d (lq4 F n a b c d)
  | 0, a, b, c, d => h0 a b c d
  | n + 1, a, b, c, d => hs _ (lq4_ind P h0 hs n) a b c d
theorem lq5_ind {α β γ δ ε ω : Type} {F : (α → β → γ → δ → ε → Option ω) → α → β → γ → δ → ε → Option ω} (P : α → β → γ → δ → ε → Option ω → Prop) (h0 : ∀ a b c d e, P a b c d e none) (hs : ∀ rec, (∀ a b c d e, P a b c d e (rec a b c d e)) → ∀ a b c d e, P a b c d e (F rec a b c d e)) : ∀ n a b c d e, P a b c d e (lq5 F n a b c d e)
  | 0, a, b, c, d, e => h0 a b c d e
  | n + 1, a, b, c, d, e => hs _ (lq5_ind P h0 hs n) a b c d e
theorem lq6_ind {α β γ δ ε ζ ω : Type} {F : (α → β → γ → δ → ε → ζ → Option ω) → α → β → γ → δ → ε → ζ → Option ω} (P : α → β → γ → δ → ε → ζ → Option ω → Prop) (h0 : ∀ a b c d e f, P a b c d e f none) (hs : ∀ rec, (∀ a b c d e f, P a b c d e f (rec a b c d e f)) → ∀ a b c d e f, P a b c d e f (F rec a b c d e f)) : ∀ n a b c d e f, P a b c d e f (lq6 F n a b c d e f)
  | 0, a, b, c, d, e, f => h0 a b c d e f
  | n + 1, a, b, c, d, e, f => hs _ (lq6_ind P h0 hs n) a b c d e f
