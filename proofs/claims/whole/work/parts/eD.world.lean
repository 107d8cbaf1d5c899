/-! the made world is the first world -/
def eqE (e e' : va_E) : Prop := e = e' ∨ ∃ a b : ClassId × vp_A, e = .inl a ∧ e' = .inl b ∧ vp_cell a.1 a.2 = vp_cell b.1 b.2
def Wq (w w' : va_W) : Prop := w.length = w'.length ∧ ∀ (k : Nat) (x y : Nat × va_E), w[k]? = some x → w'[k]? = some y → x.1 = y.1 ∧ eqE x.2 y.2
theorem Wq.rf {w : va_W} : Wq w w := ⟨rfl, fun k x y hx hy => by rw [hx] at hy; cases hy; exact ⟨rfl, Or.inl rfl⟩⟩
theorem Wq.of {w w' : va_W} (h : w = w') : Wq w w' := by rw [h]; exact Wq.rf
theorem Wq.app {u u' v v' : va_W} (h1 : Wq u u') (h2 : Wq v v') : Wq (u ++ v) (u' ++ v') := by
  refine ⟨by rw [List.length_append, List.length_append, h1.1, h2.1], fun k x y hx hy => ?_⟩
  rcases Nat.lt_or_ge k u.length with g | g
  · rw [List.getElem?_append_left g] at hx
    rw [List.getElem?_append_left (by rw [← h1.1]; exact g)] at hy
    exact h1.2 k x y hx hy
  · rw [List.getElem?_append_right g] at hx
    rw [List.getElem?_append_right (by rw [← h1.1]; exact g), ← h1.1] at hy
    exact h2.2 _ x y hx hy
theorem Wq.back {w w' : va_W} (h : Wq w w') {k : Nat} {y : Nat × va_E} (hy : w'[k]? = some y) : ∃ x, w[k]? = some x ∧ x.1 = y.1 ∧ eqE x.2 y.2 := by
  have hk : k < w.length := by rw [h.1]; exact (List.getElem?_eq_some_iff.mp hy).1
  exact ⟨w[k], List.getElem?_eq_getElem hk, h.2 k _ y (List.getElem?_eq_getElem hk) hy⟩
theorem Wq.P {w w' : va_W} (h : Wq w w') {D : va_G} {H : Heap} (hP : va_P D vwCl w H) : va_P D vwCl w' H := by
  intro k y hy
  obtain ⟨x, hx, e1, e2⟩ := h.back hy
  have := hP k x hx
  obtain ⟨x1, x2⟩ := x
  obtain ⟨y1, y2⟩ := y
  have e1 : x1 = y1 := e1
  subst e1
  rcases e2 with e2 | ⟨a, b, ea, eb, ec⟩
  · have e2 : x2 = y2 := e2
    rw [← e2]; exact this
  · have ea : x2 = .inl a := ea
    have eb : y2 = .inl b := eb
    subst ea
    subst eb
    have this : H[x1]? = some (vp_cell a.1 a.2) := this
    rw [ec] at this
    exact this
theorem Wq.D {w w' : va_W} (h : Wq w w') {A : Nat → Prop} (hD : va_D A w) : va_D A w' := by
  refine ⟨fun i j p q hp hq e => ?_, fun k q hq => ?_⟩
  · obtain ⟨x, hx, e1, -⟩ := h.back hp
    obtain ⟨y, hy, e2, -⟩ := h.back hq
    exact hD.1 i j x y hx hy (by rw [e1, e2, e])
  · obtain ⟨x, hx, e1, -⟩ := h.back hq
    rw [← e1]; exact hD.2 k x hx
def wsAt (b : Nat) (S : List Sh) (κ : FieldType → ClassId) (θ : Nat → Nat) (σ : Mm) : va_W := S.mapIdx (fun i sh => (θ (b + i), shE κ θ σ (b + i) sh))
theorem wsAt_app {b b' : Nat} {S1 S2 : List Sh} {κ : FieldType → ClassId} {θ : Nat → Nat} {σ : Mm} (h : b + S1.length = b') : wsAt b (S1 ++ S2) κ θ σ = wsAt b S1 κ θ σ ++ wsAt b' S2 κ θ σ := by
  unfold wsAt
  rw [List.mapIdx_append]
  congr 1
  subst h
  congr 1
  funext i sh
  rw [show b + (i + S1.length) = b + S1.length + i by omega]
theorem wsAt_0 {S : List Sh} {κ : FieldType → ClassId} {θ : Nat → Nat} {σ : Mm} : wsOf S κ θ σ = wsAt 0 S κ θ σ := by
  unfold wsAt wsOf
  congr 1
  funext i sh
  rw [Nat.zero_add]
def fdB (b : Nat) (d : Fq) : Fq := match d.1 with
  | 3 => (3, d.2 + b)
  | _ => d
def shB (b : Nat) (sh : Sh) : Sh := match sh with
  | .inl q => .inl q
  | .inr q => .inr (q.1, q.2.map (fdB b))
def okF (n : Nat) (d : Fq) : Bool := match d.1 with
  | 0 => true
  | 1 => true
  | 3 => decide (d.2 < n)
  | _ => false
def okS (n : Nat) (sh : Sh) : Bool := match sh with
  | .inl (.object _, _) => false
  | .inl _ => true
  | .inr q => q.2.all (okF n)
theorem fdB_V {n b i k : Nat} {θ θ' : Nat → Nat} {z σ : Mm} {d : Fq} (hd : okF n d = true) (hθ : ∀ i, i < n → θ (b + i) = θ' i) (h1 : σ.1 (b + i) = z.1 i) (h2 : σ.2.1 (b + i) = z.2.1 i) : fdV θ' z i k d = fdV θ σ (b + i) k (fdB b d) := by
  obtain ⟨d1, d2⟩ := d
  match d1, hd with
  | 0, _ => show Value.int _ = Value.int _; rw [h1]
  | 1, _ => show Value.long _ = Value.long _; rw [h2]
  | 3, hd =>
    have hd : d2 < n := of_decide_eq_true hd
    show Value.ref _ = Value.ref _
    rw [← hθ d2 hd, Nat.add_comm b d2]
    rfl
theorem shB_E {n b i : Nat} {κ : FieldType → ClassId} {θ θ' : Nat → Nat} {z σ : Mm} {sh : Sh} (hs : okS n sh = true) (hθ : ∀ i, i < n → θ (b + i) = θ' i) (h1 : σ.1 (b + i) = z.1 i) (h2 : σ.2.1 (b + i) = z.2.1 i) : shE κ θ' z i sh = shE κ θ σ (b + i) (shB b sh) := by
  rcases sh with ⟨ty, m, r⟩ | ⟨ci, fds⟩
  · cases ty with
    | object C => cases hs
    | _ => simp [shE, shB, arE, h1, h2]
  · show (Sum.inr _ : va_E) = Sum.inr _
    have hs : ∀ d ∈ fds, okF n d = true := List.all_eq_true.mp hs
    congr 2
    apply List.ext_getElem?
    intro k
    simp only [List.getElem?_mapIdx, List.getElem?_map]
    cases e : fds[k]? with
    | none => rfl
    | some d =>
      simp only [Option.map_some]
      rw [fdB_V (hs d (List.mem_of_getElem? e)) hθ h1 h2]
theorem Wq_part {S0 S1 : List Sh} {b : Nat} {κ : FieldType → ClassId} {θ θ' : Nat → Nat} {z σ : Mm} (hS : S1 = S0.map (shB b)) (hok : S0.all (okS S0.length) = true) (hθ : ∀ i, i < S0.length → θ (b + i) = θ' i) (h1 : ∀ i, i < S0.length → σ.1 (b + i) = z.1 i) (h2 : ∀ i, i < S0.length → σ.2.1 (b + i) = z.2.1 i) : wsOf S0 κ θ' z = wsAt b S1 κ θ σ := by
  subst hS
  unfold wsOf wsAt
  apply List.ext_getElem?
  intro i
  simp only [List.getElem?_mapIdx, List.getElem?_map]
  cases e : S0[i]? with
  | none => rfl
  | some sh =>
    have hi : i < S0.length := (List.getElem?_eq_some_iff.mp e).1
    simp only [Option.map_some]
    rw [hθ i hi, shB_E (List.all_eq_true.mp hok sh (List.mem_of_getElem? e)) hθ (h1 i hi) (h2 i hi)]
theorem arr_cg {cA : ClassId} {n : Nat} {f g : Nat → Option Nat} (h : ∀ j, j < n → f j = g j) : vp_cell cA (n, .inr (.inr (.inr (.inr f)))) = vp_cell cA (n, .inr (.inr (.inr (.inr g)))) := by
  show arrV cA n (fun j => va_rf (f j)) = arrV cA n (fun j => va_rf (g j))
  unfold arrV
  congr 2
  funext j
  exact congrArg va_rf (h j.val j.isLt)
