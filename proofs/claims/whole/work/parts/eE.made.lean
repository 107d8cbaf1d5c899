/-! the made world, cell by cell -/
theorem Wq.at {b b' : Nat} {S1 S2 : List Sh} {u v : va_W} {κ : FieldType → ClassId} {θ : Nat → Nat} {σ : Mm} (h : b + S1.length = b') (h1 : Wq u (wsAt b S1 κ θ σ)) (h2 : Wq v (wsAt b' S2 κ θ σ)) : Wq (u ++ v) (wsAt b (S1 ++ S2) κ θ σ) := by
  rw [wsAt_app h]
  exact h1.app h2
theorem wq_row {a : Nat} {κ : FieldType → ClassId} {C : String} {n : Nat} {f g : Nat → Option Nat} (h : ∀ j, j < n → f j = g j) : Wq [(a, rwE κ C n f)] [(a, rwE κ C n g)] := by
  refine ⟨rfl, fun k x y hx hy => ?_⟩
  have hk : k < 1 := (List.getElem?_eq_some_iff.mp hx).1
  have e0 : k = 0 := by omega
  subst e0
  cases hx
  cases hy
  exact ⟨rfl, Or.inr ⟨_, _, rfl, rfl, arr_cg h⟩⟩
def mC (τ : Mm) : Mm := (fun a => if a = 4 then τ.1 0 else if a = 207 ∨ a = 222 then zT.1 0 else fun _ => 0, fun a => if a = 4 then τ.2.1 0 else if a = 5 then τ.2.1 1 else fun _ => 0, fun a k => if a = 0 then (if k = 7 then 207 else if k = 8 then 222 else if k = 9 then 237 else if k = 10 then 241 else 0) else 0)
theorem mC_1 {τ : Mm} {a : Nat} (h1 : a ≠ 4) (h2 : a ≠ 207) (h3 : a ≠ 222) : (mC τ).1 a = fun _ => 0 := by
  show (if a = 4 then _ else _) = _
  rw [if_neg h1, if_neg (by omega)]
theorem mC_2 {τ : Mm} {a : Nat} (h1 : a ≠ 4) (h2 : a ≠ 5) : (mC τ).2.1 a = fun _ => 0 := by
  show (if a = 4 then _ else _) = _
  rw [if_neg h1, if_neg h2]
theorem mC_T {τ : Mm} {b i : Nat} (hb : b = 207 ∨ b = 222) (hi : i < 15) : (mC τ).1 (b + i) = zT.1 i := by
  rcases Nat.eq_zero_or_pos i with h | h
  · subst h
    show (if b + 0 = 4 then _ else _) = _
    rw [if_neg (by omega), if_pos (by omega)]
  · rw [mC_1 (by omega) (by omega) (by omega)]
    funext k
    show 0 = if i = 0 ∧ k = 3 then _ else _
    rw [if_neg (by omega)]
def thC (ρ : Nat → Nat) (Q : List Nat) (i : Nat) : Nat := if i < 245 then gD Q i else ρ i
theorem sf_split {Q A L : List Nat} {b b' n : Nat} (h : ∀ i, gD Q (b + i) = gD (A ++ L) i) (hl : A.length = n) (hb : b + n = b') : (∀ i, i < n → gD Q (b + i) = gD A i) ∧ ∀ i, gD Q (b' + i) = gD L i := by
  subst hl
  subst hb
  refine ⟨fun i hi => ?_, fun i => ?_⟩
  · rw [h i]
    unfold gD
    rw [List.getD_eq_getElem?_getD, List.getD_eq_getElem?_getD, List.getElem?_append_left hi]
  · rw [Nat.add_assoc, h (A.length + i)]
    unfold gD
    rw [List.getD_eq_getElem?_getD, List.getD_eq_getElem?_getD, List.getElem?_append_right (by omega), Nat.add_sub_cancel_left]
theorem wq_zM {S0 S1 : List Sh} {b : Nat} {κ : FieldType → ClassId} {ρ : Nat → Nat} {Q A : List Nat} {τ : Mm} {n : Nat} (hS : S1 = S0.map (shB b)) (hok : S0.all (okS S0.length) = true) (hn : S0.length = n) (hA : ∀ i, i < n → gD Q (b + i) = gD A i) (hb : b + n ≤ 245) (h4 : 6 ≤ b ∨ b + n ≤ 4) (h7 : b + n ≤ 207 ∨ 237 ≤ b) : Wq (wsOf S0 κ (gD A) zM) (wsAt b S1 κ (thC ρ Q) (mC τ)) := by
  subst hn
  refine Wq.of (Wq_part hS hok (fun i hi => ?_) (fun i hi => ?_) (fun i hi => ?_))
  · unfold thC; rw [if_pos (by omega), hA i hi]
  · rw [mC_1 (by omega) (by omega) (by omega)]; rfl
  · rw [mC_2 (by omega) (by omega)]; rfl
theorem wq_zT {S1 : List Sh} {b : Nat} {κ : FieldType → ClassId} {ρ : Nat → Nat} {Q A : List Nat} {τ : Mm} (hS : S1 = (shTown 0).map (shB b)) (hA : ∀ i, i < 15 → gD Q (b + i) = gD A i) (hb : b = 207 ∨ b = 222) : Wq (wsOf (shTown 0) κ (gD A) zT) (wsAt b S1 κ (thC ρ Q) (mC τ)) := by
  have hn : (shTown 0).length = 15 := rfl
  refine Wq.of (Wq_part hS (by decide +kernel) (fun i hi => ?_) (fun i hi => ?_) (fun i hi => ?_))
  · rw [hn] at hi; unfold thC; rw [if_pos (by omega), hA i hi]
  · rw [hn] at hi; exact mC_T hb hi
  · rw [hn] at hi; rw [mC_2 (by omega) (by omega)]; rfl
set_option maxRecDepth 100000 in
set_option maxHeartbeats 4000000 in
theorem SHC_eq : SHC = [.inr (11, [(3, 1), (3, 3), (3, 6), (3, 13), (3, 127), (3, 131), (3, 196), (2, 0), (2, 0), (2, 0), (2, 0)])] ++ ((shTape).map (shB 1) ++ ([.inr (6, [(3, 4), (0, 0)])] ++ ([.inr (8, [(3, 1), (3, 5), (0, 0), (0, 0), (0, 0), (1, 0), (0, 0)]), .inl (.long, 23, z0)] ++ ((shNight 0).map (shB 6) ++ ([.inr (5, [(3, 14), (0, 0), (0, 0)]), .inl (.object RX4, 16, fun j => 15 + 7 * j)] ++ ((shNight 0).map (shB 15) ++ ((shNight 0).map (shB 22) ++ ((shNight 0).map (shB 29) ++ ((shNight 0).map (shB 36) ++ ((shNight 0).map (shB 43) ++ ((shNight 0).map (shB 50) ++ ((shNight 0).map (shB 57) ++ ((shNight 0).map (shB 64) ++ ((shNight 0).map (shB 71) ++ ((shNight 0).map (shB 78) ++ ((shNight 0).map (shB 85) ++ ((shNight 0).map (shB 92) ++ ((shNight 0).map (shB 99) ++ ((shNight 0).map (shB 106) ++ ((shNight 0).map (shB 113) ++ ((shNight 0).map (shB 120) ++ ((shWatched 0).map (shB 127) ++ ([.inl (.object RX3, 4, fun j => 132 + 16 * j)] ++ ((shMark 0).map (shB 132) ++ ((shMark 0).map (shB 148) ++ ((shMark 0).map (shB 164) ++ ((shMark 0).map (shB 180) ++ ((shAhead).map (shB 196) ++ ((shTown 0).map (shB 207) ++ ((shTown 0).map (shB 222) ++ ((shLines 0).map (shB 237) ++ ((shLines 0).map (shB 241))))))))))))))))))))))))))))))))) := rfl
