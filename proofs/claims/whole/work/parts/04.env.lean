/-- the texts: the words, the signs -/
def sW : String := "place lane burns walker from to at boy minute send wait back plain lamp blind drunk not and or told left feet late "
def sS : String := "()<=+-*;"
def sLen : List Nat := [115, 8]
def sByt : List (List Int32) := [[112, 108, 97, 99, 101, 32, 108, 97, 110, 101, 32, 98, 117, 114, 110, 115, 32, 119, 97, 108, 107, 101, 114, 32, 102, 114, 111, 109, 32, 116, 111, 32, 97, 116, 32, 98, 111, 121, 32, 109, 105, 110, 117, 116, 101, 32, 115, 101, 110, 100, 32, 119, 97, 105, 116, 32, 98, 97, 99, 107, 32, 112, 108, 97, 105, 110, 32, 108, 97, 109, 112, 32, 98, 108, 105, 110, 100, 32, 100, 114, 117, 110, 107, 32, 110, 111, 116, 32, 97, 110, 100, 32, 111, 114, 32, 116, 111, 108, 100, 32, 108, 101, 102, 116, 32, 102, 101, 101, 116, 32, 108, 97, 116, 101, 32], [40, 41, 60, 61, 43, 45, 42, 59]]
/-- what is known of the machine's own cells: the texts (at the addresses 1000000 + 2 i, their bytes behind them), the statics that are read; none of them lies in A -/
def EN (ρ : Nat → Nat) (A : Nat → Prop) (U : State) (H : Heap) : Prop := vk_S 2 sLen sByt (fun i => ρ (1000000 + 2 * i)) (fun i => ρ (1000001 + 2 * i)) A U H ∧ vk_R RX8 19 sW (ρ 1000000) U ∧ vk_R RX8 58 sS (ρ 1000002) U ∧ va_Z "java/lang/String" "COMPACT_STRINGS" "Z" (.int 1) A U H ∧ (∃ a, vk_R RX11 258 "no such walker" a U) ∧ (∃ a, vk_R RX11 269 "no such door" a U) ∧ (∃ a, vk_R RX11 275 "no such rest" a U) ∧ vx_Zq Bundle.tN "UNASSIGNED_STACK" Bundle.steD A U H ∧ vx_Zq Bundle.tN "SUPPRESSED_SENTINEL" Bundle.listD A U H ∧ (va_Z "jdk/internal/util/Preconditions" "SIOOBE_FORMATTER" "Ljava/util/function/BiFunction;" .null A U H ∨ va_Z "jdk/internal/util/Preconditions" "SIOOBE_FORMATTER" "Ljava/util/function/BiFunction;" (.ref (ρ 1000010)) A U H)
theorem EN.call {ρ : Nat → Nat} {A B : Nat → Prop} {s U : State} {H : Heap} {locs : List Loc} (h : EN ρ A s s.heap) (hS : va_S A s.heap H locs) (hB : ∀ q, B q → A q) (hW : s.WarmedH U.vm) (hU : U.heap = H) : EN ρ B U U.heap := by
  obtain ⟨h1, h2, h3, h4, ⟨a5, h5⟩, ⟨a6, h6⟩, ⟨a7, h7⟩, h8, h9, h10⟩ := h
  rw [hU]
  exact ⟨((h1.kept hS.2.1).moved hW.alike).narrow hB, h2.warm hW, h3.warm hW, ((h4.kept hS.2.1).moved hW.alike).narrow hB, ⟨a5, h5.warm hW⟩, ⟨a6, h6.warm hW⟩, ⟨a7, h7.warm hW⟩, ((h8.kept hS.2.1).moved hW.alike).narrow hB, ((h9.kept hS.2.1).moved hW.alike).narrow hB, h10.imp (fun h => ((h.kept hS.2.1).moved hW.alike).narrow hB) (fun h => ((h.kept hS.2.1).moved hW.alike).narrow hB)⟩
theorem EN.same {ρ : Nat → Nat} {A : Nat → Prop} {u U : State} (h : EN ρ A u u.heap) (hv : U.vm = u.vm) (hh : U.heap = u.heap) : EN ρ A U U.heap := by
  obtain ⟨h1, h2, h3, h4, ⟨a5, h5⟩, ⟨a6, h6⟩, ⟨a7, h7⟩, h8, h9, h10⟩ := h
  have ha : u.vm.Alike U.vm := by rw [hv]; exact Vm.Alike.refl u.vm
  rw [hh]
  exact ⟨h1.moved ha, h2.same hv, h3.same hv, h4.moved ha, ⟨a5, h5.same hv⟩, ⟨a6, h6.same hv⟩, ⟨a7, h7.same hv⟩, h8.moved ha, h9.moved ha, h10.imp (fun h => h.moved ha) (fun h => h.moved ha)⟩
theorem EN.warm {ρ : Nat → Nat} {A : Nat → Prop} {s U : State} (h : EN ρ A s s.heap) (hW : s.WarmedH U.vm) (hh : U.heap = s.heap) : EN ρ A U U.heap := h.call va_S.rf (fun _ q => q) hW hh
