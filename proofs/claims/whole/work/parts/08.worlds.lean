def z0 : Nat → Nat := fun _ => 0
def fdNight (a : Nat) : List Fq := [(0, 0), (0, 0), (0, 0), (3, a + 1), (3, a + 2), (3, a + 3), (3, a + 4), (3, a + 5), (3, a + 6), (0, 0), (0, 0)]
def shNight (a : Nat) : List Sh := [.inr (4, fdNight a)] ++ [.inl (.int, 8, z0), .inl (.int, 6, z0), .inl (.int, 6, z0), .inl (.int, 6, z0), .inl (.int, 6, z0), .inl (.int, 8, z0)]
def fdLaw (a : Nat) : List Fq := [(3, a + 1), (3, a + 2), (0, 0)]
def shLaw (a : Nat) : List Sh := [.inr (1, fdLaw a)] ++ [.inl (.short, 1000, z0), .inl (.int, 32, z0)]
def fdLines (a : Nat) : List Fq := [(0, 0), (3, a + 1), (3, a + 2), (3, a + 3)]
def shLines (a : Nat) : List Sh := [.inr (2, fdLines a)] ++ [.inl (.byte, 40, z0), .inl (.byte, 40, z0), .inl (.byte, 40, z0)]
def fdWatched (a : Nat) : List Fq := [(0, 0), (3, a + 1), (3, a + 2), (3, a + 3)]
def shWatched (a : Nat) : List Sh := [.inr (10, fdWatched a)] ++ [.inl (.int, 6, z0), .inl (.int, 6, z0), .inl (.boolean, 6, z0)]
def fdTown (a : Nat) : List Fq := [(0, 0), (0, 0), (0, 0), (0, 0), (0, 0), (3, a + 1), (3, a + 4), (3, a + 5), (3, a + 6), (3, a + 7), (3, a + 8), (3, a + 9), (3, a + 10), (3, a + 11), (3, a + 12), (3, a + 13), (3, a + 14)]
def shTown (a : Nat) : List Sh := [.inr (9, fdTown a)] ++ shLaw (a + 1) ++ [.inl (.long, 6, z0), .inl (.int, 8, z0), .inl (.int, 8, z0), .inl (.int, 8, z0), .inl (.long, 6, z0), .inl (.int, 6, z0), .inl (.int, 6, z0), .inl (.int, 6, z0), .inl (.int, 6, z0), .inl (.int, 36, z0), .inl (.int, 36, z0)]
def fdMark (a : Nat) : List Fq := [(0, 0), (3, a + 1), (3, a + 8), (3, a + 12)]
def shMark (a : Nat) : List Sh := [.inr (3, fdMark a)] ++ shNight (a + 1) ++ shLines (a + 8) ++ shWatched (a + 12)
def SHC : List Sh := [.inr (11, [(3, 1), (3, 3), (3, 6), (3, 13), (3, 127), (3, 131), (3, 196), (2, 0), (2, 0), (2, 0), (2, 0)]), .inr (7, [(3, 2), (0, 0)]), .inl (.byte, 1000, z0), .inr (6, [(3, 4), (0, 0)]), .inr (8, [(3, 1), (3, 5), (0, 0), (0, 0), (0, 0), (1, 0), (0, 0)]), .inl (.long, 23, z0)] ++ (shNight 6 ++ ([.inr (5, [(3, 14), (0, 0), (0, 0)]), .inl (.object RX4, 16, fun j => 15 + 7 * j)] ++ (shNight 15 ++ (shNight 22 ++ (shNight 29 ++ (shNight 36 ++ (shNight 43 ++ (shNight 50 ++ (shNight 57 ++ (shNight 64 ++ (shNight 71 ++ (shNight 78 ++ (shNight 85 ++ (shNight 92 ++ (shNight 99 ++ (shNight 106 ++ (shNight 113 ++ (shNight 120 ++ (shWatched 127 ++ ([.inl (.object RX3, 4, fun j => 132 + 16 * j)] ++ (shMark 132 ++ (shMark 148 ++ (shMark 164 ++ (shMark 180 ++ ([.inr (0, [(3, 197), (3, 204), (3, 205), (0, 0), (0, 0), (0, 0), (3, 206)])] ++ (shNight 197 ++ ([.inl (.int, 6, z0), .inl (.int, 8, z0), .inl (.int, 6, z0)] ++ (shTown 207 ++ (shTown 222 ++ (shLines 237 ++ (shLines 241)))))))))))))))))))))))))))))))
theorem sC_0 : SHC[0]? = some (.inr (11, [(3, 1), (3, 3), (3, 6), (3, 13), (3, 127), (3, 131), (3, 196), (2, 0), (2, 0), (2, 0), (2, 0)])) := rfl
theorem sC_1 : SHC[1]? = some (.inr (7, [(3, 2), (0, 0)])) := rfl
theorem sC_3 : SHC[3]? = some (.inr (6, [(3, 4), (0, 0)])) := rfl
theorem sC_4 : SHC[4]? = some (.inr (8, [(3, 1), (3, 5), (0, 0), (0, 0), (0, 0), (1, 0), (0, 0)])) := rfl
theorem sC_13 : SHC[13]? = some (.inr (5, [(3, 14), (0, 0), (0, 0)])) := rfl
theorem sC_196 : SHC[196]? = some (.inr (0, [(3, 197), (3, 204), (3, 205), (0, 0), (0, 0), (0, 0), (3, 206)])) := rfl
theorem sC_2 : SHC[2]? = some (.inl (.byte, 1000, z0)) := rfl
theorem sC_5 : SHC[5]? = some (.inl (.long, 23, z0)) := rfl
theorem sC_14 : SHC[14]? = some (.inl (.object RX4, 16, fun j => 15 + 7 * j)) := rfl
theorem sC_131 : SHC[131]? = some (.inl (.object RX3, 4, fun j => 132 + 16 * j)) := rfl
theorem sC_204 : SHC[204]? = some (.inl (.int, 6, z0)) := rfl
theorem sC_205 : SHC[205]? = some (.inl (.int, 8, z0)) := rfl
theorem sC_206 : SHC[206]? = some (.inl (.int, 6, z0)) := rfl
def isNight (a : Nat) : Bool := ([6, 15, 22, 29, 36, 43, 50, 57, 64, 71, 78, 85, 92, 99, 106, 113, 120, 133, 149, 165, 181, 197] : List Nat).contains a
theorem knNight {a : Nat} (h : isNight a = true) : SHC[a]? = some (.inr (4, fdNight a)) ∧ SHC[a + 1]? = some (.inl (.int, 8, z0)) ∧ SHC[a + 2]? = some (.inl (.int, 6, z0)) ∧ SHC[a + 3]? = some (.inl (.int, 6, z0)) ∧ SHC[a + 4]? = some (.inl (.int, 6, z0)) ∧ SHC[a + 5]? = some (.inl (.int, 6, z0)) ∧ SHC[a + 6]? = some (.inl (.int, 8, z0)) := by
  have h : a ∈ ([6, 15, 22, 29, 36, 43, 50, 57, 64, 71, 78, 85, 92, 99, 106, 113, 120, 133, 149, 165, 181, 197] : List Nat) := List.contains_iff_mem.mp h
  simp only [List.mem_cons, List.not_mem_nil, or_false] at h
  rcases h with rfl | rfl | rfl | rfl | rfl | rfl | rfl | rfl | rfl | rfl | rfl | rfl | rfl | rfl | rfl | rfl | rfl | rfl | rfl | rfl | rfl | rfl <;> exact ⟨rfl, rfl, rfl, rfl, rfl, rfl, rfl⟩
def isLaw (a : Nat) : Bool := ([208, 223] : List Nat).contains a
theorem knLaw {a : Nat} (h : isLaw a = true) : SHC[a]? = some (.inr (1, fdLaw a)) ∧ SHC[a + 1]? = some (.inl (.short, 1000, z0)) ∧ SHC[a + 2]? = some (.inl (.int, 32, z0)) := by
  have h : a ∈ ([208, 223] : List Nat) := List.contains_iff_mem.mp h
  simp only [List.mem_cons, List.not_mem_nil, or_false] at h
  rcases h with rfl | rfl <;> exact ⟨rfl, rfl, rfl⟩
def isTown (a : Nat) : Bool := ([207, 222] : List Nat).contains a
theorem knTown {a : Nat} (h : isTown a = true) : SHC[a]? = some (.inr (9, fdTown a)) ∧ SHC[a + 1]? = some (.inr (1, fdLaw (a + 1))) ∧ SHC[a + 2]? = some (.inl (.short, 1000, z0)) ∧ SHC[a + 3]? = some (.inl (.int, 32, z0)) ∧ SHC[a + 4]? = some (.inl (.long, 6, z0)) ∧ SHC[a + 5]? = some (.inl (.int, 8, z0)) ∧ SHC[a + 6]? = some (.inl (.int, 8, z0)) ∧ SHC[a + 7]? = some (.inl (.int, 8, z0)) ∧ SHC[a + 8]? = some (.inl (.long, 6, z0)) ∧ SHC[a + 9]? = some (.inl (.int, 6, z0)) ∧ SHC[a + 10]? = some (.inl (.int, 6, z0)) ∧ SHC[a + 11]? = some (.inl (.int, 6, z0)) ∧ SHC[a + 12]? = some (.inl (.int, 6, z0)) ∧ SHC[a + 13]? = some (.inl (.int, 36, z0)) ∧ SHC[a + 14]? = some (.inl (.int, 36, z0)) := by
  have h : a ∈ ([207, 222] : List Nat) := List.contains_iff_mem.mp h
  simp only [List.mem_cons, List.not_mem_nil, or_false] at h
  rcases h with rfl | rfl <;> exact ⟨rfl, rfl, rfl, rfl, rfl, rfl, rfl, rfl, rfl, rfl, rfl, rfl, rfl, rfl, rfl⟩
def isLines (a : Nat) : Bool := ([140, 156, 172, 188, 237, 241] : List Nat).contains a
theorem knLines {a : Nat} (h : isLines a = true) : SHC[a]? = some (.inr (2, fdLines a)) ∧ SHC[a + 1]? = some (.inl (.byte, 40, z0)) ∧ SHC[a + 2]? = some (.inl (.byte, 40, z0)) ∧ SHC[a + 3]? = some (.inl (.byte, 40, z0)) := by
  have h : a ∈ ([140, 156, 172, 188, 237, 241] : List Nat) := List.contains_iff_mem.mp h
  simp only [List.mem_cons, List.not_mem_nil, or_false] at h
  rcases h with rfl | rfl | rfl | rfl | rfl | rfl <;> exact ⟨rfl, rfl, rfl, rfl⟩
def isWatched (a : Nat) : Bool := ([127, 144, 160, 176, 192] : List Nat).contains a
theorem knWatched {a : Nat} (h : isWatched a = true) : SHC[a]? = some (.inr (10, fdWatched a)) ∧ SHC[a + 1]? = some (.inl (.int, 6, z0)) ∧ SHC[a + 2]? = some (.inl (.int, 6, z0)) ∧ SHC[a + 3]? = some (.inl (.boolean, 6, z0)) := by
  have h : a ∈ ([127, 144, 160, 176, 192] : List Nat) := List.contains_iff_mem.mp h
  simp only [List.mem_cons, List.not_mem_nil, or_false] at h
  rcases h with rfl | rfl | rfl | rfl | rfl <;> exact ⟨rfl, rfl, rfl, rfl⟩
def isMark (a : Nat) : Bool := ([132, 148, 164, 180] : List Nat).contains a
theorem knMark {a : Nat} (h : isMark a = true) : SHC[a]? = some (.inr (3, fdMark a)) ∧ SHC[a + 1]? = some (.inr (4, fdNight (a + 1))) ∧ SHC[a + 2]? = some (.inl (.int, 8, z0)) ∧ SHC[a + 3]? = some (.inl (.int, 6, z0)) ∧ SHC[a + 4]? = some (.inl (.int, 6, z0)) ∧ SHC[a + 5]? = some (.inl (.int, 6, z0)) ∧ SHC[a + 6]? = some (.inl (.int, 6, z0)) ∧ SHC[a + 7]? = some (.inl (.int, 8, z0)) ∧ SHC[a + 8]? = some (.inr (2, fdLines (a + 8))) ∧ SHC[a + 9]? = some (.inl (.byte, 40, z0)) ∧ SHC[a + 10]? = some (.inl (.byte, 40, z0)) ∧ SHC[a + 11]? = some (.inl (.byte, 40, z0)) ∧ SHC[a + 12]? = some (.inr (10, fdWatched (a + 12))) ∧ SHC[a + 13]? = some (.inl (.int, 6, z0)) ∧ SHC[a + 14]? = some (.inl (.int, 6, z0)) ∧ SHC[a + 15]? = some (.inl (.boolean, 6, z0)) := by
  have h : a ∈ ([132, 148, 164, 180] : List Nat) := List.contains_iff_mem.mp h
  simp only [List.mem_cons, List.not_mem_nil, or_false] at h
  rcases h with rfl | rfl | rfl | rfl <;> exact ⟨rfl, rfl, rfl, rfl, rfl, rfl, rfl, rfl, rfl, rfl, rfl, rfl, rfl, rfl, rfl, rfl⟩
def fdM : List Fq := [(0, 0), (0, 0), (3, 1), (0, 0), (0, 0), (0, 0), (0, 0), (1, 0), (0, 0), (0, 0), (3, 2), (3, 3), (3, 4), (3, 5), (3, 6), (3, 7), (3, 8), (3, 9), (3, 10), (3, 11), (3, 12), (3, 13), (3, 14), (0, 0), (0, 0), (3, 15), (3, 16), (3, 17), (3, 18), (3, 19), (3, 20), (3, 21), (3, 22), (3, 23), (3, 24), (3, 25), (3, 26), (0, 0), (1, 0), (0, 0), (3, 27), (3, 28), (3, 29), (3, 30), (3, 31), (3, 32), (3, 33), (3, 34), (3, 35), (3, 36), (3, 37), (3, 38), (3, 39), (3, 40), (3, 41), (0, 0), (0, 0), (0, 0), (3, 42), (3, 43), (0, 0), (0, 0), (0, 0), (0, 0), (3, 44), (3, 45), (3, 46), (3, 47), (3, 48), (0, 0), (0, 0), (3, 49), (1, 0)]
def SHM : List Sh := [.inr (12, fdM), .inl (.int, 1000, z0), .inl (.int, 8, z0), .inl (.long, 12, z0), .inl (.long, 12, z0), .inl (.int, 16, z0), .inl (.int, 16, z0), .inl (.int, 16, z0), .inl (.int, 12, z0), .inl (.int, 12, z0), .inl (.int, 12, z0), .inl (.int, 12, z0), .inl (.int, 2, z0), .inl (.int, 2, z0), .inl (.int, 2000, z0), .inl (.int, 7, z0), .inl (.boolean, 7, z0), .inl (.int, 7, z0), .inl (.int, 7, z0), .inl (.int, 7, z0), .inl (.int, 7, z0), .inl (.int, 7, z0), .inl (.int, 7, z0), .inl (.int, 7, z0), .inl (.int, 7, z0), .inl (.int, 7, z0), .inl (.int, 20, z0), .inl (.int, 36, z0), .inl (.int, 6, z0), .inl (.int, 240, z0), .inl (.int, 240, z0), .inl (.int, 240, z0), .inl (.int, 5, z0), .inl (.int, 30, z0), .inl (.int, 30, z0), .inl (.boolean, 30, z0), .inl (.int, 41, z0), .inl (.int, 41, z0), .inl (.int, 41, z0), .inl (.int, 164, z0), .inl (.int, 656, z0), .inl (.boolean, 4, z0), .inl (.int, 8, z0), .inl (.int, 6, z0), .inl (.int, 6, z0), .inl (.int, 6, z0), .inl (.int, 100, z0), .inl (.int, 6, z0), .inl (.int, 6, z0), .inl (.int, 1984, z0)]
theorem sM_0 : SHM[0]? = some (.inr (12, fdM)) := rfl
theorem sM_1 : SHM[1]? = some (.inl (.int, 1000, z0)) := rfl
theorem sM_2 : SHM[2]? = some (.inl (.int, 8, z0)) := rfl
theorem sM_3 : SHM[3]? = some (.inl (.long, 12, z0)) := rfl
theorem sM_4 : SHM[4]? = some (.inl (.long, 12, z0)) := rfl
theorem sM_5 : SHM[5]? = some (.inl (.int, 16, z0)) := rfl
theorem sM_6 : SHM[6]? = some (.inl (.int, 16, z0)) := rfl
theorem sM_7 : SHM[7]? = some (.inl (.int, 16, z0)) := rfl
theorem sM_8 : SHM[8]? = some (.inl (.int, 12, z0)) := rfl
theorem sM_9 : SHM[9]? = some (.inl (.int, 12, z0)) := rfl
theorem sM_10 : SHM[10]? = some (.inl (.int, 12, z0)) := rfl
theorem sM_11 : SHM[11]? = some (.inl (.int, 12, z0)) := rfl
theorem sM_12 : SHM[12]? = some (.inl (.int, 2, z0)) := rfl
theorem sM_13 : SHM[13]? = some (.inl (.int, 2, z0)) := rfl
theorem sM_14 : SHM[14]? = some (.inl (.int, 2000, z0)) := rfl
theorem sM_15 : SHM[15]? = some (.inl (.int, 7, z0)) := rfl
theorem sM_16 : SHM[16]? = some (.inl (.boolean, 7, z0)) := rfl
theorem sM_17 : SHM[17]? = some (.inl (.int, 7, z0)) := rfl
theorem sM_18 : SHM[18]? = some (.inl (.int, 7, z0)) := rfl
theorem sM_19 : SHM[19]? = some (.inl (.int, 7, z0)) := rfl
theorem sM_20 : SHM[20]? = some (.inl (.int, 7, z0)) := rfl
theorem sM_21 : SHM[21]? = some (.inl (.int, 7, z0)) := rfl
theorem sM_22 : SHM[22]? = some (.inl (.int, 7, z0)) := rfl
theorem sM_23 : SHM[23]? = some (.inl (.int, 7, z0)) := rfl
theorem sM_24 : SHM[24]? = some (.inl (.int, 7, z0)) := rfl
theorem sM_25 : SHM[25]? = some (.inl (.int, 7, z0)) := rfl
theorem sM_26 : SHM[26]? = some (.inl (.int, 20, z0)) := rfl
theorem sM_27 : SHM[27]? = some (.inl (.int, 36, z0)) := rfl
theorem sM_28 : SHM[28]? = some (.inl (.int, 6, z0)) := rfl
theorem sM_29 : SHM[29]? = some (.inl (.int, 240, z0)) := rfl
theorem sM_30 : SHM[30]? = some (.inl (.int, 240, z0)) := rfl
theorem sM_31 : SHM[31]? = some (.inl (.int, 240, z0)) := rfl
theorem sM_32 : SHM[32]? = some (.inl (.int, 5, z0)) := rfl
theorem sM_33 : SHM[33]? = some (.inl (.int, 30, z0)) := rfl
theorem sM_34 : SHM[34]? = some (.inl (.int, 30, z0)) := rfl
theorem sM_35 : SHM[35]? = some (.inl (.boolean, 30, z0)) := rfl
theorem sM_36 : SHM[36]? = some (.inl (.int, 41, z0)) := rfl
theorem sM_37 : SHM[37]? = some (.inl (.int, 41, z0)) := rfl
theorem sM_38 : SHM[38]? = some (.inl (.int, 41, z0)) := rfl
theorem sM_39 : SHM[39]? = some (.inl (.int, 164, z0)) := rfl
theorem sM_40 : SHM[40]? = some (.inl (.int, 656, z0)) := rfl
theorem sM_41 : SHM[41]? = some (.inl (.boolean, 4, z0)) := rfl
theorem sM_42 : SHM[42]? = some (.inl (.int, 8, z0)) := rfl
theorem sM_43 : SHM[43]? = some (.inl (.int, 6, z0)) := rfl
theorem sM_44 : SHM[44]? = some (.inl (.int, 6, z0)) := rfl
theorem sM_45 : SHM[45]? = some (.inl (.int, 6, z0)) := rfl
theorem sM_46 : SHM[46]? = some (.inl (.int, 100, z0)) := rfl
theorem sM_47 : SHM[47]? = some (.inl (.int, 6, z0)) := rfl
theorem sM_48 : SHM[48]? = some (.inl (.int, 6, z0)) := rfl
theorem sM_49 : SHM[49]? = some (.inl (.int, 1984, z0)) := rfl
def lenM (a : Nat) : Nat := ([0, 1000, 8, 12, 12, 16, 16, 16, 12, 12, 12, 12, 2, 2, 2000, 7, 7, 7, 7, 7, 7, 7, 7, 7, 7, 7, 20, 36, 6, 240, 240, 240, 5, 30, 30, 30, 41, 41, 41, 164, 656, 4, 8, 6, 6, 6, 100, 6, 6, 1984] : List Nat).getD a 0
def isIA (a : Nat) : Bool := ([1, 2, 5, 6, 7, 8, 9, 10, 11, 12, 13, 14, 15, 17, 18, 19, 20, 21, 22, 23, 24, 25, 26, 27, 28, 29, 30, 31, 32, 33, 34, 36, 37, 38, 39, 40, 42, 43, 44, 45, 46, 47, 48, 49] : List Nat).contains a
def isLA (a : Nat) : Bool := ([3, 4] : List Nat).contains a
theorem knIA {a : Nat} (h : isIA a = true) : SHM[a]? = some (.inl (.int, lenM a, z0)) := by
  have h : a ∈ ([1, 2, 5, 6, 7, 8, 9, 10, 11, 12, 13, 14, 15, 17, 18, 19, 20, 21, 22, 23, 24, 25, 26, 27, 28, 29, 30, 31, 32, 33, 34, 36, 37, 38, 39, 40, 42, 43, 44, 45, 46, 47, 48, 49] : List Nat) := List.contains_iff_mem.mp h
  simp only [List.mem_cons, List.not_mem_nil, or_false] at h
  rcases h with rfl | rfl | rfl | rfl | rfl | rfl | rfl | rfl | rfl | rfl | rfl | rfl | rfl | rfl | rfl | rfl | rfl | rfl | rfl | rfl | rfl | rfl | rfl | rfl | rfl | rfl | rfl | rfl | rfl | rfl | rfl | rfl | rfl | rfl | rfl | rfl | rfl | rfl | rfl | rfl | rfl | rfl | rfl | rfl <;> rfl
theorem knLA {a : Nat} (h : isLA a = true) : SHM[a]? = some (.inl (.long, lenM a, z0)) := by
  have h : a ∈ ([3, 4] : List Nat) := List.contains_iff_mem.mp h
  simp only [List.mem_cons, List.not_mem_nil, or_false] at h
  rcases h with rfl | rfl <;> rfl
