/-! a door at rest -/
def gn (a b c : Int32) (own oth : Nat) : Int32 := if own = 1 then (if oth = 1 then a else -b) else (if oth = 1 then c else 0)
def rsP (a b c : Int32) (k : Nat) : Bool := decide (¬ gn a b c (k / 2) (k % 2) < gn a b c (1 - k / 2) (k % 2)) && decide (¬ gn a b c (k % 2) (k / 2) < gn a b c (1 - k % 2) (k / 2))
theorem nI_1' (n : Nat) (h : n < 2) : (nI n = 1) ↔ n = 1 := nI_eq (b := 1) (by omega) (by omega)
theorem s_gain (a b c : Int32) {i j : Nat} (hi : i < 2) (hj : j < 2) (σ : Mm) : f_X11_gain a b c (nI i) (nI j) σ = some (gn a b c i j, σ) := by
  unfold f_X11_gain gn
  simp only [nI_1' i hi, nI_1' j hj]
  by_cases x : i = 1 <;> by_cases y : j = 1 <;> simp [x, y]
theorem m_getsBy (a b c : Int32) {i j : Nat} (hi : i < 2) (hj : j < 2) (σ : Mm) : f_X12_getsBy a b c (nI i) (nI j) σ = some (gn a b c i j, σ) := by
  unfold f_X12_getsBy gn
  simp only [nI_1' i hi, nI_1' j hj]
  by_cases x : i = 1 <;> by_cases y : j = 1 <;> simp [x, y]
theorem k4 : ∀ k, k < 4 → (nI k >>> ((1 : Int32) &&& 31) = nI (k / 2)) ∧ (nI k &&& (1 : Int32) = nI (k % 2)) ∧ ((1 : Int32) - nI (k / 2) = nI (1 - k / 2)) ∧ ((1 : Int32) - nI (k % 2) = nI (1 - k % 2)) ∧ (nI k / (2 : Int32) = nI (k / 2)) ∧ (irm (nI k) (2 : Int32) = nI (k % 2)) := by decide
theorem s_isRest (a b c : Int32) {k : Nat} (hk : k < 4) (σ : Mm) : f_X11_isRest a b c (nI k) σ = some ((if rsP a b c k then 1 else 0), σ) := by
  obtain ⟨e1, e2, e3, e4, -, -⟩ := k4 k hk
  unfold f_X11_isRest
  simp only [bn_e, e1, e2, e3, e4, cl_of _ (s_gain a b c (show k / 2 < 2 by omega) (show k % 2 < 2 by omega) σ), cl_of _ (s_gain a b c (show 1 - k / 2 < 2 by omega) (show k % 2 < 2 by omega) σ), cl_of _ (s_gain a b c (show k % 2 < 2 by omega) (show k / 2 < 2 by omega) σ), cl_of _ (s_gain a b c (show 1 - k % 2 < 2 by omega) (show k / 2 < 2 by omega) σ), jn_e]
  unfold rsP
  by_cases x : gn a b c (k / 2) (k % 2) < gn a b c (1 - k / 2) (k % 2)
  · simp [x]
  · by_cases y : gn a b c (k % 2) (k / 2) < gn a b c (1 - k % 2) (k / 2) <;> simp [x, y]
/-- the choice that is asked for, if there is one -/
def rsF (a b c d : Int32) : Option Nat := fst1 (fun k => rsP a b c k && decide (nI (cnt (rsP a b c) k) = d)) 0 4
theorem rsRun {ω : Type} {F : (Int32 → Int32 → Option ω) → Int32 → Int32 → Option ω} {a b c d : Int32} (found : Nat → Option ω) (out : Option ω)
    (hf : ∀ rec k x, k < 4 → rsP a b c k = true → x = d → F rec x (nI k) = found k) (hs : ∀ rec k x, k < 4 → rsP a b c k = true → x ≠ d → F rec x (nI k) = rec (x + 1) (nI (k + 1))) (hn : ∀ rec k x, k < 4 → rsP a b c k = false → F rec x (nI k) = rec x (nI (k + 1))) (hx : ∀ rec, F rec (nI (cnt (rsP a b c) 4)) (nI 4) = out) :
    lq2 F 1000000 (0 : Int32) (0 : Int32) = (match rsF a b c d with | some k => found k | none => out) := by
  obtain ⟨M, eM⟩ : ∃ M, M = (rsF a b c d).getD 4 := ⟨_, rfl⟩
  have hM : M ≤ 4 := by rw [eM]; exact getD_le
  refine lq2_run (F := F) (fun k => nI (cnt (rsP a b c) k)) (fun k => nI k) M _ ?_ ?_ (n := 1000000) (by omega)
  · intro rec k hk
    have := getD_lt (p := fun k => rsP a b c k && decide (nI (cnt (rsP a b c) k) = d)) (n := 4) (i := k) (by rw [eM] at hk; exact hk)
    show F rec (nI (cnt (rsP a b c) k)) (nI k) = rec (nI (cnt (rsP a b c) (k + 1))) (nI (k + 1))
    rw [cnt_s]
    cases e : rsP a b c k
    · rw [hn rec k _ (by omega) e]; rfl
    · rw [e] at this
      have ne : ¬ nI (cnt (rsP a b c) k) = d := by simpa using this
      rw [hs rec k _ (by omega) e ne, nI_1]; rfl
  · intro rec
    show F rec (nI (cnt (rsP a b c) M)) (nI M) = _
    cases e : rsF a b c d with
    | none =>
      have : M = 4 := by rw [eM, e]; rfl
      subst this
      exact hx rec
    | some k =>
      have : M = k := by rw [eM, e]; rfl
      subst this
      obtain ⟨-, h2, h3, -⟩ := fst1_some e
      have h3a : rsP a b c M = true := by simp at h3; exact h3.1
      have h3b : nI (cnt (rsP a b c) M) = d := by simp at h3; exact h3.2
      exact hf rec M _ (by omega) h3a h3b
theorem s_isPay (x : Int32) (σ : Mm) : f_X11_isPay x σ = some ((if ¬ x < 0 ∧ ¬ (9 : Int32) < x then 1 else 0), σ) := by
  unfold f_X11_isPay
  simp only [jn_e]
  by_cases a : x < 0
  · simp [a]
  · by_cases b : (9 : Int32) < x <;> simp [a, b]
def payOk (a b c d : Int32) : Prop := (¬ a < 0 ∧ ¬ (9 : Int32) < a) ∧ (¬ b < 0 ∧ ¬ (9 : Int32) < b) ∧ (¬ c < 0 ∧ ¬ (9 : Int32) < c) ∧ ¬ d < -1
theorem c_rests {a b c d : Int32} (v : payOk a b c d) (σ : Mm) : f_X11_rests a b c d σ = (match rsF a b c d with | some k => some (nI k, σ) | none => if d = -1 then some (nI (cnt (rsP a b c) 4), σ) else none) ∧ fT_X11_rests a b c d σ = (match rsF a b c d with | some _ => none | none => if d = -1 then none else some (86, σ)) := by
  obtain ⟨v1, v2, v3, v4⟩ := v
  have l4 : ∀ k, k < 4 → nI k < (4 : Int32) := by decide
  have l44 : ¬ nI 4 < (4 : Int32) := by decide
  constructor
  · unfold f_X11_rests
    simp only [cl_of _ (s_isPay a σ), cl_of _ (s_isPay b σ), cl_of _ (s_isPay c σ), if_pos v1, if_pos v2, if_pos v3, if_neg v4, if_neg one0, jn_e2]
    refine rsRun (fun k => some (nI k, σ)) _ ?_ ?_ ?_ ?_
    · intro rec k x hk hp hx
      simp only [F_X11_rests_44, if_pos (l4 k hk), cl_of _ (s_isRest a b c hk σ), hp, if_true, if_neg one0, jn_e, if_pos hx]
    · intro rec k x hk hp hx
      simp only [F_X11_rests_44, if_pos (l4 k hk), cl_of _ (s_isRest a b c hk σ), hp, if_true, if_neg one0, jn_e, if_neg hx, nI_1]
    · intro rec k x hk hp
      simp only [F_X11_rests_44, if_pos (l4 k hk), cl_of _ (s_isRest a b c hk σ), hp, jn_e, nI_1]
      rfl
    · intro rec
      simp only [F_X11_rests_44, if_neg l44]
  · unfold fT_X11_rests
    simp only [cl_of _ (s_isPay a σ), cl_of _ (s_isPay b σ), cl_of _ (s_isPay c σ), if_pos v1, if_pos v2, if_pos v3, if_neg v4, if_neg one0, jn_e2]
    refine rsRun (fun k => none) _ ?_ ?_ ?_ ?_
    · intro rec k x hk hp hx
      simp only [FT_X11_rests_44, if_pos (l4 k hk), cl_of _ (s_isRest a b c hk σ), hp, if_true, if_neg one0, jn_e, if_pos hx]
    · intro rec k x hk hp hx
      simp only [FT_X11_rests_44, if_pos (l4 k hk), cl_of _ (s_isRest a b c hk σ), hp, if_true, if_neg one0, jn_e, if_neg hx, nI_1]
    · intro rec k x hk hp
      simp only [FT_X11_rests_44, if_pos (l4 k hk), cl_of _ (s_isRest a b c hk σ), hp, jn_e, nI_1]
      rfl
    · intro rec
      simp only [FT_X11_rests_44, if_neg l44]
theorem c_restsN {a b c d : Int32} (v : ¬ payOk a b c d) (σ : Mm) : fT_X11_rests a b c d σ = some (27, σ) := by
  unfold fT_X11_rests
  simp only [cl_of _ (s_isPay a σ), cl_of _ (s_isPay b σ), cl_of _ (s_isPay c σ), jn_e2]
  by_cases v1 : ¬ a < 0 ∧ ¬ (9 : Int32) < a
  · by_cases v2 : ¬ b < 0 ∧ ¬ (9 : Int32) < b
    · by_cases v3 : ¬ c < 0 ∧ ¬ (9 : Int32) < c
      · by_cases v4 : d < -1
        · simp only [if_pos v1, if_pos v2, if_pos v3, if_pos v4, if_neg one0]
        · exact absurd ⟨v1, v2, v3, v4⟩ v
      · simp only [if_pos v1, if_pos v2, if_neg v3, if_neg one0, if_true]
    · simp only [if_pos v1, if_neg v2, if_neg one0, if_true]
  · simp only [if_neg v1, if_true]
theorem rests_e (a b c d : Int32) (σ : Mm) (y : Int32) (v : (¬ payOk a b c d ∧ y = 1) ∨ (payOk a b c d ∧ y = 0)) : f_X12_rests a b c d σ = J_X12_rests_42 a b c d σ y := by
  unfold f_X12_rests
  simp only [cl_of _ (m_within a 0 9 σ), cl_of _ (m_within b 0 9 σ), cl_of _ (m_within c 0 9 σ), jn_e2]
  by_cases v1 : ¬ a < 0 ∧ ¬ (9 : Int32) < a
  · by_cases v2 : ¬ b < 0 ∧ ¬ (9 : Int32) < b
    · by_cases v3 : ¬ c < 0 ∧ ¬ (9 : Int32) < c
      · by_cases v4 : d < -1
        · rcases v with ⟨-, rfl⟩ | ⟨w, -⟩
          · simp only [if_pos v1, if_pos v2, if_pos v3, if_pos v4, if_neg one0]
          · exact absurd v4 w.2.2.2
        · rcases v with ⟨w, -⟩ | ⟨-, rfl⟩
          · exact absurd ⟨v1, v2, v3, v4⟩ w
          · simp only [if_pos v1, if_pos v2, if_pos v3, if_neg v4, if_neg one0]
      · rcases v with ⟨-, rfl⟩ | ⟨w, -⟩
        · simp only [if_pos v1, if_pos v2, if_neg v3, if_neg one0, if_true]
        · exact absurd w.2.2.1 v3
    · rcases v with ⟨-, rfl⟩ | ⟨w, -⟩
      · simp only [if_pos v1, if_neg v2, if_neg one0, if_true]
      · exact absurd w.2.1 v2
  · rcases v with ⟨-, rfl⟩ | ⟨w, -⟩
    · simp only [if_neg v1, if_true]
    · exact absurd w.1 v1
theorem m_restsN {a b c d : Int32} (v : ¬ payOk a b c d) (σ : Mm) : f_X12_rests a b c d σ = some (0, pI σ 0 0 1) := by
  rw [rests_e a b c d σ 1 (Or.inl ⟨v, rfl⟩)]
  unfold J_X12_rests_42
  rw [bn_e, gI_pI_s, if_pos rfl]
theorem pI_2 (σ : Mm) (a k : Nat) (u v : Int32) : pI (pI σ a k u) a k v = pI σ a k v := by
  refine Mm_ext (fun b j => ?_) (fun _ _ => rfl) (fun _ _ => rfl)
  rw [gI_pI, gI_pI, gI_pI]
  by_cases h : b = a ∧ j = k
  · simp only [if_pos h]
  · simp only [if_neg h]
theorem J42_e (a b c d : Int32) (σ : Mm) : J_X12_rests_42 a b c d σ 0 = lq2 (F_X12_rests_61 a b c d (pI σ 0 0 0) (fun x5 => if d = -1 then some (x5, pI σ 0 0 0) else some (0, pI σ 0 0 1))) 1000000 (0 : Int32) (0 : Int32) := by
  unfold J_X12_rests_42
  have ek : (fun (x5_151 : Int32) => jn (fun (y1_163 : Int32) => bn (pI (pI σ 0 0 0) 0 0 y1_163) (fun σ163 => (if d = (-1 : Int32) then some (x5_151, σ163) else some ((0 : Int32), σ163)))) (fun k163 => (if d = (-1 : Int32) then k163 (0 : Int32) else k163 (1 : Int32)))) = (fun x5 => if d = -1 then some (x5, pI σ 0 0 0) else some (0, pI σ 0 0 1)) := by
    funext x
    rw [jn_e2]
    by_cases z : d = -1
    · simp only [if_pos z, bn_e, pI_2]
    · simp only [if_neg z, bn_e, pI_2]
  rw [bn_e, gI_pI_s, if_neg (show ¬ (0 : Int32) = 1 by decide), jn_e2, ek]
theorem m_rests {a b c d : Int32} (v : payOk a b c d) (σ : Mm) : f_X12_rests a b c d σ = (match rsF a b c d with | some k => some (nI k, pI σ 0 0 0) | none => if d = -1 then some (nI (cnt (rsP a b c) 4), pI σ 0 0 0) else some (0, pI σ 0 0 1)) := by
  have l4 : ∀ k, k < 4 → nI k < (4 : Int32) := by decide
  have l44 : ¬ nI 4 < (4 : Int32) := by decide
  rw [rests_e a b c d σ 0 (Or.inr ⟨v, rfl⟩)]
  rw [J42_e]
  obtain ⟨τ, eτ⟩ : ∃ τ, τ = pI σ 0 0 0 := ⟨_, rfl⟩
  rw [← eτ]
  have g := fun {i j : Nat} (hi : i < 2) (hj : j < 2) => m_getsBy a b c hi hj τ
  have hw : ∀ rec k x (kx : Int32 → Option (Int32 × Mm)), k < 4 → F_X12_rests_61 a b c d τ kx rec x (nI k) = if rsP a b c k = true then (if x = d then some (nI k, τ) else rec (x + 1) (nI (k + 1))) else rec x (nI (k + 1)) := by
    intro rec k x kx hk
    obtain ⟨-, -, e3, e4, e5, e6⟩ := k4 k hk
    simp only [F_X12_rests_61, if_pos (l4 k hk), bn_e, e5, e6, e3, e4, cl_of _ (g (show 1 - k / 2 < 2 by omega) (show k % 2 < 2 by omega)), cl_of _ (g (show k / 2 < 2 by omega) (show k % 2 < 2 by omega)), cl_of _ (g (show 1 - k % 2 < 2 by omega) (show k / 2 < 2 by omega)), cl_of _ (g (show k % 2 < 2 by omega) (show k / 2 < 2 by omega)), jn_e, nI_1]
    unfold rsP
    by_cases x1 : gn a b c (k / 2) (k % 2) < gn a b c (1 - k / 2) (k % 2)
    · simp [x1]
    · by_cases y1 : gn a b c (k % 2) (k / 2) < gn a b c (1 - k % 2) (k / 2) <;> simp [x1, y1]
  refine rsRun (fun k => some (nI k, τ)) _ ?_ ?_ ?_ ?_
  · intro rec k x hk hp hx
    rw [hw rec k x _ hk, if_pos hp, if_pos hx]
  · intro rec k x hk hp hx
    rw [hw rec k x _ hk, if_pos hp, if_neg hx]
  · intro rec k x hk hp
    rw [hw rec k x _ hk, if_neg (by rw [hp]; decide)]
  · intro rec
    simp only [F_X12_rests_61, if_neg l44]
