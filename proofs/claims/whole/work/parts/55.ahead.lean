/-! the minutes to come -/
def itN (T : Tw) (lg : Int32) (N : Nt) : Nat → Nt
  | 0 => N
  | i + 1 => passN T (itN T lg N i) lg
def tkN (T : Tw) (lg : Int32) (N : Nt) : Nat := (fst1 (fun i => allH T (itN T lg N i)) 0 99).getD 99
theorem tkN_le (T : Tw) (lg : Int32) (N : Nt) : tkN T lg N ≤ 99 := by
  unfold tkN
  cases e : fst1 (fun i => allH T (itN T lg N i)) 0 99 with
  | none => exact Nat.le_refl _
  | some k => have := (fst1_some e).2.1; simp only [Option.getD_some]; omega
theorem tkN_lt {T : Tw} {lg : Int32} {N : Nt} {i : Nat} (h : i < tkN T lg N) : allH T (itN T lg N i) = false := by
  unfold tkN at h
  cases e : fst1 (fun i => allH T (itN T lg N i)) 0 99 with
  | none => rw [e] at h; exact fst1_none e i (Nat.zero_le _) (by simpa using h)
  | some k => rw [e] at h; exact (fst1_some e).2.2.2 i (Nat.zero_le _) h
theorem tkN_at {T : Tw} {lg : Int32} {N : Nt} (h : tkN T lg N < 99) : allH T (itN T lg N (tkN T lg N)) = true := by
  unfold tkN at h ⊢
  cases e : fst1 (fun i => allH T (itN T lg N i)) 0 99 with
  | none => rw [e] at h; exact absurd h (by simp)
  | some k => exact (fst1_some e).2.2.1
theorem itN_ok {T : Tw} {N : Nt} (hT : TwOk T) (hN : NtOk T N) (lg : Int32) : ∀ i, NtOk T (itN T lg N i)
  | 0 => hN
  | i + 1 => passN_ok hT (itN_ok hT hN lg i) lg
def sm (f : Nat → Nat) : Nat → Nat
  | 0 => 0
  | n + 1 => sm f n + f n
/-- what a night tried writes -/
def tryC (t : Nat) : List Nat := [197, 198, 199, 200, 201, 202, 203, t + 3]
theorem n197 : isNight 197 = true := by decide
/-- the night tried, i minutes on -/
def At (σ : Mm) (t : Nat) (T : Tw) (lg : Int32) (N : Nt) (i : Nat) (b : Mm) : Prop := Off (tryC t) σ b ∧ TC b t T ∧ RC b 197 (tW T) (itN T lg N i)
theorem At.pass {σ b : Mm} {t : Nat} {T : Tw} {lg : Int32} {N : Nt} {i : Nat} (h : At σ t T lg N i b) (hT : TwOk T) (hN : NtOk T N) (hlg : LgOk lg) :
    ∃ τ, f_X4_pass 197 t lg b = some (0, τ) ∧ At σ t T lg N (i + 1) τ ∧ gI τ 197 9 = nI (bts (dkN T (itN T lg N i)) (tW T)) ∧ gI τ 197 10 = nI (bts (wkN T (itN T lg N i)) (tL T)) := by
  obtain ⟨o, hc, r⟩ := h
  have tn := town_night hc.1 n197
  obtain ⟨τ, t1, t2, t3, t4, t5⟩ := s_pass hlg hc hT r (itN_ok hT hN lg i)
  exact ⟨τ, t1, ⟨o.tr (t3.mono (by simp [tryC])), hc.off t3 (fun a ha => by simp only [List.mem_cons, List.not_mem_nil, or_false] at ha; omega), t2⟩, t4, t5⟩
theorem At.first {σ : Mm} {t m : Nat} {T : Tw} {N : Nt} (lg : Int32) (hc : TC σ t T) (hT : TwOk T) (hm : (197 : Nat) ≠ m) (r : RC σ m (tW T) N) :
    ∃ τ, f_X4_copyFrom 197 m σ = some (0, τ) ∧ At σ t T lg N 0 τ := by
  have tn := town_night hc.1 n197
  obtain ⟨τ, t1, t2, t3, -⟩ := s_copyFrom n197 hm hT.2.2.1 r
  exact ⟨τ, t1, t3.mono (by simp [tryC]), hc.off t3 (fun a ha => by simp only [List.mem_cons, List.not_mem_nil, or_false] at ha; omega), t2⟩
theorem At.home {σ b : Mm} {t : Nat} {T : Tw} {lg : Int32} {N : Nt} {i : Nat} (h : At σ t T lg N i b) (hT : TwOk T) (hN : NtOk T N) : f_X4_isAllHome 197 t b = some ((if allH T (itN T lg N i) then 1 else 0), b) := s_isAllHome h.2.1 hT h.2.2 (itN_ok hT hN lg i)
theorem At.lit {σ b : Mm} {t : Nat} {T : Tw} {lg : Int32} {N : Nt} {i : Nat} (h : At σ t T lg N i b) (hT : TwOk T) (hN : NtOk T N) : f_X4_litBits 197 t b = some (nI (bts (brN (itN T lg N i)) (tL T)), b) := s_litBits h.2.1 hT h.2.2 (itN_ok hT hN lg i)
theorem cnt_brI {T : Tw} {N : Nt} (hT : TwOk T) (σ : Mm) : f_J6_bitCount_0f7a4 (nI (bts (brN N) (tL T))) σ = some (nI (cnt (brN N) (tL T)), σ) := by
  have hL := hT.2.1
  have lt : bts (brN N) (tL T) < 256 := Nat.lt_of_lt_of_le (bts_lt _ _) (show 2 ^ tL T ≤ 2 ^ 8 from Nat.pow_le_pow_right (by decide) hL)
  rw [s_bitCount lt, pc8_bts _ hL]
/-- OIL, in the class -/
theorem s_oilToTheEnd {σ : Mm} {t : Nat} {T : Tw} {N : Nt} (hc : TC σ t T) (hT : TwOk T) (r : RC σ 197 (tW T) N) (hN : NtOk T N) :
    ∃ τ, f_X0_oilToTheEnd t σ = some (nI (sm (fun i => cnt (brN (itN T 0 N (i + 1))) (tL T)) (tkN T 0 N)), τ) ∧ At σ t T 0 N (tkN T 0 N) τ := by
  have hle := tkN_le T 0 N
  unfold f_X0_oilToTheEnd
  rw [ck_t hc.1, jn_e2]
  have q := lq3_inv (F := F_X0_oilToTheEnd_4 t (fun x τ => some (x, τ))) (fun i => nI (sm (fun i => cnt (brN (itN T 0 N (i + 1))) (tL T)) i)) (fun i => nI i) (fun i b => At σ t T 0 N i b) (tkN T 0 N) (fun b => some (nI (sm (fun i => cnt (brN (itN T 0 N (i + 1))) (tL T)) (tkN T 0 N)), b)) ?_ ?_ (n := 1000000) (b0 := σ) ?_ (by omega)
  · obtain ⟨b, hb, e⟩ := q
    exact ⟨b, e, hb⟩
  · intro rec i b hi hb
    have c1 : nI i < 99 := nI_lt (a := i) (b := 99) (by omega) (by omega)
    have hh := hb.home hT hN
    rw [tkN_lt hi] at hh
    obtain ⟨τ, t1, t2, -, -⟩ := hb.pass hT hN LgOk.z
    refine ⟨τ, t2, ?_⟩
    simp only [F_X0_oilToTheEnd_4, if_pos c1, cl_of _ hh]
    rw [if_pos (show (if false = true then (1 : Int32) else 0) = 0 from rfl), cl_of _ t1, cl_of _ (t2.lit hT hN), cl_of _ (cnt_brI hT τ), bn_e, nI_add, nI_1]
    rfl
  · intro rec b hb
    by_cases c : tkN T 0 N < 99
    · have c1 : nI (tkN T 0 N) < 99 := nI_lt (a := tkN T 0 N) (b := 99) c (by omega)
      have hh := hb.home hT hN
      rw [tkN_at c] at hh
      simp only [F_X0_oilToTheEnd_4, if_pos c1, cl_of _ hh]
      rfl
    · have c1 : ¬ nI (tkN T 0 N) < 99 := nI_nlt (a := tkN T 0 N) (b := 99) (by omega) (by omega)
      simp only [F_X0_oilToTheEnd_4, if_neg c1]
  · exact ⟨Off.rf, hc, r⟩
