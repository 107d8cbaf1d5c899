/-- the walker is home behind so many minutes, or never -/
def hmN (T : Tw) (N : Nt) (w : Nat) : Nat := (fst1 (fun i => homeN T (itN T 0 N i) w) 0 99).getD 99
theorem getD_le {p : Nat → Bool} {n : Nat} : (fst1 p 0 n).getD n ≤ n := by
  cases e : fst1 p 0 n with
  | none => exact Nat.le_refl _
  | some k => have := (fst1_some e).2.1; simp only [Option.getD_some]; omega
theorem getD_lt {p : Nat → Bool} {n i : Nat} (h : i < (fst1 p 0 n).getD n) : p i = false := by
  cases e : fst1 p 0 n with
  | none => rw [e] at h; exact fst1_none e i (Nat.zero_le _) (by simpa using h)
  | some k => rw [e] at h; exact (fst1_some e).2.2.2 i (Nat.zero_le _) h
theorem getD_at {p : Nat → Bool} {n : Nat} (h : (fst1 p 0 n).getD n < n) : p ((fst1 p 0 n).getD n) = true := by
  cases e : fst1 p 0 n with
  | none => rw [e] at h; exact absurd h (by simp)
  | some k => exact (fst1_some e).2.2.1
theorem tryC_night {t m : Nat} (ht : isTown t = true) (hm : isNight m = true) (h : (197 : Nat) ≠ m) : ∀ a, a ∈ tryC t → a < m ∨ m + 5 < a := by
  have tn := town_night ht hm
  have ap := nights_apart n197 hm h
  intro a ha
  simp only [tryC, List.mem_cons, List.not_mem_nil, or_false] at ha
  omega
theorem At.isHome {σ b : Mm} {t : Nat} {T : Tw} {lg : Int32} {N : Nt} {i : Nat} (h : At σ t T lg N i b) (hT : TwOk T) (hN : NtOk T N) {w : Nat} (hw : w < tW T) : f_X4_isHome 197 t (nI w) b = some ((if homeN T (itN T lg N i) w then 1 else 0), b) := s_isHome h.2.1 hT h.2.2 (itN_ok hT hN lg i) hw
theorem s_minutesTillHome {σ : Mm} {t m : Nat} {T : Tw} {N : Nt} (hc : TC σ t T) (hT : TwOk T) (hm : (197 : Nat) ≠ m) (r : RC σ m (tW T) N) (hN : NtOk T N) {w : Nat} (hw : w < tW T) :
    ∃ τ, f_X0_minutesTillHome t m (nI w) σ = some ((if homeN T (itN T 0 N (hmN T N w)) w then nI (hmN T N w) else -1), τ) ∧ Off (tryC t) σ τ := by
  have hle : hmN T N w ≤ 99 := getD_le
  obtain ⟨σ1, l1, a1⟩ := At.first (N := N) 0 hc hT hm r
  unfold f_X0_minutesTillHome
  rw [ck_t hc.1, ck_t r.1, cl_of _ l1, jn_e2]
  obtain ⟨kx, ek⟩ : ∃ k : Mm → Option (Int32 × Mm), k = (fun (σ_45 : Mm) => cl (f_X4_isHome 197 t (nI w) σ_45) (fun r51 _ => (if r51 = 0 then some ((-1 : Int32), σ_45) else some (((gI σ_45 197 0) - (gI σ_45 m 0)), σ_45)))) := ⟨_, rfl⟩
  rw [← ek]
  have q := lq2_inv (F := F_X0_minutesTillHome_11 t (nI w) kx) (fun i => nI i) (fun i b => At σ t T 0 N i b) (hmN T N w) kx ?_ ?_ (n := 1000000) (b0 := σ1) a1 (by omega)
  · obtain ⟨b, hb, e⟩ := q
    refine ⟨b, e.trans ?_, hb.1⟩
    have e1 : gI b 197 0 = nT (itN T 0 N (hmN T N w)) := hb.2.2.2.1
    have e2 : gI b m 0 = nT N := (r.off hb.1 (tryC_night hc.1 r.1 hm)).2.1
    rw [ek]
    simp only [cl_of _ (hb.isHome hT hN hw), e1, e2, itN_dt]
    cases homeN T (itN T 0 N (hmN T N w)) w <;> simp
  · intro rec i b hi hb
    obtain ⟨τ, t1, t2, -, -⟩ := hb.pass hT hN LgOk.z
    have z : homeN T (itN T 0 N i) w = false := getD_lt (p := fun i => homeN T (itN T 0 N i) w) (n := 99) hi
    refine ⟨τ, t2, ?_⟩
    have hh := hb.isHome hT hN hw
    rw [z] at hh
    simp only [F_X0_minutesTillHome_11, if_pos (i99 (show i < 99 by omega)), cl_of _ hh, cl_of _ t1, nI_1]
    rfl
  · intro rec b hb
    by_cases c : hmN T N w < 99
    · have z : homeN T (itN T 0 N (hmN T N w)) w = true := getD_at (p := fun i => homeN T (itN T 0 N i) w) (n := 99) c
      have hh := hb.isHome hT hN hw
      rw [z] at hh
      simp only [F_X0_minutesTillHome_11, if_pos (i99 c), cl_of _ hh]
      rfl
    · simp only [F_X0_minutesTillHome_11, if_neg (n99 (show 99 ≤ hmN T N w by omega) (by omega))]
/-- two are out, at one place -/
def togN (T : Tw) (N : Nt) (w v : Nat) : Bool := outN T N w && outN T N v && decide (atN T N w = atN T N v)
def mtN (T : Tw) (N : Nt) (w v : Nat) : Nat := (fst1 (fun i => togN T (itN T 0 N i) w v) 0 99).getD 99
theorem atN_lt {T : Tw} {N : Nt} (hT : TwOk T) (hN : NtOk T N) {w : Nat} (hw : w < tW T) : atN T N w < tP T := by
  obtain ⟨c1, c2, c3, c4⟩ := hN.2 w hw
  unfold atN
  split
  · cases e : tF T (nB N w) (nG N w) with
    | none => exact c1
    | some k => exact othE_lt hT (hT.2.2.2.2.1 _ _ k c1 c2 e).1
  · exact c1
theorem s_areTogether {σ : Mm} {t : Nat} {T : Tw} {N : Nt} (hc : TC σ t T) (hT : TwOk T) (r : RC σ 197 (tW T) N) (hN : NtOk T N) {w v : Nat} (hw : w < tW T) (hv : v < tW T) : f_X0_areTogether t (nI w) (nI v) σ = some ((if togN T N w v then 1 else 0), σ) := by
  have hP := hT.1
  have l1 := atN_lt hT hN hw
  have l2 := atN_lt hT hN hv
  unfold f_X0_areTogether togN
  simp only [ck_t hc.1, cl_of _ (s_isOut hc hT r hN hw), cl_of _ (s_isOut hc hT r hN hv), cl_of _ (s_placeOf hc hT r hN hw), cl_of _ (s_placeOf hc hT r hN hv), jn_e]
  cases outN T N w
  · simp
  · cases outN T N v
    · simp
    · by_cases e : atN T N w = atN T N v
      · simp [e]
      · have e2 : ¬ nI (atN T N w) = nI (atN T N v) := fun z => e ((nI_eq (by omega) (by omega)).mp z)
        simp [e, e2]
theorem s_minutesTillMet {σ : Mm} {t m : Nat} {T : Tw} {N : Nt} (hc : TC σ t T) (hT : TwOk T) (hm : (197 : Nat) ≠ m) (r : RC σ m (tW T) N) (hN : NtOk T N) {w v : Nat} (hw : w < tW T) (hv : v < tW T) :
    ∃ τ, f_X0_minutesTillMet t m (nI w) (nI v) σ = some ((if togN T (itN T 0 N (mtN T N w v)) w v then nI (mtN T N w v) else -1), τ) ∧ Off (tryC t) σ τ := by
  have hle : mtN T N w v ≤ 99 := getD_le
  obtain ⟨σ1, l1, a1⟩ := At.first (N := N) 0 hc hT hm r
  have hh : ∀ {i b}, At σ t T 0 N i b → f_X0_areTogether t (nI w) (nI v) b = some ((if togN T (itN T 0 N i) w v then 1 else 0), b) := fun {i b} hb => s_areTogether hb.2.1 hT hb.2.2 (itN_ok hT hN 0 i) hw hv
  unfold f_X0_minutesTillMet
  rw [ck_t hc.1, ck_t r.1, cl_of _ l1, jn_e2]
  obtain ⟨kx, ek⟩ : ∃ k : Mm → Option (Int32 × Mm), k = (fun (σ_44 : Mm) => cl (f_X0_areTogether t (nI w) (nI v) σ_44) (fun r49 _ => (if r49 = 0 then some ((-1 : Int32), σ_44) else some (((gI σ_44 197 0) - (gI σ_44 m 0)), σ_44)))) := ⟨_, rfl⟩
  rw [← ek]
  have q := lq2_inv (F := F_X0_minutesTillMet_11 t (nI w) (nI v) kx) (fun i => nI i) (fun i b => At σ t T 0 N i b) (mtN T N w v) kx ?_ ?_ (n := 1000000) (b0 := σ1) a1 (by omega)
  · obtain ⟨b, hb, e⟩ := q
    refine ⟨b, e.trans ?_, hb.1⟩
    have e1 : gI b 197 0 = nT (itN T 0 N (mtN T N w v)) := hb.2.2.2.1
    have e2 : gI b m 0 = nT N := (r.off hb.1 (tryC_night hc.1 r.1 hm)).2.1
    rw [ek]
    simp only [cl_of _ (hh hb), e1, e2, itN_dt]
    cases togN T (itN T 0 N (mtN T N w v)) w v <;> simp
  · intro rec i b hi hb
    obtain ⟨τ, t1, t2, -, -⟩ := hb.pass hT hN LgOk.z
    have z : togN T (itN T 0 N i) w v = false := getD_lt (p := fun i => togN T (itN T 0 N i) w v) (n := 99) hi
    refine ⟨τ, t2, ?_⟩
    have h2 := hh hb
    rw [z] at h2
    simp only [F_X0_minutesTillMet_11, if_pos (i99 (show i < 99 by omega)), cl_of _ h2, cl_of _ t1, nI_1]
    rfl
  · intro rec b hb
    by_cases c : mtN T N w v < 99
    · have z : togN T (itN T 0 N (mtN T N w v)) w v = true := getD_at (p := fun i => togN T (itN T 0 N i) w v) (n := 99) c
      have h2 := hh hb
      rw [z] at h2
      simp only [F_X0_minutesTillMet_11, if_pos (i99 c), cl_of _ h2]
      rfl
    · simp only [F_X0_minutesTillMet_11, if_neg (n99 (show 99 ≤ mtN T N w v by omega) (by omega))]
