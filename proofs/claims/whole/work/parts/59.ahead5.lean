/-- boys are sent to the lanes of a set -/
def sendsN (T : Tw) (N : Nt) (m : Nat) : Nat → Nt
  | 0 => N
  | i + 1 => if m.testBit i then sendN T (sendsN T N m i) i else sendsN T N m i
theorem sendsN_ok {T : Tw} {N : Nt} (hT : TwOk T) (hN : NtOk T N) (m : Nat) : ∀ i, NtOk T (sendsN T N m i)
  | 0 => hN
  | i + 1 => by
    show NtOk T (if m.testBit i then sendN T (sendsN T N m i) i else sendsN T N m i)
    split
    · exact sendN_ok hT (sendsN_ok hT hN m i) i
    · exact sendsN_ok hT hN m i
/-- all is light if boys are sent so -/
def lightN (T : Tw) (N : Nt) (m : Nat) : Bool := decide (dsN T 0 (sendsN T N m (tL T)) (tkN T 0 (sendsN T N m (tL T))) = 0)
theorem s_isLightEnough {σ : Mm} {t m : Nat} {T : Tw} {N : Nt} (hc : TC σ t T) (hT : TwOk T) (hm : (197 : Nat) ≠ m) (r : RC σ m (tW T) N) (hN : NtOk T N) {s : Nat} (hs : s < 2147483648) :
    ∃ τ, f_X0_isLightEnough t m (nI s) σ = some ((if lightN T N s then 1 else 0), τ) ∧ Off (tryC t) σ τ := by
  have hL := hT.2.1
  have tn := town_night hc.1 n197
  obtain ⟨σ1, l1, a1⟩ := At.first (N := N) 0 hc hT hm r
  unfold f_X0_isLightEnough
  rw [ck_t hc.1, ck_t r.1, cl_of _ l1, jn_e2]
  obtain ⟨kx, ek⟩ : ∃ k : Mm → Option (Int32 × Mm), k = (fun (σ_46 : Mm) => cl (f_X0_darkTimesOfAll t (0 : Int32) (0 : Int32) σ_46) (fun r50 σ50 => (if r50 = 0 then some ((1 : Int32), σ50) else some ((0 : Int32), σ50)))) := ⟨_, rfl⟩
  rw [← ek]
  have q := lq2_inv (F := F_X0_isLightEnough_11 t (nI s) kx) (fun i => nI i) (fun i b => Off (tryC t) σ b ∧ TC b t T ∧ RC b 197 (tW T) (sendsN T N s i)) (tL T) kx ?_ ?_ (n := 1000000) (b0 := σ1) ⟨a1.1, a1.2.1, a1.2.2⟩ (by omega)
  · obtain ⟨b, ⟨b1, b2, b3⟩, e⟩ := q
    obtain ⟨x, τ, t1, t2, t3, t4⟩ := s_darkTimesOfAll (lg := 0) b2 hT b3 (sendsN_ok hT hN s _) LgOk.z (e := 0) (by omega)
    have dl := dsN_le T 0 (sendsN T N s (tL T)) hT.2.2.1 (tkN T 0 (sendsN T N s (tL T)))
    have hle := tkN_le T 0 (sendsN T N s (tL T))
    have t1 : f_X0_darkTimesOfAll t 0 0 b = some (nI x, τ) := t1
    refine ⟨τ, e.trans ?_, b1.tr t2⟩
    rw [ek]
    show cl (f_X0_darkTimesOfAll t (0 : Int32) (0 : Int32) b) _ = _
    rw [cl_of _ t1]
    unfold lightN
    have hx : nI x = 0 ↔ x = 0 := nI_eq (b := 0) (by omega) (by omega)
    by_cases c : x = 0
    · rw [if_pos (hx.mpr c), if_pos]
      exact decide_eq_true (by rcases t4 with z | z <;> omega)
    · rw [if_neg (fun z => c (hx.mp z)), if_neg]
      intro z
      have := of_decide_eq_true z
      omega
  · intro rec i b hi hb
    obtain ⟨b1, b2, b3⟩ := hb
    have c1 : nI i < gI b t 1 := by rw [b2.2.2.1]; exact nI_lt hi (by omega)
    by_cases z : s.testBit i = true
    · obtain ⟨τ, t1, t2, t3⟩ := s_sendBoy b2 hT b3 (sendsN_ok hT hN s i) hi
      refine ⟨τ, ⟨b1.tr (t3.mono (by simp [tryC])), b2.off t3 (fun a ha => by simp only [List.mem_cons, List.not_mem_nil, or_false] at ha; omega), ?_⟩, ?_⟩
      · show RC τ 197 (tW T) (if s.testBit i then sendN T (sendsN T N s i) i else sendsN T N s i)
        rw [if_pos z]; exact t2
      · simp only [F_X0_isLightEnough_11, if_pos c1, jn_e, if_pos ((shr_bit1 hs (show i < 31 by omega)).mpr z), cl_of _ t1, nI_1]
    · refine ⟨b, ⟨b1, b2, ?_⟩, ?_⟩
      · show RC b 197 (tW T) (if s.testBit i then sendN T (sendsN T N s i) i else sendsN T N s i)
        rw [if_neg z]; exact b3
      · simp only [F_X0_isLightEnough_11, if_pos c1, jn_e, if_neg (fun y => z ((shr_bit1 hs (show i < 31 by omega)).mp y)), nI_1]
  · intro rec b hb
    have c1 : ¬ nI (tL T) < gI b t 1 := by rw [hb.2.1.2.2.1]; exact nI_nlt (Nat.le_refl _) (by omega)
    simp only [F_X0_isLightEnough_11, if_neg c1]
/-- the first of the sets with fewest boys -/
def fewB (ok : Nat → Bool) : Nat → Option Nat
  | 0 => none
  | s + 1 => match fewB ok s with
    | none => if ok s then some s else none
    | some b => if pc8 s < pc8 b ∧ ok s = true then some s else some b
theorem fewB_lt (ok : Nat → Bool) : ∀ {s b : Nat}, fewB ok s = some b → b < s
  | 0, b, h => by cases h
  | s + 1, b, h => by
    unfold fewB at h
    cases e : fewB ok s with
    | none =>
      rw [e] at h
      simp only at h
      split at h
      · cases h; omega
      · cases h
    | some c =>
      have := fewB_lt ok e
      rw [e] at h
      simp only at h
      split at h
      · cases h; omega
      · cases h; omega
