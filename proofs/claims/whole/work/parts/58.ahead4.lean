/-- how often it is dark in so many minutes -/
def dsN (T : Tw) (lg : Int32) (N : Nt) (i : Nat) : Nat := sm (fun j => cnt (dkN T (itN T lg N j)) (tW T)) i
theorem itN_D (T : Tw) (lg : Int32) (N : Nt) : ∀ i, nD (itN T lg N i) = nD N + nI (dsN T lg N i)
  | 0 => by show nD N = nD N + nI 0; rw [show nI 0 = (0 : Int32) from rfl]; simp
  | i + 1 => by
    show nD (itN T lg N i) + nI (cnt (dkN T (itN T lg N i)) (tW T)) = _
    rw [itN_D T lg N i, Int32.add_assoc, nI_add]
    rfl
theorem itN_dd (T : Tw) (lg : Int32) (N : Nt) (i : Nat) : nD (itN T lg N i) - nD N = nI (dsN T lg N i) := by
  rw [itN_D, Int32.add_comm, Int32.add_sub_cancel]
theorem dsN_le (T : Tw) (lg : Int32) (N : Nt) (hW : tW T ≤ 6) : ∀ i, dsN T lg N i ≤ 6 * i
  | 0 => Nat.le_refl _
  | i + 1 => by
    have h1 := dsN_le T lg N hW i
    have h2 := cnt_le (dkN T (itN T lg N i)) (tW T)
    show dsN T lg N i + cnt (dkN T (itN T lg N i)) (tW T) ≤ _
    omega
theorem dsN_mono (T : Tw) (lg : Int32) (N : Nt) : ∀ {i j : Nat}, i ≤ j → dsN T lg N i ≤ dsN T lg N j := by
  intro i j h
  induction h with
  | refl => exact Nat.le_refl _
  | step _ ih => exact Nat.le_trans ih (Nat.le_add_right _ _)
theorem s_darkTimesOfAll {σ : Mm} {t : Nat} {T : Tw} {N : Nt} {lg : Int32} (hc : TC σ t T) (hT : TwOk T) (r : RC σ 197 (tW T) N) (hN : NtOk T N) (hlg : LgOk lg) {e : Nat} (he : e < 2147483648) :
    ∃ x τ, f_X0_darkTimesOfAll t lg (nI e) σ = some (nI x, τ) ∧ Off (tryC t) σ τ ∧ x ≤ dsN T lg N (tkN T lg N) ∧ (x = dsN T lg N (tkN T lg N) ∨ e < x) := by
  have hle := tkN_le T lg N
  have hW := hT.2.2.1
  have dle := dsN_le T lg N hW
  obtain ⟨M, eM⟩ : ∃ M, M = (fst1 (fun i => decide (e < dsN T lg N i)) 0 (tkN T lg N)).getD (tkN T lg N) := ⟨_, rfl⟩
  have hM : M ≤ tkN T lg N := by rw [eM]; exact getD_le
  have b0 : gI σ 197 2 = nD N := r.2.2.2.1
  unfold f_X0_darkTimesOfAll
  rw [ck_t hc.1, bn_e, jn_e2, b0]
  have q := lq2_inv (F := F_X0_darkTimesOfAll_12 t lg (nI e) (nD N) (fun σ_62 => some (((gI σ_62 197 2) - nD N), σ_62))) (fun i => nI i) (fun i b => At σ t T lg N i b) M (fun σ_62 => some (((gI σ_62 197 2) - nD N), σ_62)) ?_ ?_ (n := 1000000) (b0 := σ) ⟨Off.rf, hc, r⟩ (by omega)
  · obtain ⟨b, hb, e1⟩ := q
    refine ⟨dsN T lg N M, b, e1.trans ?_, hb.1, dsN_mono T lg N hM, ?_⟩
    · rw [show gI b 197 2 = nD (itN T lg N M) from hb.2.2.2.2.2.1, itN_dd]
    · by_cases c : M < tkN T lg N
      · right
        rw [eM] at c ⊢
        exact of_decide_eq_true (getD_at (p := fun i => decide (e < dsN T lg N i)) c)
      · left
        rw [show M = tkN T lg N by omega]
  · intro rec i b hi hb
    obtain ⟨τ, t1, t2, -, -⟩ := hb.pass hT hN hlg
    refine ⟨τ, t2, ?_⟩
    have z : ¬ e < dsN T lg N i := of_decide_eq_false (getD_lt (p := fun i => decide (e < dsN T lg N i)) (n := tkN T lg N) (by rw [← eM]; exact hi))
    have dl := dle i
    have z2 : ¬ nI e < nI (dsN T lg N i) := fun y => z ((nI_ltI he (by omega)).mp y)
    have hD : gI b 197 2 = nD (itN T lg N i) := hb.2.2.2.2.2.1
    simp only [F_X0_darkTimesOfAll_12, if_pos (i99 (show i < 99 by omega)), cl_of _ (hb.home0 hT hN (show i < tkN T lg N by omega)), if_true, hD, itN_dd, if_neg z2, cl_of _ t1, nI_1]
  · intro rec b hb
    by_cases c : M < tkN T lg N
    · have z : e < dsN T lg N M := by
        rw [eM] at c ⊢
        exact of_decide_eq_true (getD_at (p := fun i => decide (e < dsN T lg N i)) c)
      have dl := dle M
      have z2 : nI e < nI (dsN T lg N M) := nI_lt z (by omega)
      have hD : gI b 197 2 = nD (itN T lg N M) := hb.2.2.2.2.2.1
      simp only [F_X0_darkTimesOfAll_12, if_pos (i99 (show M < 99 by omega)), cl_of _ (hb.home0 hT hN c), if_true, hD, itN_dd, if_pos z2]
    · have c2 : M = tkN T lg N := by omega
      by_cases c3 : M < 99
      · have hb' := hb
        rw [c2] at hb'
        simp only [F_X0_darkTimesOfAll_12, if_pos (i99 c3), cl_of _ (hb'.home1 hT hN (by omega)), show ¬ (1 : Int32) = 0 by decide, if_false]
      · simp only [F_X0_darkTimesOfAll_12, if_neg (n99 (show 99 ≤ M by omega) (by omega))]
theorem s_darkTimesIfLonger {σ : Mm} {t m : Nat} {T : Tw} {N : Nt} {lg : Int32} (hc : TC σ t T) (hT : TwOk T) (hm : (197 : Nat) ≠ m) (r : RC σ m (tW T) N) (hN : NtOk T N) (hlg : LgOk lg) :
    ∃ τ, f_X0_darkTimesIfLonger t m lg σ = some (nI (dsN T lg N (tkN T lg N)), τ) ∧ Off (tryC t) σ τ := by
  obtain ⟨σ1, l1, a1⟩ := At.first (N := N) 0 hc hT hm r
  obtain ⟨x, τ, t1, t2, t3, t4⟩ := s_darkTimesOfAll a1.2.1 hT a1.2.2 hN hlg (e := 1000000) (by omega)
  have dl := dsN_le T lg N hT.2.2.1 (tkN T lg N)
  have hle := tkN_le T lg N
  have hx : x = dsN T lg N (tkN T lg N) := by
    rcases t4 with z | z
    · exact z
    · exact absurd z (by show ¬ 1000000 < x; have : x ≤ 594 := Nat.le_trans t3 (Nat.le_trans dl (by omega)); omega)
  rw [hx] at t1
  unfold f_X0_darkTimesIfLonger
  rw [ck_t hc.1, ck_t r.1, cl_of _ l1, show (1000000 : Int32) = nI 1000000 from rfl, cl_of _ t1]
  exact ⟨τ, rfl, a1.1.tr t2⟩
theorem s_oilWithout0 {σ : Mm} {t m : Nat} {T : Tw} {N : Nt} (hc : TC σ t T) (hT : TwOk T) (hm : (197 : Nat) ≠ m) (r : RC σ m (tW T) N) (hN : NtOk T N) :
    ∃ τ, f_X0_oilWithout t m (-1) σ = some (nI (sm (fun i => cnt (brN (itN T 0 N (i + 1))) (tL T)) (tkN T 0 N)), τ) ∧ Off (tryC t) σ τ := by
  obtain ⟨σ1, l1, a1⟩ := At.first (N := N) 0 hc hT hm r
  obtain ⟨τ, t1, t2⟩ := s_oilToTheEnd a1.2.1 hT a1.2.2 hN
  unfold f_X0_oilWithout
  rw [ck_t hc.1, ck_t r.1, cl_of _ l1, jn_e2, if_pos rfl]
  exact ⟨τ, cl_of _ t1, a1.1.tr t2.1⟩
theorem s_oilWithout1 {σ : Mm} {t m : Nat} {T : Tw} {N : Nt} (hc : TC σ t T) (hT : TwOk T) (hm : (197 : Nat) ≠ m) (r : RC σ m (tW T) N) (hN : NtOk T N) {w : Nat} (hw : w < tW T) :
    ∃ τ, f_X0_oilWithout t m (nI w) σ = some (nI (sm (fun i => cnt (brN (itN T 0 (bringN N w) (i + 1))) (tL T)) (tkN T 0 (bringN N w))), τ) ∧ Off (tryC t) σ τ := by
  have hW := hT.2.2.1
  have tn := town_night hc.1 n197
  obtain ⟨σ1, l1, a1⟩ := At.first (N := N) 0 hc hT hm r
  obtain ⟨σ2, l2, r2, o2⟩ := s_bringHome a1.2.2 hW hw
  have c2 := a1.2.1.off o2 (fun a ha => by simp only [List.mem_cons, List.not_mem_nil, or_false] at ha; omega)
  obtain ⟨τ, t1, t2⟩ := s_oilToTheEnd c2 hT r2 (bringN_ok hN hw)
  have ne : ¬ nI w = -1 := fun z => by
    have := nI_pos (n := w) (by omega)
    rw [z] at this
    exact this (by decide)
  unfold f_X0_oilWithout
  rw [ck_t hc.1, ck_t r.1, cl_of _ l1, jn_e2, if_neg ne, cl_of _ l2]
  exact ⟨τ, cl_of _ t1, a1.1.tr ((o2.mono (by simp [tryC])).tr t2.1)⟩
