/-! the first memories keep the invariant -/
theorem gI_mC {τ : Mm} {a k : Nat} (h1 : a ≠ 4) (h2 : a ≠ 207) (h3 : a ≠ 222) : gI (mC τ) a k = 0 := congrFun (mC_1 h1 h2 h3) k
theorem iv_first {τ μ : Mm} (kw : ∀ i, i < 23 → gL τ 1 i = lN (kw32 i)) (hm : MoF μ) : Iv (mC τ) μ := by
  obtain ⟨m1, m2, m3, m4, m5, m6, m7, m8, m9⟩ := hm
  have tm : TM μ T0 := m1 μ (Rw0.rf)
  have z : ∀ a k, a ≠ 4 → a ≠ 207 → a ≠ 222 → gI (mC τ) a k = 0 := fun a k h1 h2 h3 => gI_mC h1 h2 h3
  have zt : ∀ k, gI (mC τ) 207 k = zT.1 0 k := fun k => congrFun (mC_T (τ := τ) (b := 207) (i := 0) (Or.inl rfl) (by decide)) k
  have hTC : TC (mC τ) 207 T0 := by
    refine ⟨rfl, zt 0, zt 1, zt 2, zt 3, fun k hk => absurd hk (Nat.not_lt_zero k), fun w hw => absurd hw (Nat.not_lt_zero w), fun a b ha => absurd ha (Nat.not_lt_zero a), ?_⟩
    exact lawC (μ := zM) (E := fun x => x.1) rfl (Or.inl ⟨z 208 2 (by omega) (by omega) (by omega), rfl, rfl⟩)
  refine ⟨207, T0, fun _ _ => 0, beginN T0, 237, lnZ, (0, fun _ => 0, fun _ => 0, fun _ => 0), fun _ => 0, 0, ?_, ?_, ?_, ?_, ?_, ?_, ?_, fun i hi => ?_⟩
  · exact ⟨T0_ok, rfl, rfl, hTC, m1, ⟨rfl, by omega, Nat.zero_le _, zt 0, tm.1, fun k hk => absurd hk (Nat.not_lt_zero k)⟩, ⟨rfl, by omega, Nat.zero_le _, zt 2, tm.2.2.1, fun k hk => absurd hk (Nat.not_lt_zero k)⟩, fun x b hx => absurd hx (Nat.not_lt_zero x)⟩
  · refine ⟨beginN_ok T0_ok, ⟨rfl, z 6 0 (by omega) (by omega) (by omega), z 6 1 (by omega) (by omega) (by omega), z 6 2 (by omega) (by omega) (by omega), fun k hk => z 7 k (by omega) (by omega) (by omega), fun w hw => absurd hw (Nat.not_lt_zero w)⟩, m2, m3, m4⟩
  · exact ⟨Or.inl rfl, rfl, rfl, ⟨Nat.zero_le _, fun k hk => absurd hk (Nat.not_lt_zero k)⟩, ⟨rfl, z 237 0 (by omega) (by omega) (by omega), fun k hk => absurd hk (Nat.not_lt_zero k)⟩, ⟨m7, fun k hk => absurd hk (Nat.not_lt_zero k)⟩⟩
  · exact ⟨⟨Nat.zero_le _, fun k hk => absurd hk (Nat.not_lt_zero k)⟩, ⟨rfl, z 127 0 (by omega) (by omega) (by omega), fun k hk => absurd hk (Nat.not_lt_zero k)⟩, ⟨m8, fun k hk => absurd hk (Nat.not_lt_zero k)⟩⟩
  · exact fun h => absurd (z 196 3 (by omega) (by omega) (by omega)) h
  · refine IW.zero (fun i hi => ?_) (fun a ha i hi j hj => ?_) (z 1 1 (by omega) (by omega) (by omega)) m5
    · exact kw i hi
    · have := lines_in ha
      rw [z (a + 1 + i) j (by omega) (by omega) (by omega)]
      rfl
  · exact RgI.zero (tp := 0) (by omega) (z 13 1 (by omega) (by omega) (by omega)) (z 13 2 (by omega) (by omega) (by omega)) m6
  · exact Or.inl ⟨z (markAt i) 0 (by unfold markAt; omega) (by unfold markAt; omega) (by unfold markAt; omega), m9 i hi⟩
