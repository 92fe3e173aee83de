theorem ix_of {x : Int32} {n : Nat} {M : Int32} (hM : M = nI n) (hn : n < 2 ^ 31) (h0 : ¬ x < 0) (h1 : ¬ M ≤ x) : ∃ j : Nat, j < n ∧ x = nI j := by
  obtain ⟨j, hj, rfl⟩ := nI_of h0
  refine ⟨j, ?_, rfl⟩
  rw [hM, nI_leI hn hj] at h1
  omega
theorem ri_has_of {rin ix : Int32} (h : ¬ f_Ri_has rin ix = 0) : ∃ n c : Nat, rin = nI n ∧ n ≤ 19 ∧ c < n ∧ ix = nI c := by
  unfold f_Ri_has at h
  by_cases h0 : ix < 0
  · rw [if_pos h0] at h; exact absurd rfl h
  · rw [if_neg h0] at h
    by_cases h1 : rin ≤ ix
    · rw [if_pos h1] at h; exact absurd rfl h
    · rw [if_neg h1] at h
      by_cases h2 : 19 < rin
      · rw [if_pos h2] at h; exact absurd rfl h
      · obtain ⟨c, hc, rfl⟩ := nI_of h0
        have h3 : ¬ rin < 0 := fun q => h1 (by rw [Int32.le_iff_toInt_le, nI_toInt hc]; rw [Int32.lt_iff_toInt_lt, Int32.toInt_zero] at q; omega)
        obtain ⟨n, hn, rfl⟩ := nI_of h3
        rw [nI_leI hn hc] at h1
        rw [show (19 : Int32) = nI 19 from rfl, nI_ltI (by decide) hn] at h2
        exact ⟨n, c, rfl, by omega, by omega, rfl⟩
theorem ri_in {rin ix wh : Int32} (h : ¬ f_Ri_has rin ix = 0) (h1 : ¬ wh < 0) (h2 : ¬ 6 ≤ wh) : vp_in ((ix * 6) + wh) 114 := by
  obtain ⟨n, c, -, hn, hc, rfl⟩ := ri_has_of h
  obtain ⟨k, hk, rfl⟩ := ix_of (M := 6) (n := 6) rfl (by decide) h1 h2
  rw [show (6 : Int32) = nI 6 from rfl, pk_mul, nI_add]
  exact vp_in_nI (by omega) (by decide)
theorem ri_has_1 {n c : Nat} (hn : n ≤ 19) (hc : c < n) : f_Ri_has (nI n) (nI c) = 1 := by
  unfold f_Ri_has
  rw [if_neg (nI_pos (by omega)), if_neg (by rw [nI_leI (by omega) (by omega)]; omega), if_neg (by rw [show (19 : Int32) = nI 19 from rfl, nI_ltI (by decide) (by omega)]; omega)]
theorem ri_has_0 {n : Nat} (hn : n ≤ 19) {ix : Int32} (h : ix < 0 ∨ nI n ≤ ix) : f_Ri_has (nI n) ix = 0 := by
  unfold f_Ri_has
  by_cases h0 : ix < 0
  · rw [if_pos h0]
  · rw [if_neg h0, if_pos (h.resolve_left h0)]
