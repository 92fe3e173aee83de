theorem fa_has_of {fan ix : Int32} (h : ¬ f_Fa_has fan ix = 0) : ∃ n c : Nat, fan = nI n ∧ n ≤ 17 ∧ c < n ∧ ix = nI c := by
  unfold f_Fa_has at h
  by_cases h0 : ix < 0
  · rw [if_pos h0] at h; exact absurd rfl h
  · rw [if_neg h0] at h
    by_cases h1 : fan ≤ ix
    · rw [if_pos h1] at h; exact absurd rfl h
    · rw [if_neg h1] at h
      by_cases h2 : 17 < fan
      · rw [if_pos h2] at h; exact absurd rfl h
      · obtain ⟨c, hc, rfl⟩ := nI_of h0
        have h3 : ¬ fan < 0 := fun q => h1 (by rw [Int32.le_iff_toInt_le, nI_toInt hc]; rw [Int32.lt_iff_toInt_lt, Int32.toInt_zero] at q; omega)
        obtain ⟨n, hn, rfl⟩ := nI_of h3
        rw [nI_leI hn hc] at h1
        rw [show (17 : Int32) = nI 17 from rfl, nI_ltI (by decide) hn] at h2
        exact ⟨n, c, rfl, by omega, by omega, rfl⟩
theorem fa_has {fan ix : Int32} (h : ¬ f_Fa_has fan ix = 0) : vp_in ix 17 := by
  obtain ⟨n, c, -, hn, hc, rfl⟩ := fa_has_of h
  exact vp_in_nI (by omega) (by decide)
theorem fa_in {fan : Int32} (h0 : ¬ (fan < 0)) (h1 : ¬ (17 ≤ fan)) : vp_in fan 17 := by
  obtain ⟨j, hj, rfl⟩ := ix_of (M := 17) (n := 17) rfl (by decide) h0 h1
  exact vp_in_nI hj (by decide)
theorem fa_has_1 {n c : Nat} (hn : n ≤ 17) (hc : c < n) : f_Fa_has (nI n) (nI c) = 1 := by
  unfold f_Fa_has
  rw [if_neg (nI_pos (by omega)), if_neg (by rw [nI_leI (by omega) (by omega)]; omega), if_neg (by rw [show (17 : Int32) = nI 17 from rfl, nI_ltI (by decide) (by omega)]; omega)]
theorem fa_has_0 {n : Nat} {ix : Int32} (h : ix < 0 ∨ nI n ≤ ix) : f_Fa_has (nI n) ix = 0 := by
  unfold f_Fa_has
  by_cases h0 : ix < 0
  · rw [if_pos h0]
  · rw [if_neg h0, if_pos (h.resolve_left h0)]
theorem sw_out0_3 {x : Int32} (h0 : ¬ x = 0) (h1 : ¬ x = 1) (h2 : ¬ x = 2) (h3 : ¬ x = 3) : x.toInt < 0 ∨ 3 < x.toInt := by
  have e0 : x.toInt ≠ 0 := fun q => h0 (Int32.toInt_inj.mp (by rw [q]; decide))
  have e1 : x.toInt ≠ 1 := fun q => h1 (Int32.toInt_inj.mp (by rw [q]; decide))
  have e2 : x.toInt ≠ 2 := fun q => h2 (Int32.toInt_inj.mp (by rw [q]; decide))
  have e3 : x.toInt ≠ 3 := fun q => h3 (Int32.toInt_inj.mp (by rw [q]; decide))
  omega
theorem sw_out0_2 {x : Int32} (h0 : ¬ x = 0) (h1 : ¬ x = 1) (h2 : ¬ x = 2) : x.toInt < 0 ∨ 2 < x.toInt := by
  have e0 : x.toInt ≠ 0 := fun q => h0 (Int32.toInt_inj.mp (by rw [q]; decide))
  have e1 : x.toInt ≠ 1 := fun q => h1 (Int32.toInt_inj.mp (by rw [q]; decide))
  have e2 : x.toInt ≠ 2 := fun q => h2 (Int32.toInt_inj.mp (by rw [q]; decide))
  omega
