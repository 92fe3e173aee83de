section MO3
variable {wi hi : Int32} {mpf mqf : Nat → Int64} {ct pn : Nat} {S T : Nat → Nat} {P : Nat → Int64}
theorem mo_near (hr : mo_rel mpf mqf ct pn S T P) {j : Nat} (hj : j < ct) (xx yy : Int32) : f_Mo_nearI_r wi hi ct mpf mqf S T P j xx yy = qa_near wi hi ct S T P (nI j) xx yy := by
  have hct : ct ≤ 17 := hr.1.1
  obtain ⟨e0, e1, e2⟩ := mo_weight hr hj xx yy
  unfold f_Mo_nearI_r qa_near
  by_cases h : qc wi hi ct S T P (nI j) xx yy = 0
  · rw [if_pos h, if_pos h]
  · rw [if_neg h, if_neg h, e0, e1, e2, mo_div, hr.2.2 j hj, nI_clamp (by omega)]
    rfl
theorem mo_anz (hr : mo_rel mpf mqf ct pn S T P) {j : Nat} (hj : j < ct) : ¬ mqf j = 0 := by
  intro q
  have hA := (hr.1.2.2 j hj).2.2.2.2.2
  rw [← hr.2.2 j hj, q, Int64.toInt_zero] at hA
  omega
theorem mo_hnz (hr : mo_rel mpf mqf ct pn S T P) (hp : mo_wh wi hi) {j : Nat} (hj : j < ct) {xx yy : Int32} (h : ¬ qc wi hi ct S T P (nI j) xx yy = 0) : ¬ 0 + f_Mo_weight mpf j 0 xx yy + f_Mo_weight mpf j 1 xx yy + f_Mo_weight mpf j 2 xx yy = 0 := by
  have hct : ct ≤ 17 := hr.1.1
  obtain ⟨a, ha, e, hpx, hc⟩ := qc_cov h
  have ea : j = a := (nI_eq (by omega) (by omega)).mp e
  subst ea
  obtain ⟨e0, e1, e2⟩ := mo_weight hr hj xx yy
  obtain ⟨-, -, p0, pa, pb, hA⟩ := hr.1.2.2 j hj
  have hpos := qy_h_pos hp.1.2 hp.2.2 p0 pa pb hA hpx hc
  rw [e0, e1, e2, Int64.zero_add]
  intro q
  have q2 : qy_h P (S j) (T j) xx yy = 0 := q
  rw [q2, Int64.toInt_zero] at hpos
  omega
theorem mo_number (hr : mo_rel mpf mqf ct pn S T P) {j : Nat} (hj : j < ct) (xx yy wh : Int32) : f_Mo_numberI_r wi hi ct mpf S T P j xx yy wh = qa_number wi hi ct S T P (nI j) xx yy wh := by
  have hct : ct ≤ 17 := hr.1.1
  obtain ⟨e0, e1, e2⟩ := mo_weight hr hj xx yy
  have n1 : (2 : Int32) < wh ↔ 3 ≤ wh := by rw [Int32.lt_iff_toInt_lt, Int32.le_iff_toInt_le, show (2 : Int32).toInt = 2 by decide, show (3 : Int32).toInt = 3 by decide]; omega
  unfold f_Mo_numberI_r qa_number
  by_cases h : qc wi hi ct S T P (nI j) xx yy = 0
  · rw [if_pos h, if_pos h]
  · rw [if_neg h, if_neg h]
    by_cases h1 : wh < 0
    · rw [mo_i0 (Or.inl h1), if_pos rfl, if_pos h1]
    · rw [if_neg h1]
      by_cases h2 : 3 ≤ wh
      · rw [mo_i0 (Or.inr (n1.mpr h2)), if_pos rfl, if_pos h2]
      · rw [if_neg h2, mo_i1 h1 (fun q => h2 (n1.mp q)), if_neg (by decide)]
        obtain ⟨k, hk, rfl⟩ := ix_of (M := 3) (n := 3) rfl (by decide) h1 h2
        have a0 : mpf (18 * j + (6 * 0) + 3 + k) = P (3 + k) := by
          have q := hr.2.1 j 0 (3 + k) hj (by decide) (by omega)
          rw [show 18 * j + 6 * 0 + (3 + k) = 18 * j + (6 * 0) + 3 + k by omega, show 6 * qy_cor S T j 0 + (3 + k) = 3 + k from by show 6 * 0 + (3 + k) = 3 + k; omega] at q
          exact q
        have a1 : mpf (18 * j + (6 * 1) + 3 + k) = P (6 * S j + 3 + k) := by
          have q := hr.2.1 j 1 (3 + k) hj (by decide) (by omega)
          rw [show 18 * j + 6 * 1 + (3 + k) = 18 * j + (6 * 1) + 3 + k by omega, show 6 * qy_cor S T j 1 + (3 + k) = 6 * S j + 3 + k from by show 6 * S j + (3 + k) = _; omega] at q
          exact q
        have a2 : mpf (18 * j + (6 * 2) + 3 + k) = P (6 * T j + 3 + k) := by
          have q := hr.2.1 j 2 (3 + k) hj (by decide) (by omega)
          rw [show 18 * j + 6 * 2 + (3 + k) = 18 * j + (6 * 2) + 3 + k by omega, show 6 * qy_cor S T j 2 + (3 + k) = 6 * T j + 3 + k from by show 6 * T j + (3 + k) = _; omega] at q
          exact q
        rw [nI_add, nI_add, nI_add, nI_clamp (by omega), nI_clamp (by omega), nI_clamp (by omega), nI_clamp (by omega), nI_clamp (by omega), a0, a1, a2, e0, e1, e2, mo_div, Int64.zero_add (qy_w0 P (S j) (T j) xx yy)]
        rfl
end MO3
