theorem mo_pix {wi hi xx yy : Int32} (hp : mo_wh wi hi) : (qy_pix wi hi xx yy → f_Mo_isPixel wi hi xx yy = 1) ∧ (¬ qy_pix wi hi xx yy → f_Mo_isPixel wi hi xx yy = 0) := by
  obtain ⟨a1, a0⟩ := mo_w1 (x := xx) hp.1
  obtain ⟨b1, b0⟩ := mo_w1 (x := yy) hp.2
  unfold f_Mo_isPixel
  refine ⟨fun h => ?_, fun h => ?_⟩
  · rw [a1 h.1, b1 h.2, if_neg (by decide), if_neg (by decide)]
  · by_cases h1 : ¬ xx < 0 ∧ xx < wi
    · rw [a1 h1, if_neg (by decide), b0 (fun q => h ⟨h1, q⟩), if_pos rfl]
    · rw [a0 h1, if_pos rfl]
section MO
variable {wi hi : Int32} {mpf mqf : Nat → Int64} {ct pn : Nat} {S T : Nat → Nat} {P : Nat → Int64}
theorem mo_edge (hr : mo_rel mpf mqf ct pn S T P) {i a b : Nat} (hi : i < ct) (ha : a < 3) (hb : b < 3) (xx yy : Int32) : f_Mo_edge mpf i a b xx yy = qy_E P (qy_cor S T i a) (qy_cor S T i b) xx yy := by
  have a0 : mpf (18 * i + (6 * a)) = P (6 * qy_cor S T i a) := hr.2.1 i a 0 hi ha (by decide)
  have b0 : mpf (18 * i + (6 * b)) = P (6 * qy_cor S T i b) := hr.2.1 i b 0 hi hb (by decide)
  have a1 : mpf (18 * i + (6 * a) + 1) = P (6 * qy_cor S T i a + 1) := hr.2.1 i a 1 hi ha (by decide)
  have b1 : mpf (18 * i + (6 * b) + 1) = P (6 * qy_cor S T i b + 1) := hr.2.1 i b 1 hi hb (by decide)
  unfold f_Mo_edge
  rw [a0, b0, a1, b1]
  rfl
theorem mo_own (hr : mo_rel mpf mqf ct pn S T P) {i a b : Nat} (hi : i < ct) (ha : a < 3) (hb : b < 3) (xx yy : Int32) : (qy_own P (qy_cor S T i a) (qy_cor S T i b) xx yy → f_Mo_owns mpf i a b xx yy = 1) ∧ (¬ qy_own P (qy_cor S T i a) (qy_cor S T i b) xx yy → f_Mo_owns mpf i a b xx yy = 0) := by
  have a0 : mpf (18 * i + (6 * a)) = P (6 * qy_cor S T i a) := hr.2.1 i a 0 hi ha (by decide)
  have b0 : mpf (18 * i + (6 * b)) = P (6 * qy_cor S T i b) := hr.2.1 i b 0 hi hb (by decide)
  have a1 : mpf (18 * i + (6 * a) + 1) = P (6 * qy_cor S T i a + 1) := hr.2.1 i a 1 hi ha (by decide)
  have b1 : mpf (18 * i + (6 * b) + 1) = P (6 * qy_cor S T i b + 1) := hr.2.1 i b 1 hi hb (by decide)
  unfold f_Mo_owns
  rw [mo_edge hr hi ha hb, a0, b0, a1, b1]
  unfold qy_own
  generalize qy_E P (qy_cor S T i a) (qy_cor S T i b) xx yy = E
  generalize P (6 * qy_cor S T i a) = Xa
  generalize P (6 * qy_cor S T i b) = Xb
  generalize P (6 * qy_cor S T i a + 1) = Ya
  generalize P (6 * qy_cor S T i b + 1) = Yb
  have i3 : Xb ≤ Xa ↔ ¬ Xa < Xb := by rw [Int64.le_iff_toInt_le, Int64.lt_iff_toInt_lt]; omega
  by_cases h0 : 0 < E
  · rw [if_pos h0]; exact ⟨fun _ => rfl, fun q => absurd (Or.inl h0) q⟩
  · rw [if_neg h0]
    by_cases h1 : E = 0
    · rw [if_pos h1]
      by_cases h2 : Yb < Ya
      · rw [if_pos h2]; exact ⟨fun _ => rfl, fun q => absurd (Or.inr ⟨h1, Or.inl h2⟩) q⟩
      · rw [if_neg h2]
        by_cases h3 : Yb = Ya
        · rw [if_pos h3]
          by_cases h4 : Xa < Xb
          · rw [if_neg (fun q => i3.mp q h4)]; exact ⟨fun _ => rfl, fun q => absurd (Or.inr ⟨h1, Or.inr ⟨h3, h4⟩⟩) q⟩
          · rw [if_pos (i3.mpr h4)]
            refine ⟨fun q => ?_, fun _ => rfl⟩
            rcases q with q | ⟨-, q | ⟨-, q⟩⟩
            · exact absurd q h0
            · exact absurd q h2
            · exact absurd q h4
        · rw [if_neg h3]
          refine ⟨fun q => ?_, fun _ => rfl⟩
          rcases q with q | ⟨-, q | ⟨q, -⟩⟩
          · exact absurd q h0
          · exact absurd q h2
          · exact absurd q h3
    · rw [if_neg h1]
      refine ⟨fun q => ?_, fun _ => rfl⟩
      rcases q with q | ⟨q, -⟩
      · exact absurd q h0
      · exact absurd q h1
theorem mo_covI (hr : mo_rel mpf mqf ct pn S T P) (hp : mo_wh wi hi) {i : Nat} (hi9 : i < ct) (xx yy : Int32) : f_Mo_coversI wi hi ct mpf i xx yy = qc wi hi ct S T P (nI i) xx yy := by
  obtain ⟨p1, p2⟩ := mo_pix (xx := xx) (yy := yy) hp
  have hct : ct ≤ 17 := hr.1.1
  obtain ⟨i1, i2⟩ := mo_own hr hi9 (a := 1) (b := 2) (by decide) (by decide) xx yy
  obtain ⟨i3, i4⟩ := mo_own hr hi9 (a := 2) (b := 0) (by decide) (by decide) xx yy
  obtain ⟨i5, i6⟩ := mo_own hr hi9 (a := 0) (b := 1) (by decide) (by decide) xx yy
  have eqj : ∀ a, a < ct → nI i = nI a → i = a := fun a ha e => (nI_eq (by omega) (by omega)).mp e
  unfold f_Mo_coversI
  rw [mo_rng1 hct hi9, if_neg (by decide)]
  by_cases hpx : qy_pix wi hi xx yy
  · rw [p1 hpx, if_neg (by decide)]
    by_cases c0 : qy_own P (S i) (T i) xx yy
    · rw [i1 c0, if_neg (by decide)]
      by_cases c1 : qy_own P (T i) 0 xx yy
      · rw [i3 c1, if_neg (by decide)]
        by_cases c2 : qy_own P 0 (S i) xx yy
        · rw [i5 c2, if_neg (by decide), qc_1 ⟨i, hi9, rfl, hpx, c0, c1, c2⟩]
        · rw [i6 c2, if_pos rfl, qc_0]
          rintro ⟨a, ha, e, -, q⟩
          have := eqj a ha e
          subst this
          exact c2 q.2.2
      · rw [i4 c1, if_pos rfl, qc_0]
        rintro ⟨a, ha, e, -, q⟩
        have := eqj a ha e
        subst this
        exact c1 q.2.1
    · rw [i2 c0, if_pos rfl, qc_0]
      rintro ⟨a, ha, e, -, q⟩
      have := eqj a ha e
      subst this
      exact c0 q.1
  · rw [p2 hpx, if_pos rfl, qc_0]
    rintro ⟨a, ha, e, q, -⟩
    exact hpx q
theorem mo_weight (hr : mo_rel mpf mqf ct pn S T P) {i : Nat} (hi9 : i < ct) (xx yy : Int32) : f_Mo_weight mpf i 0 xx yy = qy_w0 P (S i) (T i) xx yy ∧ f_Mo_weight mpf i 1 xx yy = qy_w1 P (S i) (T i) xx yy ∧ f_Mo_weight mpf i 2 xx yy = qy_w2 P (S i) (T i) xx yy := by
  have r0 : mpf (18 * i + (6 * 0) + 2) = P 2 := hr.2.1 i 0 2 hi9 (by decide) (by decide)
  have r1 : mpf (18 * i + (6 * 1) + 2) = P (6 * S i + 2) := hr.2.1 i 1 2 hi9 (by decide) (by decide)
  have r2 : mpf (18 * i + (6 * 2) + 2) = P (6 * T i + 2) := hr.2.1 i 2 2 hi9 (by decide) (by decide)
  unfold f_Mo_weight
  rw [r0, r1, r2]
  refine ⟨?_, ?_, ?_⟩
  · rw [mo_edge hr hi9 (by decide) (by decide)]; rfl
  · rw [mo_edge hr hi9 (by decide) (by decide)]; rfl
  · rw [mo_edge hr hi9 (by decide) (by decide)]; rfl
theorem mo_area (hr : mo_rel mpf mqf ct pn S T P) (ix : Int32) : f_Mo_area_r ct mqf ix = qa_area ct S T P ix := by
  have hct : ct ≤ 17 := hr.1.1
  unfold f_Mo_area_r qa_area
  by_cases hj : ∃ j : Nat, j < ct ∧ ix = nI j
  · obtain ⟨j, hj, rfl⟩ := hj
    rw [mo_rng1 hct hj, if_neg (by decide), nI_clamp (by omega), hr.2.2 j hj, if_neg]
    rintro (q | q)
    · exact nI_pos (by omega) q
    · rw [nI_leI (by omega) (by omega)] at q; omega
  · rw [mo_rng0 hct hj, if_pos rfl, if_pos (cl_rng hj hct)]
theorem mo_piece (hr : mo_rel mpf mqf ct pn S T P) (ix co wh : Int32) : f_Mo_piece_r ct mpf ix co wh = qa_piece ct S T P ix co wh := by
  have hct : ct ≤ 17 := hr.1.1
  have lt3 : ∀ x M N : Int32, (M < x ↔ N ≤ x) → (x < 0 ∨ N ≤ x) → f_Mo_within x 0 M = 0 := fun x M N h q => mo_i0 (q.imp id h.mpr)
  have n1 : (2 : Int32) < co ↔ 3 ≤ co := by rw [Int32.lt_iff_toInt_lt, Int32.le_iff_toInt_le, show (2 : Int32).toInt = 2 by decide, show (3 : Int32).toInt = 3 by decide]; omega
  have n2 : (5 : Int32) < wh ↔ 6 ≤ wh := by rw [Int32.lt_iff_toInt_lt, Int32.le_iff_toInt_le, show (5 : Int32).toInt = 5 by decide, show (6 : Int32).toInt = 6 by decide]; omega
  unfold f_Mo_piece_r qa_piece
  by_cases hj : ∃ j : Nat, j < ct ∧ ix = nI j
  · obtain ⟨j, hj, rfl⟩ := hj
    have hno : ¬ (nI j < 0 ∨ nI ct ≤ nI j) := by
      rintro (q | q)
      · exact nI_pos (by omega) q
      · rw [nI_leI (by omega) (by omega)] at q; omega
    rw [mo_rng1 hct hj, if_neg (show ¬ (1 : Int32) = 0 by decide), if_neg hno]
    by_cases hc : co < 0 ∨ 3 ≤ co
    · rw [lt3 co 2 3 n1 hc, if_pos rfl, if_pos hc]
    · obtain ⟨c, hc3, rfl⟩ := ix_of (M := 3) (n := 3) rfl (by decide) (fun q => hc (Or.inl q)) (fun q => hc (Or.inr q))
      rw [if_neg hc, mo_i1 (fun q => hc (Or.inl q)) (fun q => hc (Or.inr (n1.mp q))), if_neg (show ¬ (1 : Int32) = 0 by decide)]
      by_cases hw : wh < 0 ∨ 6 ≤ wh
      · rw [lt3 wh 5 6 n2 hw, if_pos rfl, if_pos hw]
      · obtain ⟨k, hk, rfl⟩ := ix_of (M := 6) (n := 6) rfl (by decide) (fun q => hw (Or.inl q)) (fun q => hw (Or.inr q))
        rw [if_neg hw, mo_i1 (fun q => hw (Or.inl q)) (fun q => hw (Or.inr (n2.mp q))), if_neg (show ¬ (1 : Int32) = 0 by decide), nk_set_6, nk_set_18, pk_mul, pk_mul, nI_add, nI_add, nI_clamp (by omega), nI_clamp (by omega), nI_clamp (by omega), nI_clamp (by omega), hr.2.1 j c k hj hc3 hk]
  · rw [mo_rng0 hct hj, if_pos rfl, if_pos (cl_rng hj hct)]
end MO
