theorem mo_zn (va lo up : Int32) : narrow .boolean (.int (f_Mo_within va lo up)) = .int (f_Mo_within va lo up) := by
  unfold f_Mo_within
  split
  · rfl
  · split <;> rfl
theorem mo_in {va lo up : Int32} (h : ¬ f_Mo_within va lo up = 0) : ¬ va < lo ∧ ¬ up < va := by
  unfold f_Mo_within at h
  by_cases h0 : va < lo
  · rw [if_pos h0] at h; exact absurd rfl h
  · rw [if_neg h0] at h
    by_cases h1 : up < va
    · rw [if_pos h1] at h; exact absurd rfl h
    · exact ⟨h0, h1⟩
theorem mo_i1 {va lo up : Int32} (h0 : ¬ va < lo) (h1 : ¬ up < va) : f_Mo_within va lo up = 1 := by
  unfold f_Mo_within
  rw [if_neg h0, if_neg h1]
theorem mo_i0 {va lo up : Int32} (h : va < lo ∨ up < va) : f_Mo_within va lo up = 0 := by
  unfold f_Mo_within
  by_cases h0 : va < lo
  · rw [if_pos h0]
  · rw [if_neg h0, if_pos (h.resolve_left h0)]
theorem mo_inN {va : Int32} {n : Nat} {M : Int32} (hM : M = nI n) (hn : n < 2 ^ 31) (h : ¬ f_Mo_within va 0 M = 0) : ∃ c : Nat, c < n + 1 ∧ va = nI c := by
  obtain ⟨h0, h1⟩ := mo_in h
  obtain ⟨c, hc, rfl⟩ := nI_of h0
  rw [hM, nI_ltI hn hc] at h1
  exact ⟨c, by omega, rfl⟩
theorem mo_p60 {ix : Int32} (h : ¬ f_Mo_within ix 0 2 = 0) : vp_in (6 * ix) 18 := by
  obtain ⟨c, hc, rfl⟩ := mo_inN (M := 2) (n := 2) rfl (by decide) h
  rw [nk_set_6, pk_mul]
  exact vp_in_nI (by omega) (by decide)
theorem mo_p6 {ix kk : Int32} (h : ¬ f_Mo_within ix 0 2 = 0) (hk : ¬ kk < 0 ∧ ¬ 6 ≤ kk) : vp_in ((6 * ix) + kk) 18 := by
  obtain ⟨c, hc, rfl⟩ := mo_inN (M := 2) (n := 2) rfl (by decide) h
  obtain ⟨k, hk, rfl⟩ := ix_of (M := 6) (n := 6) rfl (by decide) hk.1 hk.2
  rw [nk_set_6, pk_mul, nI_add]
  exact vp_in_nI (by omega) (by decide)
theorem mo_rng {ix : Int32} {ct : Nat} (hct : ct ≤ 17) (h : ¬ f_Mo_within ix 0 (nI ct - 1) = 0) : ∃ j : Nat, j < ct ∧ ix = nI j := by
  obtain ⟨h0, h1⟩ := mo_in h
  obtain ⟨c, hc, rfl⟩ := nI_of h0
  cases ct with
  | zero =>
    refine absurd ?_ h1
    rw [show nI 0 - 1 = (-1 : Int32) from rfl, Int32.lt_iff_toInt_lt, nI_toInt hc, show (-1 : Int32).toInt = -1 by decide]
    omega
  | succ n =>
    rw [nI_pred, nI_ltI (by omega) hc] at h1
    exact ⟨c, by omega, rfl⟩
theorem mo_rng1 {j ct : Nat} (hct : ct ≤ 17) (hj : j < ct) : f_Mo_within (nI j) 0 (nI ct - 1) = 1 := by
  cases ct with
  | zero => exact absurd hj (Nat.not_lt_zero j)
  | succ n =>
    rw [nI_pred]
    exact mo_i1 (nI_pos (by omega)) (by rw [nI_ltI (by omega) (by omega)]; omega)
theorem mo_rng0 {ix : Int32} {ct : Nat} (hct : ct ≤ 17) (h : ¬ ∃ j : Nat, j < ct ∧ ix = nI j) : f_Mo_within ix 0 (nI ct - 1) = 0 := by
  apply Classical.byContradiction
  intro q
  exact h (mo_rng hct q)
theorem mo_pin {ix co wh : Int32} {ct : Nat} (hct : ct ≤ 17) (h1 : ¬ f_Mo_within ix 0 (nI ct - 1) = 0) (h2 : ¬ f_Mo_within co 0 2 = 0) (h3 : ¬ f_Mo_within wh 0 5 = 0) : vp_in (((18 * ix) + (6 * co)) + wh) 324 := by
  obtain ⟨i, hi, rfl⟩ := mo_rng hct h1
  obtain ⟨c, hc, rfl⟩ := mo_inN (M := 2) (n := 2) rfl (by decide) h2
  obtain ⟨k, hk, rfl⟩ := mo_inN (M := 5) (n := 5) rfl (by decide) h3
  rw [nk_set_6, nk_set_18, pk_mul, pk_mul, nI_add, nI_add]
  exact vp_in_nI (by omega) (by decide)
theorem mo_ain {ix : Int32} {ct : Nat} (hct : ct ≤ 17) (h1 : ¬ f_Mo_within ix 0 (nI ct - 1) = 0) : vp_in ix 18 := by
  obtain ⟨i, hi, rfl⟩ := mo_rng hct h1
  exact vp_in_nI (by omega) (by decide)
theorem mo_nin {n : Nat} {wh : Int32} (hn : n + 3 ≤ 324) (h : ¬ f_Mo_within wh 0 2 = 0) : vp_in (nI n + wh) 324 := by
  obtain ⟨c, hc, rfl⟩ := mo_inN (M := 2) (n := 2) rfl (by decide) h
  rw [nI_add]
  exact vp_in_nI (by omega) (by decide)
theorem mo_div {x y : Int64} : f_Mo_div x y = pu_div x y := by
  unfold f_Mo_div pu_div
  have e : x / y * y ≤ x ↔ ¬ x < x / y * y := by rw [Int64.le_iff_toInt_le, Int64.lt_iff_toInt_lt]; omega
  by_cases h : x < x / y * y
  · rw [if_pos h, if_neg (fun q => e.mp q h)]
  · rw [if_neg h, if_pos (e.mpr h)]
/-- width and height -/
def mo_wh (wi hi : Int32) : Prop := (8 ≤ wi.toInt ∧ wi.toInt ≤ 48) ∧ 8 ≤ hi.toInt ∧ hi.toInt ≤ 48
/-- the reference's pieces and areas hold the value -/
def mo_rel (mpf mqf : Nat → Int64) (ct pn : Nat) (S T : Nat → Nat) (P : Nat → Int64) : Prop := pu_vok ct pn S T P ∧ (∀ i c k, i < ct → c < 3 → k < 6 → mpf (18 * i + 6 * c + k) = P (6 * qy_cor S T i c + k)) ∧ ∀ i, i < ct → mqf i = pu_ar P (S i) (T i)
theorem mo_w1 {w x : Int32} (hw : 8 ≤ w.toInt ∧ w.toInt ≤ 48) : ((¬ x < 0 ∧ x < w) → f_Mo_within x 0 (w - 1) = 1) ∧ (¬ (¬ x < 0 ∧ x < w) → f_Mo_within x 0 (w - 1) = 0) := by
  have e1 : (1 : Int32).toInt = 1 := by decide
  have e : (w - 1).toInt = w.toInt - 1 := by rw [Jvm.Kit.i32_sub (by rw [e1]; omega) (by rw [e1]; omega), e1]
  have q : w - 1 < x ↔ ¬ x < w := by rw [Int32.lt_iff_toInt_lt, Int32.lt_iff_toInt_lt, e]; omega
  refine ⟨fun h => mo_i1 h.1 (fun z => q.mp z h.2), fun h => mo_i0 ?_⟩
  by_cases h0 : x < 0
  · exact Or.inl h0
  · exact Or.inr (q.mpr (fun z => h ⟨h0, z⟩))
