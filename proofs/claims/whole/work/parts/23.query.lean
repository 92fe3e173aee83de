/-! What the calls tell of the pieces: pure. -/
def qy_cor (S T : Nat → Nat) (i c : Nat) : Nat := match c with
  | 0 => 0
  | 1 => S i
  | _ => T i
def qy_mid (x : Int32) : Int64 := 16 * x.toInt64 + 8
/-- E of the edge from corner a to corner b (places in the ring) -/
def qy_E (P : Nat → Int64) (a b : Nat) (x y : Int32) : Int64 := (P (6 * b) - P (6 * a)) * (qy_mid y - P (6 * a + 1)) - (P (6 * b + 1) - P (6 * a + 1)) * (qy_mid x - P (6 * a))
def qy_own (P : Nat → Int64) (a b : Nat) (x y : Int32) : Prop := 0 < qy_E P a b x y ∨ (qy_E P a b x y = 0 ∧ (P (6 * b + 1) < P (6 * a + 1) ∨ (P (6 * b + 1) = P (6 * a + 1) ∧ P (6 * a) < P (6 * b))))
def qy_pix (w h x y : Int32) : Prop := (¬ x < 0 ∧ x < w) ∧ ¬ y < 0 ∧ y < h
def qy_cv (P : Nat → Int64) (a b : Nat) (x y : Int32) : Prop := qy_own P a b x y ∧ qy_own P b 0 x y ∧ qy_own P 0 a x y
/-- piece i covers pixel x, y -/
def qy_cov (w h : Int32) (cnt : Nat) (S T : Nat → Nat) (P : Nat → Int64) (i x y : Int32) : Prop := ∃ j : Nat, j < cnt ∧ i = nI j ∧ qy_pix w h x y ∧ qy_cv P (S j) (T j) x y
def qy_w0 (P : Nat → Int64) (a b : Nat) (x y : Int32) : Int64 := qy_E P a b x y * P 2
def qy_w1 (P : Nat → Int64) (a b : Nat) (x y : Int32) : Int64 := qy_E P b 0 x y * P (6 * a + 2)
def qy_w2 (P : Nat → Int64) (a b : Nat) (x y : Int32) : Int64 := qy_E P 0 a x y * P (6 * b + 2)
def qy_h (P : Nat → Int64) (a b : Nat) (x y : Int32) : Int64 := qy_w0 P a b x y + qy_w1 P a b x y + qy_w2 P a b x y
theorem qy_mid_in {x w : Int32} (h0 : ¬ x < 0) (h1 : x < w) (hw : w.toInt ≤ 48) : (qy_mid x).toInt = 16 * x.toInt + 8 ∧ pu_in (qy_mid x) 776 := by
  rw [Int32.lt_iff_toInt_lt, Int32.toInt_zero] at h0
  rw [Int32.lt_iff_toInt_lt] at h1
  obtain ⟨e1, b1⟩ := pu_mul64 (x := 16) (y := x.toInt64) (A := 16) (B := 47) (by unfold pu_in; rw [pu_16]; omega) (pu_of32 (by omega)) (by decide)
  have b8 : pu_in (8 : Int64) 8 := by unfold pu_in; rw [pu_8]; omega
  obtain ⟨e2, b2⟩ := pu_add64 b1 b8 (by decide)
  have e3 : (qy_mid x).toInt = 16 * x.toInt + 8 := by
    show (_ + _ : Int64).toInt = _
    rw [e2, e1, pu_16, pu_8, Jvm.Kit.i64_of_i32]
  exact ⟨e3, by unfold pu_in; rw [e3]; omega⟩
theorem qy_E_toInt {P : Nat → Int64} {a b : Nat} {x y : Int32} (ha : pu_pok P a) (hb : pu_pok P b) (hx : pu_in (qy_mid x) 776) (hy : pu_in (qy_mid y) 776) :
    (qy_E P a b x y).toInt = ((P (6 * b)).toInt - (P (6 * a)).toInt) * ((qy_mid y).toInt - (P (6 * a + 1)).toInt) - ((P (6 * b + 1)).toInt - (P (6 * a + 1)).toInt) * ((qy_mid x).toInt - (P (6 * a)).toInt) ∧ pu_in (qy_E P a b x y) 9484800 := by
  obtain ⟨xa, ya, -⟩ := ha
  obtain ⟨xb, yb, -⟩ := hb
  obtain ⟨e1, b1⟩ := pu_sub64 xb xa (by decide)
  obtain ⟨e2, b2⟩ := pu_sub64 hy ya (by decide)
  obtain ⟨e3, b3⟩ := pu_sub64 yb ya (by decide)
  obtain ⟨e4, b4⟩ := pu_sub64 hx xa (by decide)
  obtain ⟨e5, b5⟩ := pu_mul64 b1 b2 (by decide)
  obtain ⟨e6, b6⟩ := pu_mul64 b3 b4 (by decide)
  obtain ⟨e7, b7⟩ := pu_sub64 b5 b6 (by decide)
  refine ⟨?_, b7⟩
  show (_ - _ : Int64).toInt = _
  rw [e7, e5, e6, e1, e2, e3, e4]
theorem qy_own_nn {P : Nat → Int64} {a b : Nat} {x y : Int32} (h : qy_own P a b x y) : 0 ≤ (qy_E P a b x y).toInt := by
  rcases h with h | ⟨h, -⟩
  · rw [Int64.lt_iff_toInt_lt, Int64.toInt_zero] at h; omega
  · rw [h, Int64.toInt_zero]; omega
/-- where a piece covers a pixel, h is above 0 -/
theorem qy_h_pos {w h : Int32} (hw : w.toInt ≤ 48) (hh : h.toInt ≤ 48) {P : Nat → Int64} {a b : Nat} {x y : Int32} (h0 : pu_pok P 0) (ha : pu_pok P a) (hb : pu_pok P b) (hA : 0 < (pu_ar P a b).toInt) (hp : qy_pix w h x y) (hc : qy_cv P a b x y) : 0 < (qy_h P a b x y).toInt := by
  obtain ⟨mx, ix⟩ := qy_mid_in hp.1.1 hp.1.2 hw
  obtain ⟨my, iy⟩ := qy_mid_in hp.2.1 hp.2.2 hh
  obtain ⟨c0, c1, c2⟩ := hc
  have n0 := qy_own_nn c0
  have n1 := qy_own_nn c1
  have n2 := qy_own_nn c2
  obtain ⟨e0, b0⟩ := qy_E_toInt ha hb ix iy
  obtain ⟨e1, b1⟩ := qy_E_toInt hb h0 ix iy
  obtain ⟨e2, b2⟩ := qy_E_toInt h0 ha ix iy
  obtain ⟨eA, -⟩ := pu_ar_toInt h0 ha hb
  have hsum : (qy_E P a b x y).toInt + (qy_E P b 0 x y).toInt + (qy_E P 0 a x y).toInt = (pu_ar P a b).toInt := by
    rw [e0, e1, e2, eA, Nat.mul_zero]
    grind
  have r0 : pu_in (P 2) 1048576 := ⟨by have q : 1 ≤ (P 2).toInt := h0.2.2.1; omega, h0.2.2.2⟩
  have ra : pu_in (P (6 * a + 2)) 1048576 := ⟨by have := ha.2.2.1; omega, ha.2.2.2⟩
  have rb : pu_in (P (6 * b + 2)) 1048576 := ⟨by have := hb.2.2.1; omega, hb.2.2.2⟩
  obtain ⟨w0, v0⟩ := pu_mul64 b0 r0 (by decide)
  obtain ⟨w1, v1⟩ := pu_mul64 b1 ra (by decide)
  obtain ⟨w2, v2⟩ := pu_mul64 b2 rb (by decide)
  obtain ⟨s1, t1⟩ := pu_add64 v0 v1 (by decide)
  obtain ⟨s2, t2⟩ := pu_add64 t1 v2 (by decide)
  unfold qy_h qy_w0 qy_w1 qy_w2
  rw [s2, s1, w0, w1, w2]
  have g0 : 1 ≤ (P 2).toInt := h0.2.2.1
  have g1 := ha.2.2.1
  have g2 := hb.2.2.1
  have k0 := Int.mul_le_mul_of_nonneg_left g0 n0
  have k1 := Int.mul_le_mul_of_nonneg_left g1 n1
  have k2 := Int.mul_le_mul_of_nonneg_left g2 n2
  rw [Int.mul_one] at k0 k1 k2
  omega
/-- covers, as a number -/
noncomputable def qc (wi hi : Int32) (ct : Nat) (S T : Nat → Nat) (P : Nat → Int64) (ix xx yy : Int32) : Int32 := @ite Int32 (qy_cov wi hi ct S T P ix xx yy) (Classical.propDecidable _) 1 0
theorem qc_1 {wi hi : Int32} {ct : Nat} {S T : Nat → Nat} {P : Nat → Int64} {ix xx yy : Int32} (h : qy_cov wi hi ct S T P ix xx yy) : qc wi hi ct S T P ix xx yy = 1 := by unfold qc; rw [if_pos h]
theorem qc_0 {wi hi : Int32} {ct : Nat} {S T : Nat → Nat} {P : Nat → Int64} {ix xx yy : Int32} (h : ¬ qy_cov wi hi ct S T P ix xx yy) : qc wi hi ct S T P ix xx yy = 0 := by unfold qc; rw [if_neg h]
theorem qc_cov {wi hi : Int32} {ct : Nat} {S T : Nat → Nat} {P : Nat → Int64} {ix xx yy : Int32} (h : ¬ qc wi hi ct S T P ix xx yy = 0) : qy_cov wi hi ct S T P ix xx yy := by
  apply Classical.byContradiction
  intro q
  exact h (qc_0 q)
theorem qc_01 {wi hi : Int32} {ct : Nat} {S T : Nat → Nat} {P : Nat → Int64} {ix xx yy : Int32} : qc wi hi ct S T P ix xx yy = 0 ∨ qc wi hi ct S T P ix xx yy = 1 := by
  by_cases h : qy_cov wi hi ct S T P ix xx yy
  · exact Or.inr (qc_1 h)
  · exact Or.inl (qc_0 h)
/-- the first k on from a start, of so many, where f isn't 0 -/
def qs_up (f : Nat → Int32) : Nat → Nat → Int32
  | _, 0 => -1
  | k, n + 1 => if f k = 0 then qs_up f (k + 1) n else nI k
def qs_dn (f : Nat → Int32) : Nat → Int32
  | 0 => -1
  | k + 1 => if f k = 0 then qs_dn f k else nI k
def qs_ct (f : Nat → Int32) : Nat → Int32
  | 0 => 0
  | k + 1 => if f k = 0 then qs_ct f k else qs_ct f k + 1
theorem qs_up_0 {f : Nat → Int32} {k n : Nat} (h : n ≤ k) : qs_up f k (n - k) = -1 := by
  rw [show n - k = 0 by omega]; rfl
theorem qs_up_s {f : Nat → Int32} {k n : Nat} (h : k < n) (c : f k = 0) : qs_up f k (n - k) = qs_up f (k + 1) (n - (k + 1)) := by
  rw [show n - k = (n - (k + 1)) + 1 by omega, qs_up, if_pos c]
theorem qs_up_f {f : Nat → Int32} {k n : Nat} (h : k < n) (c : ¬ f k = 0) : qs_up f k (n - k) = nI k := by
  rw [show n - k = (n - (k + 1)) + 1 by omega, qs_up, if_neg c]
theorem qs_dn_s {f : Nat → Int32} {k : Nat} (c : f k = 0) : qs_dn f (k + 1) = qs_dn f k := by rw [qs_dn, if_pos c]
theorem qs_dn_f {f : Nat → Int32} {k : Nat} (c : ¬ f k = 0) : qs_dn f (k + 1) = nI k := by rw [qs_dn, if_neg c]
theorem qs_ct_0 {f : Nat → Int32} {k : Nat} (c : f k = 0) : qs_ct f (k + 1) = qs_ct f k := by rw [qs_ct, if_pos c]
theorem qs_ct_1 {f : Nat → Int32} {k : Nat} (c : ¬ f k = 0) : qs_ct f (k + 1) = qs_ct f k + 1 := by rw [qs_ct, if_neg c]
theorem qs_m1 {k : Nat} (h : k < 2 ^ 31) (y : Int32) (hy : y = nI k - 1) (c : ¬ y < 0) : ∃ j : Nat, k = j + 1 ∧ y = nI j := by
  cases k with
  | zero => exact absurd (by rw [hy, nI_0]; decide) c
  | succ j => exact ⟨j, rfl, by rw [hy, nI_pred]⟩
theorem qs_m0 {k : Nat} (h : k < 2 ^ 31) (y : Int32) (hy : y = nI k - 1) (c : y < 0) : k = 0 := by
  cases k with
  | zero => rfl
  | succ j => rw [hy, nI_pred] at c; exact absurd c (nI_pos (by omega))
/-- the answers -/
noncomputable def qa_first (wi hi : Int32) (wn ct : Nat) (S T : Nat → Nat) (P : Nat → Int64) (ix yy : Int32) : Int32 := qs_up (fun xx => qc wi hi ct S T P ix (nI xx) yy) 0 (wn - 0)
noncomputable def qa_last (wi hi : Int32) (wn ct : Nat) (S T : Nat → Nat) (P : Nat → Int64) (ix yy : Int32) : Int32 := qs_dn (fun xx => qc wi hi ct S T P ix (nI xx) yy) wn
noncomputable def qa_count (wi hi : Int32) (ct : Nat) (S T : Nat → Nat) (P : Nat → Int64) (xx yy : Int32) (k : Nat) : Int32 := qs_ct (fun ix => qc wi hi ct S T P (nI ix) xx yy) k
noncomputable def qa_near (wi hi : Int32) (ct : Nat) (S T : Nat → Nat) (P : Nat → Int64) (ix xx yy : Int32) : Int32 := if qc wi hi ct S T P ix xx yy = 0 then -1 else (pu_div (qy_h P (S ix.toNatClampNeg) (T ix.toNatClampNeg) xx yy) (pu_ar P (S ix.toNatClampNeg) (T ix.toNatClampNeg))).toInt32
def qy_sum (P : Nat → Int64) (a b : Nat) (xx yy : Int32) (k : Nat) : Int64 := 0 + qy_w0 P a b xx yy * P (3 + k) + qy_w1 P a b xx yy * P (6 * a + 3 + k) + qy_w2 P a b xx yy * P (6 * b + 3 + k)
noncomputable def qa_number (wi hi : Int32) (ct : Nat) (S T : Nat → Nat) (P : Nat → Int64) (ix xx yy wh : Int32) : Int32 := if qc wi hi ct S T P ix xx yy = 0 then 0 else if wh < 0 then 0 else if 3 ≤ wh then 0 else (pu_div (qy_sum P (S ix.toNatClampNeg) (T ix.toNatClampNeg) xx yy wh.toNatClampNeg) (qy_h P (S ix.toNatClampNeg) (T ix.toNatClampNeg) xx yy)).toInt32
def qa_piece (ct : Nat) (S T : Nat → Nat) (P : Nat → Int64) (ix co wh : Int32) : Int32 := if ix < 0 ∨ nI ct ≤ ix then 0 else if co < 0 ∨ 3 ≤ co then 0 else if wh < 0 ∨ 6 ≤ wh then 0 else (P (6 * qy_cor S T ix.toNatClampNeg co.toNatClampNeg + wh.toNatClampNeg)).toInt32
def qa_area (ct : Nat) (S T : Nat → Nat) (P : Nat → Int64) (ix : Int32) : Int32 := if ix < 0 ∨ nI ct ≤ ix then -1 else (pu_ar P (S ix.toNatClampNeg) (T ix.toNatClampNeg)).toInt32
noncomputable def qa_covered (wi hi : Int32) (ct : Nat) (S T : Nat → Nat) (P : Nat → Int64) (xx yy : Int32) : Int32 := @ite Int32 (qy_pix wi hi xx yy) (Classical.propDecidable _) (qa_count wi hi ct S T P xx yy ct) (-1)
theorem qa_cov_1 {wi hi : Int32} {ct : Nat} {S T : Nat → Nat} {P : Nat → Int64} {xx yy : Int32} (h : qy_pix wi hi xx yy) : qa_covered wi hi ct S T P xx yy = qa_count wi hi ct S T P xx yy ct := by unfold qa_covered; rw [if_pos h]
theorem qa_cov_0 {wi hi : Int32} {ct : Nat} {S T : Nat → Nat} {P : Nat → Int64} {xx yy : Int32} (h : ¬ qy_pix wi hi xx yy) : qa_covered wi hi ct S T P xx yy = -1 := by unfold qa_covered; rw [if_neg h]
