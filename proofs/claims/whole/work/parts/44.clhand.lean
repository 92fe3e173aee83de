/-- the class's picture and fan hold the value: ct pieces, their second and third corners, the corners on the picture -/
def cl_rel (pin : Int32) (pif : Nat → Int64) (fan : Int32) (faS faT faA : Nat → Int32) (ct pn : Nat) (S T : Nat → Nat) (P : Nat → Int64) : Prop :=
  pin = nI pn ∧ fan = nI ct ∧ (∀ j, j < 6 * pn → pif j = P j) ∧ pu_vok ct pn S T P ∧ ∀ i, i < ct → faS i = nI (S i) ∧ faT i = nI (T i) ∧ faA i = (pu_ar P (S i) (T i)).toInt32
section CL
variable {wi hi pin fan : Int32} {pif : Nat → Int64} {faS faT faA : Nat → Int32} {ct pn : Nat} {S T : Nat → Nat} {P : Nat → Int64}
theorem cl_at (hr : cl_rel pin pif fan faS faT faA ct pn S T P) {c k : Nat} (hc : c < pn) (hk : k < 6) : f_Ri_at pin pif (nI c) (nI k) = P (6 * c + k) := by
  obtain ⟨rfl, -, hp, hv, -⟩ := hr
  rw [ri_at_v hv.2.1 hc hk, hp _ (by omega)]
theorem cl_at0 (hr : cl_rel pin pif fan faS faT faA ct pn S T P) {c : Nat} (hc : c < pn) : f_Ri_at pin pif (nI c) 0 = P (6 * c) := cl_at hr hc (k := 0) (by decide)
theorem cl_at1 (hr : cl_rel pin pif fan faS faT faA ct pn S T P) {c : Nat} (hc : c < pn) : f_Ri_at pin pif (nI c) 1 = P (6 * c + 1) := cl_at hr hc (k := 1) (by decide)
theorem cl_at2 (hr : cl_rel pin pif fan faS faT faA ct pn S T P) {c : Nat} (hc : c < pn) : f_Ri_at pin pif (nI c) 2 = P (6 * c + 2) := cl_at hr hc (k := 2) (by decide)
theorem cl_cor (hr : cl_rel pin pif fan faS faT faA ct pn S T P) {i : Nat} (hi : i < ct) : f_Fa_corner fan faS faT (nI i) 0 = nI 0 ∧ f_Fa_corner fan faS faT (nI i) 1 = nI (S i) ∧ f_Fa_corner fan faS faT (nI i) 2 = nI (T i) := by
  obtain ⟨-, rfl, -, hv, hf⟩ := hr
  obtain ⟨f1, f2, -⟩ := hf i hi
  have h17 := hv.1
  unfold f_Fa_corner
  refine ⟨?_, ?_, ?_⟩
  · rw [fa_has_1 h17 hi, if_neg (by decide), if_pos rfl, nk_set_0]
  · rw [fa_has_1 h17 hi, if_neg (by decide), if_neg (by decide), if_pos rfl, nI_clamp (by omega), f1]
  · rw [fa_has_1 h17 hi, if_neg (by decide), if_neg (by decide), if_neg (by decide), if_pos rfl, nI_clamp (by omega), f2]
theorem cl_ca : f_PC_cornerAfter 0 = 1 ∧ f_PC_cornerAfter 1 = 2 ∧ f_PC_cornerAfter 2 = 0 := by decide
theorem cl_edge (hr : cl_rel pin pif fan faS faT faA ct pn S T P) {i : Nat} (hi : i < ct) (xx yy : Int32) :
    f_PC_edgeNumber pin pif fan faS faT (nI i) 0 xx yy = qy_E P (S i) (T i) xx yy ∧ f_PC_edgeNumber pin pif fan faS faT (nI i) 1 xx yy = qy_E P (T i) 0 xx yy ∧ f_PC_edgeNumber pin pif fan faS faT (nI i) 2 xx yy = qy_E P 0 (S i) xx yy := by
  obtain ⟨k0, k1, k2⟩ := cl_cor hr hi
  obtain ⟨a0, a1, a2⟩ := cl_ca
  obtain ⟨s1, s2, -⟩ := hr.2.2.2.1.2.2 i hi
  have s0 : 0 < pn := by omega
  unfold f_PC_edgeNumber
  rw [a0, a1, a2, a0, k0, k1, k2, cl_at0 hr s0, cl_at0 hr s1, cl_at0 hr s2, cl_at1 hr s0, cl_at1 hr s1, cl_at1 hr s2]
  exact ⟨rfl, rfl, rfl⟩
theorem cl_sgn {E Ya Yb Xa Xb : Int64} (ha : pu_in Ya 1200) (hb : pu_in Yb 1200) :
    ((0 < E ∨ (E = 0 ∧ (Yb < Ya ∨ (Yb = Ya ∧ Xa < Xb)))) → (if E = 0 then (if Yb - Ya < 0 then (1 : Int32) else (if Yb - Ya = 0 then (if Xb ≤ Xa then 0 else 1) else 0)) else (if E ≤ 0 then 0 else 1)) = 1) ∧ (¬ (0 < E ∨ (E = 0 ∧ (Yb < Ya ∨ (Yb = Ya ∧ Xa < Xb)))) → (if E = 0 then (if Yb - Ya < 0 then (1 : Int32) else (if Yb - Ya = 0 then (if Xb ≤ Xa then 0 else 1) else 0)) else (if E ≤ 0 then 0 else 1)) = 0) := by
  have e1 : (Yb - Ya).toInt = Yb.toInt - Ya.toInt := (pu_sub64 hb ha (by decide)).1
  have i1 : Yb - Ya < 0 ↔ Yb < Ya := by rw [Int64.lt_iff_toInt_lt, Int64.lt_iff_toInt_lt, e1, Int64.toInt_zero]; omega
  have i2 : Yb - Ya = 0 ↔ Yb = Ya := by rw [← Int64.toInt_inj, ← Int64.toInt_inj, e1, Int64.toInt_zero]; omega
  have i3 : Xb ≤ Xa ↔ ¬ Xa < Xb := by rw [Int64.le_iff_toInt_le, Int64.lt_iff_toInt_lt]; omega
  have i4 : E ≤ 0 ↔ ¬ 0 < E := by rw [Int64.le_iff_toInt_le, Int64.lt_iff_toInt_lt]; omega
  have i5 : E = 0 → ¬ 0 < E := fun q => by rw [q]; decide
  by_cases h0 : E = 0
  · have h9 := i5 h0
    rw [if_pos h0]
    by_cases h1 : Yb < Ya
    · rw [if_pos (i1.mpr h1)]
      exact ⟨fun _ => rfl, fun q => absurd (Or.inr ⟨h0, Or.inl h1⟩) q⟩
    · rw [if_neg (fun q => h1 (i1.mp q))]
      by_cases h2 : Yb = Ya
      · rw [if_pos (i2.mpr h2)]
        by_cases h3 : Xa < Xb
        · rw [if_neg (fun q => i3.mp q h3)]
          exact ⟨fun _ => rfl, fun q => absurd (Or.inr ⟨h0, Or.inr ⟨h2, h3⟩⟩) q⟩
        · rw [if_pos (i3.mpr h3)]
          refine ⟨fun q => ?_, fun _ => rfl⟩
          rcases q with q | ⟨-, q | ⟨-, q⟩⟩
          · exact absurd q h9
          · exact absurd q h1
          · exact absurd q h3
      · rw [if_neg (fun q => h2 (i2.mp q))]
        refine ⟨fun q => ?_, fun _ => rfl⟩
        rcases q with q | ⟨-, q | ⟨q, -⟩⟩
        · exact absurd q h9
        · exact absurd q h1
        · exact absurd q h2
  · rw [if_neg h0]
    by_cases h1 : 0 < E
    · rw [if_neg (fun q => i4.mp q h1)]
      exact ⟨fun _ => rfl, fun q => absurd (Or.inl h1) q⟩
    · rw [if_pos (i4.mpr h1)]
      refine ⟨fun q => ?_, fun _ => rfl⟩
      rcases q with q | ⟨q, -⟩
      · exact absurd q h1
      · exact absurd q h0
theorem cl_in3 (hr : cl_rel pin pif fan faS faT faA ct pn S T P) {i : Nat} (hi : i < ct) (xx yy : Int32) :
    ((qy_own P (S i) (T i) xx yy → f_PC_isInside pin pif fan faS faT (nI i) 0 xx yy = 1) ∧ (¬ qy_own P (S i) (T i) xx yy → f_PC_isInside pin pif fan faS faT (nI i) 0 xx yy = 0)) ∧
    ((qy_own P (T i) 0 xx yy → f_PC_isInside pin pif fan faS faT (nI i) 1 xx yy = 1) ∧ (¬ qy_own P (T i) 0 xx yy → f_PC_isInside pin pif fan faS faT (nI i) 1 xx yy = 0)) ∧
    ((qy_own P 0 (S i) xx yy → f_PC_isInside pin pif fan faS faT (nI i) 2 xx yy = 1) ∧ (¬ qy_own P 0 (S i) xx yy → f_PC_isInside pin pif fan faS faT (nI i) 2 xx yy = 0)) := by
  obtain ⟨k0, k1, k2⟩ := cl_cor hr hi
  obtain ⟨a0, a1, a2⟩ := cl_ca
  obtain ⟨e0, e1, e2⟩ := cl_edge hr hi xx yy
  obtain ⟨s1, s2, p0, pa, pb, -⟩ := hr.2.2.2.1.2.2 i hi
  have s0 : 0 < pn := by omega
  unfold f_PC_isInside
  rw [e0, e1, e2, a0, a1, a2, a0, k0, k1, k2, cl_at0 hr s0, cl_at0 hr s1, cl_at0 hr s2, cl_at1 hr s0, cl_at1 hr s1, cl_at1 hr s2]
  exact ⟨cl_sgn pa.2.1 pb.2.1, cl_sgn pb.2.1 p0.2.1, cl_sgn p0.2.1 pa.2.1⟩
theorem cl_pix {xx yy : Int32} : (qy_pix wi hi xx yy → f_PC_isPixel wi hi xx yy = 1) ∧ (¬ qy_pix wi hi xx yy → f_PC_isPixel wi hi xx yy = 0) := by
  have n1 : wi ≤ xx ↔ ¬ xx < wi := by rw [Int32.le_iff_toInt_le, Int32.lt_iff_toInt_lt]; omega
  have n2 : hi ≤ yy ↔ ¬ yy < hi := by rw [Int32.le_iff_toInt_le, Int32.lt_iff_toInt_lt]; omega
  unfold f_PC_isPixel qy_pix
  refine ⟨fun h => ?_, fun h => ?_⟩
  · obtain ⟨⟨h1, h2⟩, h3, h4⟩ := h
    rw [if_neg h1, if_neg (fun q => n1.mp q h2), if_neg h3, if_neg (fun q => n2.mp q h4)]
  · by_cases h1 : xx < 0
    · rw [if_pos h1]
    · rw [if_neg h1]
      by_cases h2 : wi ≤ xx
      · rw [if_pos h2]
      · rw [if_neg h2]
        by_cases h3 : yy < 0
        · rw [if_pos h3]
        · rw [if_neg h3]
          by_cases h4 : hi ≤ yy
          · rw [if_pos h4]
          · exact absurd ⟨⟨h1, Classical.byContradiction fun q => h2 (n1.mpr q)⟩, h3, Classical.byContradiction fun q => h4 (n2.mpr q)⟩ h
theorem cl_rng {ix : Int32} (h : ¬ ∃ j : Nat, j < ct ∧ ix = nI j) (hct : ct ≤ 17) : ix < 0 ∨ nI ct ≤ ix := by
  by_cases h0 : ix < 0
  · exact Or.inl h0
  · refine Or.inr (Classical.byContradiction fun q => h ?_)
    exact ix_of (M := nI ct) rfl (by omega) h0 q
theorem cl_covers (hr : cl_rel pin pif fan faS faT faA ct pn S T P) (ix xx yy : Int32) : f_PC_covers wi hi pin pif fan faS faT ix xx yy = qc wi hi ct S T P ix xx yy := by
  obtain ⟨p1, p2⟩ := cl_pix (wi := wi) (hi := hi) (xx := xx) (yy := yy)
  have hf : fan = nI ct := hr.2.1
  have hct : ct ≤ 17 := hr.2.2.2.1.1
  unfold f_PC_covers
  by_cases hp : qy_pix wi hi xx yy
  · rw [p1 hp, if_neg (by decide)]
    by_cases hj : ∃ j : Nat, j < ct ∧ ix = nI j
    · obtain ⟨j, hj, rfl⟩ := hj
      rw [hf, fa_has_1 hct hj, if_neg (by decide), ← hf]
      obtain ⟨⟨i1, i2⟩, ⟨i3, i4⟩, i5, i6⟩ := cl_in3 hr hj xx yy
      by_cases c0 : qy_own P (S j) (T j) xx yy
      · rw [i1 c0, if_neg (by decide)]
        by_cases c1 : qy_own P (T j) 0 xx yy
        · rw [i3 c1, if_neg (by decide)]
          by_cases c2 : qy_own P 0 (S j) xx yy
          · rw [i5 c2, if_neg (by decide), qc_1 ⟨j, hj, rfl, hp, c0, c1, c2⟩]
          · rw [i6 c2, if_pos rfl, qc_0]
            rintro ⟨a, ha, e, -, q⟩
            have : j = a := (nI_eq (by omega) (by omega)).mp e
            subst this
            exact c2 q.2.2
        · rw [i4 c1, if_pos rfl, qc_0]
          rintro ⟨a, ha, e, -, q⟩
          have : j = a := (nI_eq (by omega) (by omega)).mp e
          subst this
          exact c1 q.2.1
      · rw [i2 c0, if_pos rfl, qc_0]
        rintro ⟨a, ha, e, -, q⟩
        have : j = a := (nI_eq (by omega) (by omega)).mp e
        subst this
        exact c0 q.1
    · rw [hf, fa_has_0 (cl_rng hj hct), if_pos rfl, qc_0]
      rintro ⟨a, ha, e, -⟩
      exact hj ⟨a, ha, e⟩
  · rw [p2 hp, if_pos rfl, qc_0]
    rintro ⟨a, ha, e, q, -⟩
    exact hp q
theorem cl_weight (hr : cl_rel pin pif fan faS faT faA ct pn S T P) {i : Nat} (hi : i < ct) (xx yy : Int32) :
    f_PC_weight pin pif fan faS faT (nI i) 0 xx yy = qy_w0 P (S i) (T i) xx yy ∧ f_PC_weight pin pif fan faS faT (nI i) 1 xx yy = qy_w1 P (S i) (T i) xx yy ∧ f_PC_weight pin pif fan faS faT (nI i) 2 xx yy = qy_w2 P (S i) (T i) xx yy := by
  obtain ⟨k0, k1, k2⟩ := cl_cor hr hi
  obtain ⟨e0, e1, e2⟩ := cl_edge hr hi xx yy
  obtain ⟨s1, s2, -⟩ := hr.2.2.2.1.2.2 i hi
  have s0 : 0 < pn := by omega
  unfold f_PC_weight
  rw [e0, e1, e2, k0, k1, k2, cl_at2 hr s0, cl_at2 hr s1, cl_at2 hr s2]
  exact ⟨rfl, rfl, rfl⟩
theorem cl_wsum (hr : cl_rel pin pif fan faS faT faA ct pn S T P) {i : Nat} (hi : i < ct) (xx yy : Int32) : f_PC_weightSum pin pif fan faS faT (nI i) xx yy = qy_h P (S i) (T i) xx yy := by
  obtain ⟨e0, e1, e2⟩ := cl_weight hr hi xx yy
  unfold f_PC_weightSum
  rw [e0, e1, e2]
  rfl
/-- the class's DIV is the reference's, for a divisor above 0 -/
theorem cl_xor {x y : Int64} (hy : 0 < y.toInt) : 0 ≤ x ^^^ y ↔ 0 ≤ x.toInt := by
  rw [Jvm.Kit.i64_nonneg]
  have h1 : (x ^^^ y).toBitVec.msb = decide ((x ^^^ y).toBitVec.toInt < 0) := BitVec.msb_eq_toInt
  have h2 : x.toBitVec.msb = decide (x.toBitVec.toInt < 0) := BitVec.msb_eq_toInt
  have h3 : y.toBitVec.msb = decide (y.toBitVec.toInt < 0) := BitVec.msb_eq_toInt
  have e1 : (x ^^^ y).toBitVec.toInt = (x ^^^ y).toInt := rfl
  have e2 : x.toBitVec.toInt = x.toInt := rfl
  have e3 : y.toBitVec.toInt = y.toInt := rfl
  rw [Int64.toBitVec_xor, BitVec.msb_xor] at h1
  rw [← Int64.toBitVec_xor, e1] at h1
  rw [e2] at h2
  rw [e3, decide_eq_false (by omega)] at h3
  rw [h2, h3, Bool.xor_false] at h1
  have h4 : (x.toInt < 0) ↔ ((x ^^^ y).toInt < 0) := decide_eq_decide.mp h1
  omega
theorem cl_div {x y : Int64} (hy : 0 < y.toInt) : f_PC_div x y = pu_div x y := by
  have hne : ¬ y = 0 := fun q => by rw [q, Int64.toInt_zero] at hy; omega
  obtain ⟨hq, hm⟩ := pu_quot (a := x) hy
  obtain ⟨t1, t2⟩ := pu_tdiv (a := x.toInt) hy
  unfold f_PC_div f_Ma_floorDiv pu_div
  rw [if_neg hne]
  by_cases h0 : 0 ≤ x.toInt
  · rw [if_pos ((cl_xor hy).mpr h0), if_neg]
    rw [Int64.lt_iff_toInt_lt, hm]
    have := t1 h0
    omega
  · rw [if_neg (fun q => h0 ((cl_xor hy).mp q))]
    have := t2 (by omega)
    by_cases h1 : x / y * y = x
    · rw [if_pos h1, if_neg]
      rw [h1]
      exact Int64.lt_irrefl
    · rw [if_neg h1, if_pos]
      rw [Int64.lt_iff_toInt_lt, hm]
      rw [← Int64.toInt_inj, hm] at h1
      omega
theorem cl_area (hr : cl_rel pin pif fan faS faT faA ct pn S T P) (ix : Int32) : f_PC_area fan faA ix = qa_area ct S T P ix := by
  obtain ⟨-, rfl, -, hv, hf⟩ := hr
  have hct := hv.1
  unfold f_PC_area qa_area
  by_cases hj : ∃ j : Nat, j < ct ∧ ix = nI j
  · obtain ⟨j, hj, rfl⟩ := hj
    rw [fa_has_1 hct hj, if_neg (by decide), nI_clamp (by omega), (hf j hj).2.2, if_neg]
    rintro (q | q)
    · exact nI_pos (by omega) q
    · rw [nI_leI (by omega) (by omega)] at q; omega
  · rw [fa_has_0 (cl_rng hj hct), if_pos rfl, if_pos (cl_rng hj hct)]
theorem cl_fit {P : Nat → Int64} {a b : Nat} (h0 : pu_pok P 0) (ha : pu_pok P a) (hb : pu_pok P b) : (pu_ar P a b).toInt32.toInt64 = pu_ar P a b := by
  have h := (pu_ar_toInt h0 ha hb).2
  exact lg_i2l_l2i (by have := h.1; omega) (by have := h.2; omega)
theorem cl_near (hr : cl_rel pin pif fan faS faT faA ct pn S T P) (ix xx yy : Int32) : f_PC_near wi hi pin pif fan faS faT faA ix xx yy = qa_near wi hi ct S T P ix xx yy := by
  unfold f_PC_near qa_near
  rw [cl_covers hr]
  by_cases h : qc wi hi ct S T P ix xx yy = 0
  · rw [if_pos h, if_pos h]
  · rw [if_neg h, if_neg h]
    obtain ⟨j, hj, rfl, -⟩ := qc_cov h
    have hct := hr.2.2.2.1.1
    obtain ⟨-, -, p0, pa, pb, hA⟩ := hr.2.2.2.1.2.2 j hj
    rw [cl_wsum hr hj, cl_area hr, nI_clamp (by omega)]
    unfold qa_area
    rw [nI_clamp (by omega), if_neg, cl_fit p0 pa pb, cl_div hA]
    rintro (q | q)
    · exact nI_pos (by omega) q
    · rw [nI_leI (by omega) (by omega)] at q; omega
theorem cl_number (hr : cl_rel pin pif fan faS faT faA ct pn S T P) (hw : wi.toInt ≤ 48) (hh : hi.toInt ≤ 48) (ix xx yy wh : Int32) : f_PC_number wi hi pin pif fan faS faT ix xx yy wh = qa_number wi hi ct S T P ix xx yy wh := by
  unfold f_PC_number qa_number
  rw [cl_covers hr]
  by_cases h : qc wi hi ct S T P ix xx yy = 0
  · rw [if_pos h, if_pos h]
    split
    · rfl
    · split <;> rfl
  · rw [if_neg h, if_neg h]
    by_cases h1 : wh < 0
    · rw [if_pos h1, if_pos h1]
    · rw [if_neg h1, if_neg h1]
      by_cases h2 : 3 ≤ wh
      · rw [if_pos h2, if_pos h2]
      · rw [if_neg h2, if_neg h2]
        obtain ⟨k, hk, rfl⟩ := ix_of (M := 3) (n := 3) rfl (by decide) h1 h2
        obtain ⟨j, hj, rfl, hp, hc⟩ := qc_cov h
        have hct := hr.2.2.2.1.1
        obtain ⟨s1, s2, p0, pa, pb, hA⟩ := hr.2.2.2.1.2.2 j hj
        obtain ⟨e0, e1, e2⟩ := cl_weight hr hj xx yy
        obtain ⟨k0, k1, k2⟩ := cl_cor hr hj
        have hpos := qy_h_pos hw hh p0 pa pb hA hp hc
        have a0 := cl_at hr (c := 0) (k := 3 + k) (by omega) (by omega)
        have a1 := cl_at hr (c := S j) (k := 3 + k) s1 (by omega)
        have a2 := cl_at hr (c := T j) (k := 3 + k) s2 (by omega)
        rw [show (3 : Int32) = nI 3 from rfl, nI_add, e0, e1, e2, k0, k1, k2, a0, a1, a2, cl_wsum hr hj, nI_clamp (by omega), nI_clamp (by omega), cl_div hpos]
        unfold qy_sum
        rw [show 6 * 0 + (3 + k) = 3 + k by omega, show 6 * S j + (3 + k) = 6 * S j + 3 + k by omega, show 6 * T j + (3 + k) = 6 * T j + 3 + k by omega]
theorem cl_piece (hr : cl_rel pin pif fan faS faT faA ct pn S T P) (ix co wh : Int32) : f_PC_piece pin pif fan faS faT ix co wh = qa_piece ct S T P ix co wh := by
  have hct := hr.2.2.2.1.1
  have hpn := hr.2.2.2.1.2.1
  have hpin : pin = nI pn := hr.1
  unfold f_PC_piece qa_piece
  by_cases hw : wh < 0 ∨ 6 ≤ wh
  · rw [hpin, ri_at_wh hw, if_pos hw]
    split
    · rfl
    · split <;> rfl
  · by_cases hj : ∃ j : Nat, j < ct ∧ ix = nI j
    · obtain ⟨j, hj, rfl⟩ := hj
      obtain ⟨k0, k1, k2⟩ := cl_cor hr hj
      obtain ⟨s1, s2, -⟩ := hr.2.2.2.1.2.2 j hj
      obtain ⟨k, hk, rfl⟩ := ix_of (M := 6) (n := 6) rfl (by decide) (fun q => hw (Or.inl q)) (fun q => hw (Or.inr q))
      rw [if_neg (by rintro (q | q); exact nI_pos (by omega) q; rw [nI_leI (by omega) (by omega)] at q; omega)]
      by_cases hc : co < 0 ∨ 3 ≤ co
      · rw [if_pos hc, hpin]
        have e : f_Fa_corner fan faS faT (nI j) co = -1 := by
          have hf : fan = nI ct := hr.2.1
          unfold f_Fa_corner
          rw [hf, fa_has_1 hct hj, if_neg (by decide), if_neg, if_neg, if_neg]
          · rintro rfl; revert hc; decide
          · rintro rfl; revert hc; decide
          · rintro rfl; revert hc; decide
        rw [e, ri_at_no hpn]
        rfl
      · rw [if_neg hc, if_neg hw]
        obtain ⟨c, hc3, rfl⟩ := ix_of (M := 3) (n := 3) rfl (by decide) (fun q => hc (Or.inl q)) (fun q => hc (Or.inr q))
        rw [nI_clamp (by omega), nI_clamp (by omega), nI_clamp (by omega)]
        match c, hc3 with
        | 0, _ => rw [show nI 0 = (0 : Int32) from rfl, k0, cl_at hr (c := 0) (by omega) hk]; rfl
        | 1, _ => rw [show nI 1 = (1 : Int32) from rfl, k1, cl_at hr s1 hk]; rfl
        | 2, _ => rw [show nI 2 = (2 : Int32) from rfl, k2, cl_at hr s2 hk]; rfl
    · have hf : fan = nI ct := hr.2.1
      have hn := cl_rng hj hct
      rw [if_pos hn]
      have e : f_Fa_corner fan faS faT ix co = -1 := by
        unfold f_Fa_corner
        rw [hf, fa_has_0 hn, if_pos rfl]
      rw [e, hpin, ri_at_no hpn]
      rfl
end CL
