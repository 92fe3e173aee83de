/-! The class's cut, against the pure rings. -/
theorem st_ge {a : Int64} (h : ¬ (a < 0)) : 0 ≤ a := by
  rw [Int64.lt_iff_toInt_lt, Int64.toInt_zero] at h
  rw [Jvm.Kit.i64_nonneg]; omega
theorem st_lt {a : Int64} (h : a < 0) : ¬ 0 ≤ a := by
  rw [Int64.lt_iff_toInt_lt, Int64.toInt_zero] at h
  rw [Jvm.Kit.i64_nonneg]; omega
theorem cb_side {wi hi fo : Int32} {kn c sd : Nat} {f : Nat → Int64} (hn : kn ≤ 19) (hc : c < kn) (hs : sd < 5) : f_PC_sideNumber wi hi fo (nI kn) f (nI c) (nI sd) = pu_side fo wi hi sd f c := by
  unfold f_PC_sideNumber
  rw [ri_at_0 hn hc, ri_at_1 hn hc, ri_at_2 hn hc]
  match sd, hs with
  | 0, _ => rfl
  | 1, _ => rfl
  | 2, _ => rfl
  | 3, _ => rfl
  | 4, _ => rfl
theorem cb_copy {m n c : Nat} {f g : Nat → Int64} (hm : m < 19) (hn : n ≤ 19) (hc : c < n) : f_Ri_addCopy_1 (nI m) f (nI n) g (nI c) = pu_put f m (fun j => g (6 * c + j)) := by
  obtain ⟨e1, e2⟩ := ri_addRow_n hm
  unfold f_Ri_addCopy_1
  rw [e1, e2]
  exact ri_puts (fun j => g (6 * c + j)) (by omega) (by omega) (ri_at_0 hn hc) (ri_at_1 hn hc) (ri_at_2 hn hc) (ri_at_3 hn hc) (ri_at_4 hn hc) (ri_at_5 hn hc)
theorem cb_new {x y a b : Int64} (hd : 0 < (a - b).toInt) : x + f_PC_div ((y - x) * a) (a - b) = pu_btw x y a b := by
  rw [cl_div hd]; rfl
theorem cb_pos {fo wi hi : Int32} (hf : pu_fit fo wi hi) {sd : Nat} {f : Nat → Int64} {p q : Nat} (hp : pu_c3 (f (6 * p)) (f (6 * p + 1)) (f (6 * p + 2))) (hq : pu_c3 (f (6 * q)) (f (6 * q + 1)) (f (6 * q + 2))) (h1 : 0 ≤ pu_side fo wi hi sd f p) (h2 : ¬ 0 ≤ pu_side fo wi hi sd f q) : 0 < (pu_side fo wi hi sd f p - pu_side fo wi hi sd f q).toInt := by
  obtain ⟨a0, b0, e⟩ := pu_btw_d (pu_side_toInt hf sd hp).2 (pu_side_toInt hf sd hq).2 h1 h2
  rw [e]; omega
theorem cb_btw {wi hi fo : Int32} {kn p q m sd : Nat} {f g : Nat → Int64} (hn : kn ≤ 19) (hm : m < 19) (hs : sd < 5) (hp : p < kn) (hq : q < kn) (hd : 0 < (pu_side fo wi hi sd f p - pu_side fo wi hi sd f q).toInt) :
    f_PC_addBetween_6 wi hi fo (nI kn) f (nI m) g (nI p) (nI q) (nI sd) = pu_put g m (pu_new fo wi hi sd f p q) := by
  obtain ⟨e1, e2⟩ := ri_addRow_n hm
  unfold f_PC_addBetween_6
  rw [e1, e2, cb_side hn hp hs, cb_side hn hq hs]
  refine ri_puts (pu_new fo wi hi sd f p q) (by omega) (by omega) ?_ ?_ ?_ ?_ ?_ ?_
  · rw [ri_at_0 hn hp, ri_at_0 hn hq]; exact cb_new hd
  · rw [ri_at_1 hn hp, ri_at_1 hn hq]; exact cb_new hd
  · rw [ri_at_2 hn hp, ri_at_2 hn hq]; exact cb_new hd
  · rw [ri_at_3 hn hp, ri_at_3 hn hq]; exact cb_new hd
  · rw [ri_at_4 hn hp, ri_at_4 hn hq]; exact cb_new hd
  · rw [ri_at_5 hn hp, ri_at_5 hn hq]; exact cb_new hd
theorem cb_top {fo wi hi : Int32} {sd n k : Nat} {R N0 : Nat → Int64} (hk : k < n) (hn : n ≤ 13) : (pu_cs fo wi hi sd n R N0 (k + 1)).1 ≤ 19 := by
  have h1 := pu_cs_mono (fo := fo) (w := wi) (h := hi) (sd := sd) (n := n) (R := R) (N0 := N0) (show k + 1 ≤ n by omega)
  have h2 := pu_cs_most (fo := fo) (w := wi) (h := hi) (sd := sd) (n := n) (R := R) (N0 := N0)
  omega
theorem cb_c3 {fo wi hi : Int32} (hf : pu_fit fo wi hi) {G f : Nat → Int64} (hG : pu_given G) {s n : Nat} (hn : n = (pu_ring fo wi hi G s).1) (hR : ∀ j, j < 6 * n → f j = (pu_ring fo wi hi G s).2 j) : ∀ c, c < n → pu_inv fo wi hi s (f (6 * c)) (f (6 * c + 1)) (f (6 * c + 2)) := by
  intro c hc
  rw [hR (6 * c) (by omega), hR (6 * c + 1) (by omega), hR (6 * c + 2) (by omega)]
  exact pu_ring_inv hf hG s c (by omega)
theorem cb_add {fm : Nat} (h : fm < 17) {faS faT faA : Nat → Int32} {se th : Int32} {ar : Int64} : f_Fa_add_0_3 (nI fm) = nI (fm + 1) ∧ f_Fa_add_1 (nI fm) faS se = upd faS fm se ∧ f_Fa_add_2 (nI fm) faT th = upd faT fm th ∧ f_Fa_add_3 (nI fm) faA ar = upd faA fm ar.toInt32 := by
  have h0 : ¬ nI fm < 0 := nI_pos (by omega)
  have h1 : ¬ 17 ≤ nI fm := by rw [show (17 : Int32) = nI 17 from rfl, nI_leI (by decide) (by omega)]; omega
  unfold f_Fa_add_0_3 f_Fa_add_1 f_Fa_add_2 f_Fa_add_3
  rw [if_neg h0, if_neg h1, if_neg h0, if_neg h1, if_neg h0, if_neg h1, if_neg h0, if_neg h1, nI_1, nI_clamp (by omega)]
  exact ⟨rfl, rfl, rfl, rfl⟩
theorem cb_area {pn a b : Nat} {P : Nat → Int64} (hn : pn ≤ 19) (ha : a < pn) (hb : b < pn) : f_PC_areaWith (nI pn) P (nI a) (nI b) = pu_ar P a b := by
  unfold f_PC_areaWith
  rw [show (0 : Int32) = nI 0 from rfl, ri_at_v (k := 0) hn ha (by decide), ri_at_v (k := 0) hn hb (by decide), show f_Ri_at (nI pn) P (nI 0) (nI 0) = P 0 from ri_at_v (k := 0) (c := 0) hn (by omega) (by decide), ri_at_1 hn ha, ri_at_1 hn hb, show f_Ri_at (nI pn) P (nI 0) 1 = P 1 from ri_at_v (k := 1) (c := 0) hn (by omega) (by decide)]
  rfl
theorem gt_0 {a : Int64} (h : ¬ (a ≤ 0)) : 0 < a := by
  rw [Int64.le_iff_toInt_le, Int64.toInt_zero] at h
  rw [Int64.lt_iff_toInt_lt, Int64.toInt_zero]; omega
theorem gt_n {a : Int64} (h : a ≤ 0) : ¬ 0 < a := by
  rw [Int64.le_iff_toInt_le, Int64.toInt_zero] at h
  rw [Int64.lt_iff_toInt_lt, Int64.toInt_zero]; omega
theorem lt_n {a : Int64} (h : 0 ≤ a) : ¬ a < 0 := by
  rw [Jvm.Kit.i64_nonneg] at h
  rw [Int64.lt_iff_toInt_lt, Int64.toInt_zero]; omega
theorem lt_y {a : Int64} (h : ¬ (0 ≤ a)) : a < 0 := by
  rw [Jvm.Kit.i64_nonneg] at h
  rw [Int64.lt_iff_toInt_lt, Int64.toInt_zero]; omega
theorem cb_final {bo fo wi hi : Int32} (hf : pu_fit fo wi hi) {G f N0 : Nat → Int64} {S0 T0 A0 : Nat → Int32} (hG : pu_given G) (hR : ∀ j, j < 6 * (pu_ring fo wi hi G 5).1 → f j = (pu_ring fo wi hi G 5).2 j) :
    (pu_fan bo (pu_pics fo wi hi f N0 (pu_ring fo wi hi G 5).1) S0 T0 A0 ((pu_ring fo wi hi G 5).1 - 2)).1 = (pu_cutF (decide (¬ bo = 0)) fo wi hi G).1 ∧
    cl_rel (nI (pu_cutR fo wi hi G).1) (pu_pics fo wi hi f N0 (pu_ring fo wi hi G 5).1) (nI (pu_cutF (decide (¬ bo = 0)) fo wi hi G).1) (pu_fan bo (pu_pics fo wi hi f N0 (pu_ring fo wi hi G 5).1) S0 T0 A0 ((pu_ring fo wi hi G 5).1 - 2)).2.1 (pu_fan bo (pu_pics fo wi hi f N0 (pu_ring fo wi hi G 5).1) S0 T0 A0 ((pu_ring fo wi hi G 5).1 - 2)).2.2.1 (pu_fan bo (pu_pics fo wi hi f N0 (pu_ring fo wi hi G 5).1) S0 T0 A0 ((pu_ring fo wi hi G 5).1 - 2)).2.2.2 (pu_cutF (decide (¬ bo = 0)) fo wi hi G).1 (pu_cutR fo wi hi G).1 (pu_cutF (decide (¬ bo = 0)) fo wi hi G).2.1 (pu_cutF (decide (¬ bo = 0)) fo wi hi G).2.2 (pu_cutP fo wi hi G) := by
  have hp : ∀ j, j < 6 * (pu_ring fo wi hi G 5).1 → pu_pics fo wi hi f N0 (pu_ring fo wi hi G 5).1 j = pu_cutP fo wi hi G j := by
    intro j hj
    rw [pu_pics_at _ j hj]
    exact pu_pic_congr hR hj
  obtain ⟨q1, q2⟩ := pu_fan_pcs (bo := bo) (S0 := S0) (T0 := T0) (A0 := A0) hp ((pu_ring fo wi hi G 5).1 - 2) (by omega)
  exact ⟨q1, rfl, rfl, hp, pu_cut_ok hf hG, q2⟩
theorem cb_start {fo wi hi : Int32} {G N0 : Nat → Int64} : ∀ j, j < 6 * 3 → pu_put (pu_put (pu_put N0 0 (fun j => G (6 * 0 + j))) (0 + 1) (fun j => G (6 * 1 + j))) (0 + 1 + 1) (fun j => G (6 * 2 + j)) j = (pu_ring fo wi hi G 0).2 j := by
  intro j hj
  show _ = G j
  unfold pu_put
  by_cases h2 : j / 6 = 0 + 1 + 1
  · rw [if_pos h2]; exact congrArg G (by omega)
  · rw [if_neg h2]
    by_cases h1 : j / 6 = 0 + 1
    · rw [if_pos h1]; exact congrArg G (by omega)
    · rw [if_neg h1, if_pos (by omega)]; exact congrArg G (by omega)
