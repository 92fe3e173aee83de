/-! The law's own lemmas: what the two sides' small writes do is the same. -/
theorem la_has3 (ix : Int32) : f_Ri_has 3 ix = f_Mo_within ix 0 2 := by
  have e2 : (2 : Int32).toInt = 2 := by decide
  have e3 : (3 : Int32).toInt = 3 := by decide
  have n1 : (3 : Int32) ≤ ix ↔ 2 < ix := by rw [Int32.lt_iff_toInt_lt, Int32.le_iff_toInt_le, e2, e3]; omega
  unfold f_Ri_has f_Mo_within
  by_cases h0 : ix < 0
  · rw [if_pos h0, if_pos h0]
  · rw [if_neg h0, if_neg h0]
    by_cases h1 : 2 < ix
    · rw [if_pos (n1.mpr h1), if_pos h1]
    · rw [if_neg (fun q => h1 (n1.mp q)), if_neg h1, if_neg (by decide)]
theorem la_far (v : Int32) : f_PC_isPlace v = f_Mo_far v := rfl
theorem la_paint (v : Int32) : f_PC_isPaint v = f_Mo_within v (-131072) 131072 := rfl
theorem la_focus (fo va : Int32) : f_PC_focus_r va = f_Mo_focus_r va ∧ f_PC_focus_0_2 fo va = f_Mo_focus_0_3 fo va := by
  have n1 : va ≤ 512 ↔ ¬ 512 < va := by rw [Int32.lt_iff_toInt_lt, Int32.le_iff_toInt_le]; omega
  unfold f_PC_focus_r f_Mo_focus_r f_PC_focus_0_2 f_Mo_focus_0_3
  by_cases h0 : va < 8
  · rw [if_pos h0, if_pos h0, mo_i0 (Or.inl h0), if_pos rfl, if_pos rfl]
    exact ⟨rfl, rfl⟩
  · rw [if_neg h0, if_neg h0]
    by_cases h1 : 512 < va
    · rw [if_neg (fun q => n1.mp q h1), if_neg (fun q => n1.mp q h1), mo_i0 (Or.inr h1), if_pos rfl, if_pos rfl]
      exact ⟨rfl, rfl⟩
    · rw [if_pos (n1.mpr h1), if_pos (n1.mpr h1), mo_i1 h0 h1, if_neg (by decide), if_neg (by decide)]
      exact ⟨rfl, rfl⟩
theorem la_fit {fo va wi hi : Int32} (h : pu_fit fo wi hi) : pu_fit (f_PC_focus_0_2 fo va) wi hi := by
  unfold f_PC_focus_0_2
  by_cases h0 : va < 8
  · rw [if_pos h0]; exact h
  · rw [if_neg h0]
    by_cases h1 : va ≤ 512
    · rw [if_pos h1]
      rw [Int32.lt_iff_toInt_lt, show (8 : Int32).toInt = 8 by decide] at h0
      rw [Int32.le_iff_toInt_le, show (512 : Int32).toInt = 512 by decide] at h1
      exact ⟨⟨by omega, h1⟩, h.2⟩
    · rw [if_neg h1]; exact h
theorem la_ix {c k : Nat} (hc : c < 3) (hk : k < 6) : ((6 * nI c) + nI k).toNatClampNeg = 6 * c + k := by
  rw [nk_set_6, pk_mul, nI_add, nI_clamp (by omega)]
theorem la_place (G : Nat → Int64) (ix xx yy zz : Int32) : f_PC_place_r 3 ix xx yy zz = f_Mo_place_r ix xx yy zz ∧ f_PC_place_2 3 G ix xx yy zz = f_Mo_place_1 G ix xx yy zz := by
  unfold f_PC_place_r f_Mo_place_r f_PC_place_2 f_Mo_place_1
  rw [la_has3, la_far, la_far, la_far]
  refine ⟨rfl, ?_⟩
  by_cases h0 : f_Mo_within ix 0 2 = 0
  · rw [if_pos h0, if_pos h0]
  · rw [if_neg h0, if_neg h0]
    by_cases h1 : f_Mo_far xx = 0
    · rw [if_pos h1, if_pos h1]
    · rw [if_neg h1, if_neg h1]
      by_cases h2 : f_Mo_far yy = 0
      · rw [if_pos h2, if_pos h2]
      · rw [if_neg h2, if_neg h2]
        by_cases h3 : f_Mo_far zz = 0
        · rw [if_pos h3, if_pos h3]
        · rw [if_neg h3, if_neg h3]
          obtain ⟨c, hc, rfl⟩ := mo_inN (M := 2) (n := 2) rfl (by decide) h0
          have a0 : (6 * nI c).toNatClampNeg = 6 * c + 0 := by rw [nk_set_6, pk_mul, nI_clamp (by omega)]; rfl
          have a1 : ((6 * nI c) + 1).toNatClampNeg = 6 * c + 1 := la_ix (k := 1) hc (by decide)
          have a2 : ((6 * nI c) + 2).toNatClampNeg = 6 * c + 2 := la_ix (k := 2) hc (by decide)
          have b0 : ∀ (F : Nat → Int64) (v : Int64), f_Ri_put_1 3 F (nI c) 0 v = vp_updL F (6 * c + 0) v := fun F v => ri_put_v (n := 3) (k := 0) (by decide) hc (by decide)
          have b1 : ∀ (F : Nat → Int64) (v : Int64), f_Ri_put_1 3 F (nI c) 1 v = vp_updL F (6 * c + 1) v := fun F v => ri_put_v (n := 3) (k := 1) (by decide) hc (by decide)
          have b2 : ∀ (F : Nat → Int64) (v : Int64), f_Ri_put_1 3 F (nI c) 2 v = vp_updL F (6 * c + 2) v := fun F v => ri_put_v (n := 3) (k := 2) (by decide) hc (by decide)
          rw [a0, a1, a2, b0, b1, b2]
theorem la_paints (G : Nat → Int64) (ix uu vv ll : Int32) : f_PC_paint_r 3 ix uu vv ll = f_Mo_paint_r ix uu vv ll ∧ f_PC_paint_2 3 G ix uu vv ll = f_Mo_paint_1 G ix uu vv ll := by
  have n1 : ll ≤ 65536 ↔ ¬ 65536 < ll := by rw [Int32.lt_iff_toInt_lt, Int32.le_iff_toInt_le]; omega
  unfold f_PC_paint_r f_Mo_paint_r f_PC_paint_2 f_Mo_paint_1
  rw [la_has3, la_paint, la_paint]
  by_cases h0 : f_Mo_within ix 0 2 = 0
  · rw [if_pos h0, if_pos h0, if_pos h0, if_pos h0]; exact ⟨rfl, rfl⟩
  · rw [if_neg h0, if_neg h0, if_neg h0, if_neg h0]
    by_cases h1 : f_Mo_within uu (-131072) 131072 = 0
    · rw [if_pos h1, if_pos h1, if_pos h1, if_pos h1]; exact ⟨rfl, rfl⟩
    · rw [if_neg h1, if_neg h1, if_neg h1, if_neg h1]
      by_cases h2 : f_Mo_within vv (-131072) 131072 = 0
      · rw [if_pos h2, if_pos h2, if_pos h2, if_pos h2]; exact ⟨rfl, rfl⟩
      · rw [if_neg h2, if_neg h2, if_neg h2, if_neg h2]
        by_cases h3 : ll < 0
        · rw [if_pos h3, if_pos h3, mo_i0 (Or.inl h3), if_pos rfl, if_pos rfl]; exact ⟨rfl, rfl⟩
        · rw [if_neg h3, if_neg h3]
          by_cases h4 : 65536 < ll
          · rw [if_neg (fun q => n1.mp q h4), if_neg (fun q => n1.mp q h4), mo_i0 (Or.inr h4), if_pos rfl, if_pos rfl]; exact ⟨rfl, rfl⟩
          · rw [if_pos (n1.mpr h4), if_pos (n1.mpr h4), mo_i1 h3 h4, if_neg (by decide), if_neg (by decide)]
            refine ⟨rfl, ?_⟩
            obtain ⟨c, hc, rfl⟩ := mo_inN (M := 2) (n := 2) rfl (by decide) h0
            have a0 : ((6 * nI c) + 3).toNatClampNeg = 6 * c + 3 := la_ix (k := 3) hc (by decide)
            have a1 : ((6 * nI c) + 4).toNatClampNeg = 6 * c + 4 := la_ix (k := 4) hc (by decide)
            have a2 : ((6 * nI c) + 5).toNatClampNeg = 6 * c + 5 := la_ix (k := 5) hc (by decide)
            have b0 : ∀ (F : Nat → Int64) (v : Int64), f_Ri_put_1 3 F (nI c) 3 v = vp_updL F (6 * c + 3) v := fun F v => ri_put_v (n := 3) (k := 3) (by decide) hc (by decide)
            have b1 : ∀ (F : Nat → Int64) (v : Int64), f_Ri_put_1 3 F (nI c) 4 v = vp_updL F (6 * c + 4) v := fun F v => ri_put_v (n := 3) (k := 4) (by decide) hc (by decide)
            have b2 : ∀ (F : Nat → Int64) (v : Int64), f_Ri_put_1 3 F (nI c) 5 v = vp_updL F (6 * c + 5) v := fun F v => ri_put_v (n := 3) (k := 5) (by decide) hc (by decide)
            rw [a0, a1, a2, b0, b1, b2]
theorem la_isPlace {v : Int32} (h : ¬ f_Mo_far v = 0) : pu_in v.toInt64 16777216 := by
  obtain ⟨h0, h1⟩ := mo_in (show ¬ f_Mo_within v (-16777216) 16777216 = 0 from h)
  rw [Int32.lt_iff_toInt_lt, show (-16777216 : Int32).toInt = -16777216 by decide] at h0
  rw [Int32.lt_iff_toInt_lt, show (16777216 : Int32).toInt = 16777216 by decide] at h1
  exact pu_of32 (by omega)
theorem la_placeG {G : Nat → Int64} (hG : pu_given G) (ix xx yy zz : Int32) : pu_given (f_Mo_place_1 G ix xx yy zz) := by
  unfold f_Mo_place_1
  by_cases h0 : f_Mo_within ix 0 2 = 0
  · rw [if_pos h0]; exact hG
  · rw [if_neg h0]
    by_cases h1 : f_Mo_far xx = 0
    · rw [if_pos h1]; exact hG
    · rw [if_neg h1]
      by_cases h2 : f_Mo_far yy = 0
      · rw [if_pos h2]; exact hG
      · rw [if_neg h2]
        by_cases h3 : f_Mo_far zz = 0
        · rw [if_pos h3]; exact hG
        · rw [if_neg h3]
          obtain ⟨c, hc, rfl⟩ := mo_inN (M := 2) (n := 2) rfl (by decide) h0
          have a0 : (6 * nI c).toNatClampNeg = 6 * c := by rw [nk_set_6, pk_mul, nI_clamp (by omega)]
          have a1 : ((6 * nI c) + 1).toNatClampNeg = 6 * c + 1 := la_ix (k := 1) hc (by decide)
          have a2 : ((6 * nI c) + 2).toNatClampNeg = 6 * c + 2 := la_ix (k := 2) hc (by decide)
          rw [a0, a1, a2]
          intro d hd
          by_cases e : d = c
          · subst e
            rw [pk_uLn (by omega), pk_uLn (by omega), pk_uLs, pk_uLn (by omega), pk_uLs, pk_uLs]
            exact ⟨la_isPlace h1, la_isPlace h2, la_isPlace h3⟩
          · rw [pk_uLn (by omega), pk_uLn (by omega), pk_uLn (by omega), pk_uLn (by omega), pk_uLn (by omega), pk_uLn (by omega), pk_uLn (by omega), pk_uLn (by omega), pk_uLn (by omega)]
            exact hG d hd
theorem la_paintG {G : Nat → Int64} (hG : pu_given G) (ix uu vv ll : Int32) : pu_given (f_Mo_paint_1 G ix uu vv ll) := by
  unfold f_Mo_paint_1
  by_cases h0 : f_Mo_within ix 0 2 = 0
  · rw [if_pos h0]; exact hG
  · rw [if_neg h0]
    by_cases h1 : f_Mo_within uu (-131072) 131072 = 0
    · rw [if_pos h1]; exact hG
    · rw [if_neg h1]
      by_cases h2 : f_Mo_within vv (-131072) 131072 = 0
      · rw [if_pos h2]; exact hG
      · rw [if_neg h2]
        by_cases h3 : f_Mo_within ll 0 65536 = 0
        · rw [if_pos h3]; exact hG
        · rw [if_neg h3]
          obtain ⟨c, hc, rfl⟩ := mo_inN (M := 2) (n := 2) rfl (by decide) h0
          have a0 : ((6 * nI c) + 3).toNatClampNeg = 6 * c + 3 := la_ix (k := 3) hc (by decide)
          have a1 : ((6 * nI c) + 4).toNatClampNeg = 6 * c + 4 := la_ix (k := 4) hc (by decide)
          have a2 : ((6 * nI c) + 5).toNatClampNeg = 6 * c + 5 := la_ix (k := 5) hc (by decide)
          rw [a0, a1, a2]
          intro d hd
          rw [pk_uLn (by omega), pk_uLn (by omega), pk_uLn (by omega), pk_uLn (by omega), pk_uLn (by omega), pk_uLn (by omega), pk_uLn (by omega), pk_uLn (by omega), pk_uLn (by omega)]
          exact hG d hd
theorem la_le {i L : Nat} (hL : L ≤ 2562) (hi : i ≤ 2600) : (nI L - 5 < nI i) ↔ L < i + 5 := by
  rw [nk_set_5, Int32.lt_iff_toInt_lt, pk_sub_toInt (by omega) (by omega), nI_toInt (by omega)]
  omega
def la_cell (L : Nat) (xs : Nat → Int32) (k : Nat) : Int32 := if L ≤ k then 0 else xs k
theorem la_clamp (x : Int32) : ∃ n : Nat, 8 ≤ n ∧ n ≤ 48 ∧ mo_clamp x = nI n := by
  obtain ⟨-, h1, h2⟩ := in_clamp x
  obtain ⟨n, hn, e⟩ := nI_of (x := mo_clamp x) (by rw [Int32.lt_iff_toInt_lt, Int32.toInt_zero]; omega)
  rw [e, nI_toInt hn] at h1 h2
  exact ⟨n, by omega, by omega, e⟩
theorem la_given0 : pu_given (fun _ => 0) := by
  intro c hc
  have h : pu_in (0 : Int64) 16777216 := by unfold pu_in; rw [Int64.toInt_zero]; omega
  exact ⟨h, h, h⟩
theorem la_vok0 {S T : Nat → Nat} {P : Nat → Int64} : pu_vok 0 0 S T P := ⟨by decide, by decide, fun i hi => absurd hi (Nat.not_lt_zero i)⟩
theorem la_cl0 {pif : Nat → Int64} {faS faT faA : Nat → Int32} {S T : Nat → Nat} {P : Nat → Int64} : cl_rel (nI 0) pif (nI 0) faS faT faA 0 0 S T P := ⟨rfl, rfl, fun j hj => absurd hj (Nat.not_lt_zero j), la_vok0, fun i hi => absurd hi (Nat.not_lt_zero i)⟩
theorem la_mo0 {mpf mqf : Nat → Int64} {S T : Nat → Nat} {P : Nat → Int64} : mo_rel mpf mqf 0 0 S T P := ⟨la_vok0, fun i c k hi => absurd hi (Nat.not_lt_zero i), fun i hi => absurd hi (Nat.not_lt_zero i)⟩
/-- what cell asks: the script -/
abbrev rq_x (b L : Nat) (xs : Nat → Int32) (av : List Value) : Array Value → State → Prop := va_Pc av (fun U => va_X b L xs U U.heap)
theorem fb_x {b L : Nat} {xs : Nat → Int32} {av : List Value} : FrameBlind (rq_x b L xs av) := by
  intro a U g mk q
  obtain ⟨q0, qX⟩ := q
  exact ⟨q0, va_X.moved (u := U) (U := U.calling g mk a) (Vm.Alike.refl U.vm) qX⟩
theorem pre_x {b L : Nat} {xs : Nat → Int32} {av : List Value} {s : State} {H : Heap} (hX : va_X b L xs s H) : ∀ U : State, U.heap = H → s.WarmedH U.vm → rq_x b L xs av av.toArray U :=
  fun U hU hW => ⟨rfl, by show va_X b L xs U U.heap; rw [hU]; exact va_X.moved hW.alike hX⟩
set_option maxHeartbeats 4000000 in
set_option maxRecDepth 100000 in
theorem c_La_cell (l : Launch) (b L : Nat) (xs : Nat → Int32) (k : Nat) (hL : L ≤ 2562) (hk : k < 100) : Met l y_La_cell w_La_cell ({ frames := 0, cells := 0, slots := 0, locals := 0 } : Room) (rq_x b L xs [.ref b, .int (nI k)]) (vp_Si (fun r => r = la_cell L xs k)) 0 0 (fun _ => False) := by
  refine Met.ofW (cc := b_La_cell) (maxL := 2) (ret := (some .int)) (by decide) rfl ?_
  intro p e s m args below meth c s₁ B hml hv
  obtain ⟨rfl, hX⟩ := hv
  have hx := B.exec
  have hb := B.bytes
  have hr := B.returns
  have hlocks := B.notSynchronized
  have hbl : b < s.heap.size := by
    obtain ⟨scr, h1, -⟩ := hX
    exact (Array.getElem?_eq_some_iff.mp h1).1
  have hbA : ¬ (fun _ : Nat => False) b := fun q => q
  have hS : va_S (fun _ : Nat => False) s.heap s.heap [] := va_S.rf
  have hl := lv_entry ([.ref b, .int (nI k)]) (n := 2) (Nat.le_of_ble_eq_true rfl)
  rw [lg_entry_eq]
  generalize (lg_sl ([.ref b, .int (nI k)]) ++ List.replicate (2 - (lg_sl ([.ref b, .int (nI k)])).length) Slot.unset).toArray = ls at hl ⊢
  have hl : lv_has ls 2 [(0, .ref b), (1, .int (nI k))] := hl
  refine lv_iload_n hx hb d_La_cell_0 rfl (lv_at hl 1 rfl) ?_
  refine lv_aload_n hx hb d_La_cell_1 rfl (lv_at hl 0 rfl) ?_
  refine va_slen hx hb hX hbl hbA hS d_La_cell_2 ?_
  refine lv_icmp_ge (tgt := 12) hx hb d_La_cell_3 (by decide) (fun c_1 => ?_) (fun c_1 => ?_)
  · have c_1 : nI L ≤ nI k := c_1
    rw [nI_leI (by omega) (by omega)] at c_1
    refine lv_iconst (v := 0) hx hb d_La_cell_12 (by decide) ?_
    exact W.iret (v := 0) hx hb hr (fun t ht hW => ⟨_, rfl, by rw [la_cell, if_pos c_1], ht⟩) (fun q h => by cases h) d_La_cell_13
  · have c_1 : ¬ (nI L ≤ nI k) := c_1
    rw [nI_leI (by omega) (by omega)] at c_1
    refine lv_aload_n hx hb d_La_cell_6 rfl (lv_at hl 0 rfl) ?_
    refine lv_iload_n hx hb d_La_cell_7 rfl (lv_at hl 1 rfl) ?_
    refine va_sld hx hb hX hbl hbA hS (vp_in_nI (n := k) (by omega) (by omega)) d_La_cell_8 ?_
    refine lv_goto (tgt := 13) hx hb d_La_cell_9 (by decide) ?_
    exact W.iret hx hb hr (fun t ht hW => ⟨_, rfl, by rw [nI_clamp (by omega), la_cell, if_neg c_1], ht⟩) (fun q h => by cases h) d_La_cell_13
