def f_Ma_floorDiv (xx : Int64) (yy : Int64) : Int64 := if 0 ≤ (xx ^^^ yy) then (xx / yy) else (if ((xx / yy) * yy) = xx then (xx / yy) else ((xx / yy) - 1))
set_option maxHeartbeats 4000000 in
set_option maxRecDepth 100000 in
theorem c_Ma_floorDiv (l : Launch) (dC : Nat → ClassId) (dI : Nat → Nat → Nat) (cJ cI : ClassId) (xx : Int64) (yy : Int64) (hz : ¬ yy = 0) : Met l y_Ma_floorDiv w_Ma_floorDiv ({ frames := 0, cells := 0, slots := 0, locals := 0 } : Room) (rq_ro (dC, dI) cJ cI [.long xx, .long yy] []) (vp_Sl (fun r => r = f_Ma_floorDiv xx yy)) 0 0 (fun _ => False) := by
  refine va_MetF (cc := b_Ma_floorDiv) (maxL := 6) (ret := (some .long)) (by decide +kernel) rfl ?_
  intro p e s m args below meth c s₁ B hml hv
  obtain ⟨rfl, hP, hK, hN⟩ := hv
  have hx := B.exec
  have hb := B.bytes
  have hr := B.returns
  have hts := atoms_spec (ws := w_Ma_floorDiv) B.pre
  have hown : s.vm.findClass R_Ma = some m.cls := findClass_of_methodNamed B.named
  have hlocks := B.notSynchronized
  have hl := lv_entry ([.long xx, .long yy]) (n := 6) (Nat.le_of_ble_eq_true rfl)
  rw [lg_entry_eq]
  generalize (lg_sl ([.long xx, .long yy]) ++ List.replicate (6 - (lg_sl ([.long xx, .long yy])).length) Slot.unset).toArray = ls at hl ⊢
  have hl : lv_has ls 6 [(0, .long xx), (2, .long yy)] := hl
  refine lv_lload_n hx hb d_Ma_floorDiv_0 rfl (lv_at hl 0 rfl) ?_
  refine lv_lload_n hx hb d_Ma_floorDiv_1 rfl (lv_at hl 1 rfl) ?_
  refine lv_ldiv hx hb d_Ma_floorDiv_2 hz ?_
  refine lv_topl (fun y_1 ey_1 => ?_)
  refine lv_lstore (lv' := [(4, .long y_1), (0, .long xx), (2, .long yy)]) hx hb d_Ma_floorDiv_3 hl (by decide) rfl (fun ls hl => ?_)
  refine lv_lload_n hx hb d_Ma_floorDiv_5 rfl (lv_at hl 1 rfl) ?_
  refine lv_lload_n hx hb d_Ma_floorDiv_6 rfl (lv_at hl 2 rfl) ?_
  refine lv_lxor hx hb d_Ma_floorDiv_7 ?_
  refine lv_lconst (v := 0) hx hb d_Ma_floorDiv_8 (by decide) ?_
  refine W.lcmp hx hb d_Ma_floorDiv_9 ?_
  refine lv_if_ge (tgt := 27) hx hb d_Ma_floorDiv_10 (by decide) (fun c_2 => ?_) (fun c_2 => ?_)
  · rw [lg_cmp_ge] at c_2
    have c_2 : 0 ≤ (xx ^^^ yy) := c_2
    refine lv_lload hx hb d_Ma_floorDiv_27 (lv_at hl 0 rfl) ?_
    subst ey_1
    exact W.lret (v := xx / yy) hx hb hr (fun t ht hW => ⟨_, rfl, by rw [f_Ma_floorDiv, if_pos c_2], ht⟩) (fun q h => by cases h) d_Ma_floorDiv_29
  · rw [lg_cmp_ge] at c_2
    have c_2 : ¬ (0 ≤ (xx ^^^ yy)) := c_2
    refine lv_lload hx hb d_Ma_floorDiv_13 (lv_at hl 0 rfl) ?_
    refine lv_lload_n hx hb d_Ma_floorDiv_15 rfl (lv_at hl 2 rfl) ?_
    refine lv_lmul hx hb d_Ma_floorDiv_16 ?_
    refine lv_lload_n hx hb d_Ma_floorDiv_17 rfl (lv_at hl 1 rfl) ?_
    refine W.lcmp hx hb d_Ma_floorDiv_18 ?_
    refine lv_if_eq (tgt := 27) hx hb d_Ma_floorDiv_19 (by decide) (fun c_3 => ?_) (fun c_3 => ?_)
    · rw [lg_cmp_eq] at c_3
      have c_3 : (y_1 * yy) = xx := c_3
      refine lv_lload hx hb d_Ma_floorDiv_27 (lv_at hl 0 rfl) ?_
      subst ey_1
      exact W.lret (v := xx / yy) hx hb hr (fun t ht hW => ⟨_, rfl, by rw [f_Ma_floorDiv, if_neg c_2, if_pos c_3], ht⟩) (fun q h => by cases h) d_Ma_floorDiv_29
    · rw [lg_cmp_eq] at c_3
      have c_3 : ¬ ((y_1 * yy) = xx) := c_3
      refine lv_lload hx hb d_Ma_floorDiv_22 (lv_at hl 0 rfl) ?_
      refine lv_lconst (v := 1) hx hb d_Ma_floorDiv_24 (by decide) ?_
      refine lv_lsub hx hb d_Ma_floorDiv_25 ?_
      subst ey_1
      exact W.lret (v := (xx / yy) - 1) hx hb hr (fun t ht hW => ⟨_, rfl, by rw [f_Ma_floorDiv, if_neg c_2, if_neg c_3], ht⟩) (fun q h => by cases h) d_Ma_floorDiv_26
def f_PC_div (xx : Int64) (yy : Int64) : Int64 := if yy = 0 then 0 else (f_Ma_floorDiv xx yy)
set_option maxHeartbeats 4000000 in
set_option maxRecDepth 100000 in
theorem c_PC_div (l : Launch) (dC : Nat → ClassId) (dI : Nat → Nat → Nat) (cJ cI : ClassId) (xx : Int64) (yy : Int64) : Met l y_PC_div w_PC_div ({ frames := 1, cells := 0, slots := 0, locals := 25 } : Room) (rq_ro (dC, dI) cJ cI [.long xx, .long yy] []) (vp_Sl (fun r => r = f_PC_div xx yy)) 0 0 (fun _ => False) := by
  refine Met.ofW (cc := b_PC_div) (maxL := 4) (ret := (some .long)) (by decide) rfl ?_
  intro p e s m args below meth c s₁ B hml hv
  obtain ⟨rfl, hP, hK, hN⟩ := hv
  have hx := B.exec
  have hb := B.bytes
  have hr := B.returns
  have hts := atoms_spec (ws := w_PC_div) B.pre
  have hown : s.vm.findClass R_PC = some m.cls := findClass_of_methodNamed B.named
  have hlocks := B.notSynchronized
  have hl := lv_entry ([.long xx, .long yy]) (n := 4) (Nat.le_of_ble_eq_true rfl)
  rw [lg_entry_eq]
  generalize (lg_sl ([.long xx, .long yy]) ++ List.replicate (4 - (lg_sl ([.long xx, .long yy])).length) Slot.unset).toArray = ls at hl ⊢
  have hl : lv_has ls 4 [(0, .long xx), (2, .long yy)] := hl
  refine lv_lload_n hx hb d_PC_div_0 rfl (lv_at hl 1 rfl) ?_
  refine lv_lconst (v := 0) hx hb d_PC_div_1 (by decide) ?_
  refine W.lcmp hx hb d_PC_div_2 ?_
  refine lv_if_ne (tgt := 10) hx hb d_PC_div_3 (by decide) (fun c_1 => ?_) (fun c_1 => ?_)
  · rw [lg_cmp_eq] at c_1
    have c_1 : ¬ (yy = 0) := c_1
    refine lv_lload_n hx hb d_PC_div_10 rfl (lv_at hl 0 rfl) ?_
    refine lv_lload_n hx hb d_PC_div_11 rfl (lv_at hl 1 rfl) ?_
    refine vp_callSl (va_Run.run (va_runS (As := [.long xx, .long yy]) (rest := []) ⟨hx, hb, hml, hown, hts⟩ (c_Ma_floorDiv l dC dI cJ cI xx yy c_1) (va_cwS 2 hts (gd_S wd_151 wd_152 wd_34 wd_153) rfl rfl rfl (by decide +kernel) ⟨Nat.le_of_ble_eq_true rfl, Nat.le_of_ble_eq_true rfl⟩) ⟨fb_ro, pre_ro hK hN va_nil⟩ rfl rfl hl.1 rfl (lv_room (Nat.le_of_ble_eq_true rfl)) d_PC_div_12 ⟨Nat.le_of_ble_eq_true rfl, Nat.le_of_ble_eq_true rfl⟩)) (fun r_2 er_2 => ?_)
    have er_2 : r_2 = f_Ma_floorDiv xx yy := er_2
    subst er_2
    exact W.lret (v := f_Ma_floorDiv xx yy) hx hb hr (fun t ht hW => ⟨_, rfl, by rw [f_PC_div, if_neg c_1], ht⟩) (fun q h => by cases h) d_PC_div_15
  · rw [lg_cmp_eq] at c_1
    have c_1 : yy = 0 := c_1
    refine lv_lconst (v := 0) hx hb d_PC_div_6 (by decide) ?_
    refine lv_goto (tgt := 15) hx hb d_PC_div_7 (by decide) ?_
    exact W.lret (v := 0) hx hb hr (fun t ht hW => ⟨_, rfl, by rw [f_PC_div, if_pos c_1], ht⟩) (fun q h => by cases h) d_PC_div_15
def f_PC_isPlace (va : Int32) : Int32 := if va < (-16777216) then 0 else (if 16777216 < va then 0 else 1)
set_option maxHeartbeats 4000000 in
set_option maxRecDepth 100000 in
theorem c_PC_isPlace (l : Launch) (dC : Nat → ClassId) (dI : Nat → Nat → Nat) (cJ cI : ClassId) (va : Int32) : Met l y_PC_isPlace w_PC_isPlace ({ frames := 0, cells := 0, slots := 0, locals := 0 } : Room) (rq_ro (dC, dI) cJ cI [.int va] []) (vp_Si (fun r => r = f_PC_isPlace va)) 0 0 (fun _ => False) := by
  refine Met.ofW (cc := b_PC_isPlace) (maxL := 1) (ret := (some .boolean)) (by decide) rfl ?_
  intro p e s m args below meth c s₁ B hml hv
  obtain ⟨rfl, hP, hK, hN⟩ := hv
  have hx := B.exec
  have hb := B.bytes
  have hr := B.returns
  have hts := atoms_spec (ws := w_PC_isPlace) B.pre
  have hown : s.vm.findClass R_PC = some m.cls := findClass_of_methodNamed B.named
  have hlocks := B.notSynchronized
  have hl := lv_entry ([.int va]) (n := 1) (Nat.le_of_ble_eq_true rfl)
  rw [lg_entry_eq]
  generalize (lg_sl ([.int va]) ++ List.replicate (1 - (lg_sl ([.int va])).length) Slot.unset).toArray = ls at hl ⊢
  have hl : lv_has ls 1 [(0, .int va)] := hl
  refine lv_iload_n hx hb d_PC_isPlace_0 rfl (lv_at hl 0 rfl) ?_
  refine lv_ldc hx hb hown (hts _ (mw wd_110)) d_PC_isPlace_1 ?_
  refine lv_icmp_lt (tgt := 16) hx hb d_PC_isPlace_3 (by decide) (fun c_1 => ?_) (fun c_1 => ?_)
  · have c_1 : va < (-16777216) := c_1
    refine lv_iconst (v := 0) hx hb d_PC_isPlace_16 (by decide) ?_
    exact W.zret (v := 0) hx hb hr (by decide) (fun t ht hW => ⟨_, rfl, by rw [f_PC_isPlace, if_pos c_1], ht⟩) (fun q h => by cases h) d_PC_isPlace_17
  · have c_1 : ¬ (va < (-16777216)) := c_1
    refine lv_iload_n hx hb d_PC_isPlace_6 rfl (lv_at hl 0 rfl) ?_
    refine lv_ldc hx hb hown (hts _ (mw wd_111)) d_PC_isPlace_7 ?_
    refine lv_icmp_gt (tgt := 16) hx hb d_PC_isPlace_9 (by decide) (fun c_2 => ?_) (fun c_2 => ?_)
    · have c_2 : 16777216 < va := c_2
      refine lv_iconst (v := 0) hx hb d_PC_isPlace_16 (by decide) ?_
      exact W.zret (v := 0) hx hb hr (by decide) (fun t ht hW => ⟨_, rfl, by rw [f_PC_isPlace, if_neg c_1, if_pos c_2], ht⟩) (fun q h => by cases h) d_PC_isPlace_17
    · have c_2 : ¬ (16777216 < va) := c_2
      refine lv_iconst (v := 1) hx hb d_PC_isPlace_12 (by decide) ?_
      refine lv_goto (tgt := 17) hx hb d_PC_isPlace_13 (by decide) ?_
      exact W.zret (v := 1) hx hb hr (by decide) (fun t ht hW => ⟨_, rfl, by rw [f_PC_isPlace, if_neg c_1, if_neg c_2], ht⟩) (fun q h => by cases h) d_PC_isPlace_17
def f_PC_isPaint (va : Int32) : Int32 := if va < (-131072) then 0 else (if 131072 < va then 0 else 1)
set_option maxHeartbeats 4000000 in
set_option maxRecDepth 100000 in
theorem c_PC_isPaint (l : Launch) (dC : Nat → ClassId) (dI : Nat → Nat → Nat) (cJ cI : ClassId) (va : Int32) : Met l y_PC_isPaint w_PC_isPaint ({ frames := 0, cells := 0, slots := 0, locals := 0 } : Room) (rq_ro (dC, dI) cJ cI [.int va] []) (vp_Si (fun r => r = f_PC_isPaint va)) 0 0 (fun _ => False) := by
  refine Met.ofW (cc := b_PC_isPaint) (maxL := 1) (ret := (some .boolean)) (by decide) rfl ?_
  intro p e s m args below meth c s₁ B hml hv
  obtain ⟨rfl, hP, hK, hN⟩ := hv
  have hx := B.exec
  have hb := B.bytes
  have hr := B.returns
  have hts := atoms_spec (ws := w_PC_isPaint) B.pre
  have hown : s.vm.findClass R_PC = some m.cls := findClass_of_methodNamed B.named
  have hlocks := B.notSynchronized
  have hl := lv_entry ([.int va]) (n := 1) (Nat.le_of_ble_eq_true rfl)
  rw [lg_entry_eq]
  generalize (lg_sl ([.int va]) ++ List.replicate (1 - (lg_sl ([.int va])).length) Slot.unset).toArray = ls at hl ⊢
  have hl : lv_has ls 1 [(0, .int va)] := hl
  refine lv_iload_n hx hb d_PC_isPaint_0 rfl (lv_at hl 0 rfl) ?_
  refine lv_ldc hx hb hown (hts _ (mw wd_122)) d_PC_isPaint_1 ?_
  refine lv_icmp_lt (tgt := 16) hx hb d_PC_isPaint_3 (by decide) (fun c_1 => ?_) (fun c_1 => ?_)
  · have c_1 : va < (-131072) := c_1
    refine lv_iconst (v := 0) hx hb d_PC_isPaint_16 (by decide) ?_
    exact W.zret (v := 0) hx hb hr (by decide) (fun t ht hW => ⟨_, rfl, by rw [f_PC_isPaint, if_pos c_1], ht⟩) (fun q h => by cases h) d_PC_isPaint_17
  · have c_1 : ¬ (va < (-131072)) := c_1
    refine lv_iload_n hx hb d_PC_isPaint_6 rfl (lv_at hl 0 rfl) ?_
    refine lv_ldc hx hb hown (hts _ (mw wd_123)) d_PC_isPaint_7 ?_
    refine lv_icmp_gt (tgt := 16) hx hb d_PC_isPaint_9 (by decide) (fun c_2 => ?_) (fun c_2 => ?_)
    · have c_2 : 131072 < va := c_2
      refine lv_iconst (v := 0) hx hb d_PC_isPaint_16 (by decide) ?_
      exact W.zret (v := 0) hx hb hr (by decide) (fun t ht hW => ⟨_, rfl, by rw [f_PC_isPaint, if_neg c_1, if_pos c_2], ht⟩) (fun q h => by cases h) d_PC_isPaint_17
    · have c_2 : ¬ (131072 < va) := c_2
      refine lv_iconst (v := 1) hx hb d_PC_isPaint_12 (by decide) ?_
      refine lv_goto (tgt := 17) hx hb d_PC_isPaint_13 (by decide) ?_
      exact W.zret (v := 1) hx hb hr (by decide) (fun t ht hW => ⟨_, rfl, by rw [f_PC_isPaint, if_neg c_1, if_neg c_2], ht⟩) (fun q h => by cases h) d_PC_isPaint_17
def f_PC_pictureSize (va : Int32) : Int32 := (if 8 < (if va < 48 then va else 48) then (if va < 48 then va else 48) else 8)
set_option maxHeartbeats 4000000 in
set_option maxRecDepth 100000 in
theorem c_PC_pictureSize (l : Launch) (dC : Nat → ClassId) (dI : Nat → Nat → Nat) (cJ cI : ClassId) (va : Int32) : Met l y_PC_pictureSize w_PC_pictureSize ({ frames := 1, cells := 0, slots := 0, locals := 40 } : Room) (rq_ro (dC, dI) cJ cI [.int va] []) (vp_Si (fun r => r = f_PC_pictureSize va)) 0 0 (fun _ => False) := by
  refine Met.ofW (cc := b_PC_pictureSize) (maxL := 1) (ret := (some .int)) (by decide) rfl ?_
  intro p e s m args below meth c s₁ B hml hv
  obtain ⟨rfl, hP, hK, hN⟩ := hv
  have hx := B.exec
  have hb := B.bytes
  have hr := B.returns
  have hts := atoms_spec (ws := w_PC_pictureSize) B.pre
  have hown : s.vm.findClass R_PC = some m.cls := findClass_of_methodNamed B.named
  have hlocks := B.notSynchronized
  have hl := lv_entry ([.int va]) (n := 1) (Nat.le_of_ble_eq_true rfl)
  rw [lg_entry_eq]
  generalize (lg_sl ([.int va]) ++ List.replicate (1 - (lg_sl ([.int va])).length) Slot.unset).toArray = ls at hl ⊢
  have hl : lv_has ls 1 [(0, .int va)] := hl
  refine lv_bipush (v := 8) hx hb d_PC_pictureSize_0 (by decide) ?_
  refine lv_bipush (v := 48) hx hb d_PC_pictureSize_2 (by decide) ?_
  refine lv_iload_n hx hb d_PC_pictureSize_4 rfl (lv_at hl 0 rfl) ?_
  refine va_mmin hx hb (by rw [hml]; exact hl.1.symm) hown (hts _ (mw wd_49)) (hts _ (mw wd_50)) (hts _ (mw wd_34)) (hts _ (mw wd_51)) (Nat.le_of_ble_eq_true rfl) (Nat.le_of_ble_eq_true rfl) (Nat.le_of_ble_eq_true rfl) (Nat.le_of_ble_eq_true rfl) d_PC_pictureSize_5 ?_
  refine va_mmax hx hb (by rw [hml]; exact hl.1.symm) hown (hts _ (mw wd_52)) (hts _ (mw wd_53)) (hts _ (mw wd_34)) (hts _ (mw wd_54)) (Nat.le_of_ble_eq_true rfl) (Nat.le_of_ble_eq_true rfl) (Nat.le_of_ble_eq_true rfl) (Nat.le_of_ble_eq_true rfl) d_PC_pictureSize_8 ?_
  exact W.iret (v := (if 8 < (if va < 48 then va else 48) then (if va < 48 then va else 48) else 8)) hx hb hr (fun t ht hW => ⟨_, rfl, rfl, ht⟩) (fun q h => by cases h) d_PC_pictureSize_11
def f_PC_cornerAfter (co : Int32) : Int32 := if 2 ≤ co then 0 else (co + 1)
set_option maxHeartbeats 4000000 in
set_option maxRecDepth 100000 in
theorem c_PC_cornerAfter (l : Launch) (dC : Nat → ClassId) (dI : Nat → Nat → Nat) (cJ cI : ClassId) (co : Int32) : Met l y_PC_cornerAfter w_PC_cornerAfter ({ frames := 0, cells := 0, slots := 0, locals := 0 } : Room) (rq_ro (dC, dI) cJ cI [.int co] []) (vp_Si (fun r => r = f_PC_cornerAfter co)) 0 0 (fun _ => False) := by
  refine Met.ofW (cc := b_PC_cornerAfter) (maxL := 1) (ret := (some .int)) (by decide) rfl ?_
  intro p e s m args below meth c s₁ B hml hv
  obtain ⟨rfl, hP, hK, hN⟩ := hv
  have hx := B.exec
  have hb := B.bytes
  have hr := B.returns
  have hts := atoms_spec (ws := w_PC_cornerAfter) B.pre
  have hown : s.vm.findClass R_PC = some m.cls := findClass_of_methodNamed B.named
  have hlocks := B.notSynchronized
  have hl := lv_entry ([.int co]) (n := 1) (Nat.le_of_ble_eq_true rfl)
  rw [lg_entry_eq]
  generalize (lg_sl ([.int co]) ++ List.replicate (1 - (lg_sl ([.int co])).length) Slot.unset).toArray = ls at hl ⊢
  have hl : lv_has ls 1 [(0, .int co)] := hl
  refine lv_iload_n hx hb d_PC_cornerAfter_0 rfl (lv_at hl 0 rfl) ?_
  refine lv_iconst (v := 2) hx hb d_PC_cornerAfter_1 (by decide) ?_
  refine lv_icmp_ge (tgt := 11) hx hb d_PC_cornerAfter_2 (by decide) (fun c_1 => ?_) (fun c_1 => ?_)
  · have c_1 : 2 ≤ co := c_1
    refine lv_iconst (v := 0) hx hb d_PC_cornerAfter_11 (by decide) ?_
    exact W.iret (v := 0) hx hb hr (fun t ht hW => ⟨_, rfl, by rw [f_PC_cornerAfter, if_pos c_1], ht⟩) (fun q h => by cases h) d_PC_cornerAfter_12
  · have c_1 : ¬ (2 ≤ co) := c_1
    refine lv_iload_n hx hb d_PC_cornerAfter_5 rfl (lv_at hl 0 rfl) ?_
    refine lv_iconst (v := 1) hx hb d_PC_cornerAfter_6 (by decide) ?_
    refine lv_iadd hx hb d_PC_cornerAfter_7 ?_
    refine lv_goto (tgt := 12) hx hb d_PC_cornerAfter_8 (by decide) ?_
    exact W.iret (v := co + 1) hx hb hr (fun t ht hW => ⟨_, rfl, by rw [f_PC_cornerAfter, if_neg c_1], ht⟩) (fun q h => by cases h) d_PC_cornerAfter_12
def f_PC_middle (va : Int32) : Int64 := (16 * va.toInt64) + 8
set_option maxHeartbeats 4000000 in
set_option maxRecDepth 100000 in
theorem c_PC_middle (l : Launch) (dC : Nat → ClassId) (dI : Nat → Nat → Nat) (cJ cI : ClassId) (va : Int32) : Met l y_PC_middle w_PC_middle ({ frames := 0, cells := 0, slots := 0, locals := 0 } : Room) (rq_ro (dC, dI) cJ cI [.int va] []) (vp_Sl (fun r => r = f_PC_middle va)) 0 0 (fun _ => False) := by
  refine Met.ofW (cc := b_PC_middle) (maxL := 1) (ret := (some .long)) (by decide) rfl ?_
  intro p e s m args below meth c s₁ B hml hv
  obtain ⟨rfl, hP, hK, hN⟩ := hv
  have hx := B.exec
  have hb := B.bytes
  have hr := B.returns
  have hts := atoms_spec (ws := w_PC_middle) B.pre
  have hown : s.vm.findClass R_PC = some m.cls := findClass_of_methodNamed B.named
  have hlocks := B.notSynchronized
  have hl := lv_entry ([.int va]) (n := 1) (Nat.le_of_ble_eq_true rfl)
  rw [lg_entry_eq]
  generalize (lg_sl ([.int va]) ++ List.replicate (1 - (lg_sl ([.int va])).length) Slot.unset).toArray = ls at hl ⊢
  have hl : lv_has ls 1 [(0, .int va)] := hl
  refine lv_ldc2 hx hb hown (hts _ (mw wd_157)) d_PC_middle_0 ?_
  refine lv_iload_n hx hb d_PC_middle_3 rfl (lv_at hl 0 rfl) ?_
  refine lv_i2l hx hb d_PC_middle_4 rfl ?_
  refine lv_lmul hx hb d_PC_middle_5 ?_
  refine lv_ldc2 hx hb hown (hts _ (mw wd_158)) d_PC_middle_6 ?_
  refine lv_ladd hx hb d_PC_middle_9 ?_
  exact W.lret (v := (16 * va.toInt64) + 8) hx hb hr (fun t ht hW => ⟨_, rfl, rfl, ht⟩) (fun q h => by cases h) d_PC_middle_10
