def f_Mo_div (xx : Int64) (yy : Int64) : Int64 := if ((xx / yy) * yy) ≤ xx then (xx / yy) else ((xx / yy) - 1)
set_option maxHeartbeats 4000000 in
set_option maxRecDepth 100000 in
theorem c_Mo_div (l : Launch) (dC : Nat → ClassId) (dI : Nat → Nat → Nat) (cJ cI : ClassId) (xx : Int64) (yy : Int64) (hz : ¬ yy = 0) : Met l y_Mo_div w_Mo_div ({ frames := 0, cells := 0, slots := 0, locals := 0 } : Room) (rq_ro (dC, dI) cJ cI [.long xx, .long yy] []) (vp_Sl (fun r => r = f_Mo_div xx yy)) 0 0 (fun _ => False) := by
  refine Met.ofW (cc := b_Mo_div) (maxL := 6) (ret := (some .long)) (by decide) rfl ?_
  intro p e s m args below meth c s₁ B hml hv
  obtain ⟨rfl, hP, hK, hN⟩ := hv
  have hx := B.exec
  have hb := B.bytes
  have hr := B.returns
  have hts := atoms_spec (ws := w_Mo_div) B.pre
  have hown : s.vm.findClass R_Mo = some m.cls := findClass_of_methodNamed B.named
  have hlocks := B.notSynchronized
  have hl := lv_entry ([.long xx, .long yy]) (n := 6) (Nat.le_of_ble_eq_true rfl)
  rw [lg_entry_eq]
  generalize (lg_sl ([.long xx, .long yy]) ++ List.replicate (6 - (lg_sl ([.long xx, .long yy])).length) Slot.unset).toArray = ls at hl ⊢
  have hl : lv_has ls 6 [(0, .long xx), (2, .long yy)] := hl
  refine lv_lload_n hx hb d_Mo_div_0 rfl (lv_at hl 0 rfl) ?_
  refine lv_lload_n hx hb d_Mo_div_1 rfl (lv_at hl 1 rfl) ?_
  refine lv_ldiv hx hb d_Mo_div_2 hz ?_
  refine lv_topl (fun y_1 ey_1 => ?_)
  refine lv_lstore (lv' := [(4, .long y_1), (0, .long xx), (2, .long yy)]) hx hb d_Mo_div_3 hl (by decide) rfl (fun ls hl => ?_)
  refine lv_lload hx hb d_Mo_div_5 (lv_at hl 0 rfl) ?_
  refine lv_lload_n hx hb d_Mo_div_7 rfl (lv_at hl 2 rfl) ?_
  refine lv_lmul hx hb d_Mo_div_8 ?_
  refine lv_lload_n hx hb d_Mo_div_9 rfl (lv_at hl 1 rfl) ?_
  refine W.lcmp hx hb d_Mo_div_10 ?_
  refine lv_if_le (tgt := 21) hx hb d_Mo_div_11 (by decide) (fun c_2 => ?_) (fun c_2 => ?_)
  · rw [lg_cmp_le] at c_2
    have c_2 : (y_1 * yy) ≤ xx := c_2
    refine lv_lload hx hb d_Mo_div_21 (lv_at hl 0 rfl) ?_
    subst ey_1
    exact W.lret (v := xx / yy) hx hb hr (fun t ht hW => ⟨_, rfl, by rw [f_Mo_div, if_pos c_2], ht⟩) (fun q h => by cases h) d_Mo_div_23
  · rw [lg_cmp_le] at c_2
    have c_2 : ¬ ((y_1 * yy) ≤ xx) := c_2
    refine lv_lload hx hb d_Mo_div_14 (lv_at hl 0 rfl) ?_
    refine lv_lconst (v := 1) hx hb d_Mo_div_16 (by decide) ?_
    refine lv_lsub hx hb d_Mo_div_17 ?_
    refine lv_goto (tgt := 23) hx hb d_Mo_div_18 (by decide) ?_
    subst ey_1
    exact W.lret (v := (xx / yy) - 1) hx hb hr (fun t ht hW => ⟨_, rfl, by rw [f_Mo_div, if_neg c_2], ht⟩) (fun q h => by cases h) d_Mo_div_23
def f_Mo_within (va : Int32) (lo : Int32) (up : Int32) : Int32 := if va < lo then 0 else (if up < va then 0 else 1)
set_option maxHeartbeats 4000000 in
set_option maxRecDepth 100000 in
theorem c_Mo_within (l : Launch) (dC : Nat → ClassId) (dI : Nat → Nat → Nat) (cJ cI : ClassId) (va : Int32) (lo : Int32) (up : Int32) : Met l y_Mo_within w_Mo_within ({ frames := 0, cells := 0, slots := 0, locals := 0 } : Room) (rq_ro (dC, dI) cJ cI [.int va, .int lo, .int up] []) (vp_Si (fun r => r = f_Mo_within va lo up)) 0 0 (fun _ => False) := by
  refine Met.ofW (cc := b_Mo_within) (maxL := 3) (ret := (some .boolean)) (by decide) rfl ?_
  intro p e s m args below meth c s₁ B hml hv
  obtain ⟨rfl, hP, hK, hN⟩ := hv
  have hx := B.exec
  have hb := B.bytes
  have hr := B.returns
  have hts := atoms_spec (ws := w_Mo_within) B.pre
  have hown : s.vm.findClass R_Mo = some m.cls := findClass_of_methodNamed B.named
  have hlocks := B.notSynchronized
  have hl := lv_entry ([.int va, .int lo, .int up]) (n := 3) (Nat.le_of_ble_eq_true rfl)
  rw [lg_entry_eq]
  generalize (lg_sl ([.int va, .int lo, .int up]) ++ List.replicate (3 - (lg_sl ([.int va, .int lo, .int up])).length) Slot.unset).toArray = ls at hl ⊢
  have hl : lv_has ls 3 [(0, .int va), (1, .int lo), (2, .int up)] := hl
  refine lv_iload_n hx hb d_Mo_within_0 rfl (lv_at hl 0 rfl) ?_
  refine lv_iload_n hx hb d_Mo_within_1 rfl (lv_at hl 1 rfl) ?_
  refine lv_icmp_lt (tgt := 14) hx hb d_Mo_within_2 (by decide) (fun c_1 => ?_) (fun c_1 => ?_)
  · have c_1 : va < lo := c_1
    refine lv_iconst (v := 0) hx hb d_Mo_within_14 (by decide) ?_
    exact W.zret (v := 0) hx hb hr (by decide) (fun t ht hW => ⟨_, rfl, by rw [f_Mo_within, if_pos c_1], ht⟩) (fun q h => by cases h) d_Mo_within_15
  · have c_1 : ¬ (va < lo) := c_1
    refine lv_iload_n hx hb d_Mo_within_5 rfl (lv_at hl 0 rfl) ?_
    refine lv_iload_n hx hb d_Mo_within_6 rfl (lv_at hl 2 rfl) ?_
    refine lv_icmp_gt (tgt := 14) hx hb d_Mo_within_7 (by decide) (fun c_2 => ?_) (fun c_2 => ?_)
    · have c_2 : up < va := c_2
      refine lv_iconst (v := 0) hx hb d_Mo_within_14 (by decide) ?_
      exact W.zret (v := 0) hx hb hr (by decide) (fun t ht hW => ⟨_, rfl, by rw [f_Mo_within, if_neg c_1, if_pos c_2], ht⟩) (fun q h => by cases h) d_Mo_within_15
    · have c_2 : ¬ (up < va) := c_2
      refine lv_iconst (v := 1) hx hb d_Mo_within_10 (by decide) ?_
      refine lv_goto (tgt := 15) hx hb d_Mo_within_11 (by decide) ?_
      exact W.zret (v := 1) hx hb hr (by decide) (fun t ht hW => ⟨_, rfl, by rw [f_Mo_within, if_neg c_1, if_neg c_2], ht⟩) (fun q h => by cases h) d_Mo_within_15
