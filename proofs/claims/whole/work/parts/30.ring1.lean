def f_Ri_has (rin : Int32) (ix : Int32) : Int32 := if ix < 0 then 0 else (if rin ≤ ix then 0 else (if 19 < rin then 0 else 1))
set_option maxHeartbeats 4000000 in
set_option maxRecDepth 100000 in
theorem c_Ri_has (l : Launch) (dC : Nat → ClassId) (dI : Nat → Nat → Nat) (cJ cI : ClassId) (ri : Nat) (ria : Nat) (rin : Int32) (rif : Nat → Int64) (ix : Int32) : Met l y_Ri_has w_Ri_has ({ frames := 0, cells := 0, slots := 0, locals := 0 } : Room) (rq_ro (dC, dI) cJ cI [.ref ri, .int ix] [(ri, .inr (1, [.ref ria, .int rin])), (ria, .inl (cJ, 114, .inr (.inl rif)))]) (vp_Si (fun r => r = f_Ri_has rin ix)) 0 0 (fun _ => False) := by
  refine Met.ofW (cc := b_Ri_has) (maxL := 2) (ret := (some .boolean)) (by decide) rfl ?_
  intro p e s m args below meth c s₁ B hml hv
  obtain ⟨rfl, hP, hK, hN⟩ := hv
  have hx := B.exec
  have hb := B.bytes
  have hr := B.returns
  have hts := atoms_spec (ws := w_Ri_has) B.pre
  have hown : s.vm.findClass R_Ri = some m.cls := findClass_of_methodNamed B.named
  have hlocks := B.notSynchronized
  have hl := lv_entry ([.ref ri, .int ix]) (n := 2) (Nat.le_of_ble_eq_true rfl)
  rw [lg_entry_eq]
  generalize (lg_sl ([.ref ri, .int ix]) ++ List.replicate (2 - (lg_sl ([.ref ri, .int ix])).length) Slot.unset).toArray = ls at hl ⊢
  have hl : lv_has ls 2 [(0, .ref ri), (1, .int ix)] := hl
  refine lv_iload_n hx hb d_Ri_has_0 rfl (lv_at hl 1 rfl) ?_
  refine lv_if_lt (tgt := 25) hx hb d_Ri_has_1 (by decide) (fun c_1 => ?_) (fun c_1 => ?_)
  · have c_1 : ix < 0 := c_1
    refine lv_iconst (v := 0) hx hb d_Ri_has_25 (by decide) ?_
    exact W.zret (v := 0) hx hb hr (by decide) (fun t ht hW => ⟨_, rfl, by rw [f_Ri_has, if_pos c_1], ht⟩) (fun q h => by cases h) d_Ri_has_26
  · have c_1 : ¬ (ix < 0) := c_1
    refine lv_iload_n hx hb d_Ri_has_4 rfl (lv_at hl 1 rfl) ?_
    refine lv_aload_n hx hb d_Ri_has_5 rfl (lv_at hl 0 rfl) ?_
    refine va_get (D := (dC, dI)) (ci := 1) (v := .int rin) (C := R_Ri) (T := F_Ri) (N := 2) hx hb hts (fun w h => mw (i_Ri w h)) hown hK hP 0 rfl rfl 1 (by decide) (hts _ (mw wd_61)) (fun _ h9 => h9) rfl d_Ri_has_6 ?_
    refine lv_icmp_ge (tgt := 25) hx hb d_Ri_has_9 (by decide) (fun c_2 => ?_) (fun c_2 => ?_)
    · have c_2 : rin ≤ ix := c_2
      refine lv_iconst (v := 0) hx hb d_Ri_has_25 (by decide) ?_
      exact W.zret (v := 0) hx hb hr (by decide) (fun t ht hW => ⟨_, rfl, by rw [f_Ri_has, if_neg c_1, if_pos c_2], ht⟩) (fun q h => by cases h) d_Ri_has_26
    · have c_2 : ¬ (rin ≤ ix) := c_2
      refine lv_aload_n hx hb d_Ri_has_12 rfl (lv_at hl 0 rfl) ?_
      refine va_get (D := (dC, dI)) (ci := 1) (v := .int rin) (C := R_Ri) (T := F_Ri) (N := 2) hx hb hts (fun w h => mw (i_Ri w h)) hown hK hP 0 rfl rfl 1 (by decide) (hts _ (mw wd_61)) (fun _ h9 => h9) rfl d_Ri_has_13 ?_
      refine lv_bipush (v := 19) hx hb d_Ri_has_16 (by decide) ?_
      refine lv_icmp_gt (tgt := 25) hx hb d_Ri_has_18 (by decide) (fun c_3 => ?_) (fun c_3 => ?_)
      · have c_3 : 19 < rin := c_3
        refine lv_iconst (v := 0) hx hb d_Ri_has_25 (by decide) ?_
        exact W.zret (v := 0) hx hb hr (by decide) (fun t ht hW => ⟨_, rfl, by rw [f_Ri_has, if_neg c_1, if_neg c_2, if_pos c_3], ht⟩) (fun q h => by cases h) d_Ri_has_26
      · have c_3 : ¬ (19 < rin) := c_3
        refine lv_iconst (v := 1) hx hb d_Ri_has_21 (by decide) ?_
        refine lv_goto (tgt := 26) hx hb d_Ri_has_22 (by decide) ?_
        exact W.zret (v := 1) hx hb hr (by decide) (fun t ht hW => ⟨_, rfl, by rw [f_Ri_has, if_neg c_1, if_neg c_2, if_neg c_3], ht⟩) (fun q h => by cases h) d_Ri_has_26
