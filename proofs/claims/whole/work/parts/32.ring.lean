def f_Ri_at (rin : Int32) (rif : Nat → Int64) (ix : Int32) (wh : Int32) : Int64 := if (f_Ri_has rin ix) = 0 then 0 else (if wh < 0 then 0 else (if 6 ≤ wh then 0 else (rif ((ix * 6) + wh).toNatClampNeg)))
set_option maxHeartbeats 4000000 in
set_option maxRecDepth 100000 in
theorem c_Ri_at (l : Launch) (dC : Nat → ClassId) (dI : Nat → Nat → Nat) (cJ cI : ClassId) (ri : Nat) (ria : Nat) (rin : Int32) (rif : Nat → Int64) (ix : Int32) (wh : Int32) : Met l y_Ri_at w_Ri_at ({ frames := 1, cells := 0, slots := 0, locals := 21 } : Room) (rq_ro (dC, dI) cJ cI [.ref ri, .int ix, .int wh] [(ri, .inr (1, [.ref ria, .int rin])), (ria, .inl (cJ, 114, .inr (.inl rif)))]) (vp_Sl (fun r => r = f_Ri_at rin rif ix wh)) 0 0 (fun _ => False) := by
  refine Met.ofW (cc := b_Ri_at) (maxL := 3) (ret := (some .long)) (by decide) rfl ?_
  intro p e s m args below meth c s₁ B hml hv
  obtain ⟨rfl, hP, hK, hN⟩ := hv
  have hx := B.exec
  have hb := B.bytes
  have hr := B.returns
  have hts := atoms_spec (ws := w_Ri_at) B.pre
  have hown : s.vm.findClass R_Ri = some m.cls := findClass_of_methodNamed B.named
  have hlocks := B.notSynchronized
  have hl := lv_entry ([.ref ri, .int ix, .int wh]) (n := 3) (Nat.le_of_ble_eq_true rfl)
  rw [lg_entry_eq]
  generalize (lg_sl ([.ref ri, .int ix, .int wh]) ++ List.replicate (3 - (lg_sl ([.ref ri, .int ix, .int wh])).length) Slot.unset).toArray = ls at hl ⊢
  have hl : lv_has ls 3 [(0, .ref ri), (1, .int ix), (2, .int wh)] := hl
  refine lv_aload_n hx hb d_Ri_at_0 rfl (lv_at hl 0 rfl) ?_
  refine lv_iload_n hx hb d_Ri_at_1 rfl (lv_at hl 1 rfl) ?_
  have hPc := hP
  refine vp_callSi (va_Run.run (va_runV (As := [.int ix]) (rest := []) ⟨hx, hb, hml, hown, hts⟩ (c_Ri_has l dC dI cJ cI ri ria rin rif ix) (cwV 1 hts (gd_V wd_114 wd_105 wd_1 wd_35 wd_106) rfl rfl rfl (by decide +kernel) ⟨Nat.le_of_ble_eq_true rfl, Nat.le_of_ble_eq_true rfl⟩) ⟨fb_ro, va_recv hK hPc (ci := 1) (q0 := 0) rfl rfl, pre_ro hK hN hPc⟩ rfl rfl hl.1 rfl (lv_room (Nat.le_of_ble_eq_true rfl)) d_Ri_at_2 ⟨Nat.le_of_ble_eq_true rfl, Nat.le_of_ble_eq_true rfl⟩)) (fun r_1 er_1 => ?_)
  have er_1 : r_1 = f_Ri_has rin ix := er_1
  refine lv_if_eq (tgt := 32) hx hb d_Ri_at_5 (by decide) (fun c_2 => ?_) (fun c_2 => ?_)
  · have c_2 : r_1 = 0 := c_2
    refine lv_lconst (v := 0) hx hb d_Ri_at_32 (by decide) ?_
    subst er_1
    exact W.lret (v := 0) hx hb hr (fun t ht hW => ⟨_, rfl, by rw [f_Ri_at, if_pos c_2], ht⟩) (fun q h => by cases h) d_Ri_at_33
  · have c_2 : ¬ (r_1 = 0) := c_2
    refine lv_iload_n hx hb d_Ri_at_8 rfl (lv_at hl 2 rfl) ?_
    refine lv_if_lt (tgt := 32) hx hb d_Ri_at_9 (by decide) (fun c_3 => ?_) (fun c_3 => ?_)
    · have c_3 : wh < 0 := c_3
      refine lv_lconst (v := 0) hx hb d_Ri_at_32 (by decide) ?_
      subst er_1
      exact W.lret (v := 0) hx hb hr (fun t ht hW => ⟨_, rfl, by rw [f_Ri_at, if_neg c_2, if_pos c_3], ht⟩) (fun q h => by cases h) d_Ri_at_33
    · have c_3 : ¬ (wh < 0) := c_3
      refine lv_iload_n hx hb d_Ri_at_12 rfl (lv_at hl 2 rfl) ?_
      refine lv_bipush (v := 6) hx hb d_Ri_at_13 (by decide) ?_
      refine lv_icmp_ge (tgt := 32) hx hb d_Ri_at_15 (by decide) (fun c_4 => ?_) (fun c_4 => ?_)
      · have c_4 : 6 ≤ wh := c_4
        refine lv_lconst (v := 0) hx hb d_Ri_at_32 (by decide) ?_
        subst er_1
        exact W.lret (v := 0) hx hb hr (fun t ht hW => ⟨_, rfl, by rw [f_Ri_at, if_neg c_2, if_neg c_3, if_pos c_4], ht⟩) (fun q h => by cases h) d_Ri_at_33
      · have c_4 : ¬ (6 ≤ wh) := c_4
        refine lv_aload_n hx hb d_Ri_at_18 rfl (lv_at hl 0 rfl) ?_
        refine va_get (D := (dC, dI)) (ci := 1) (v := .ref ria) (C := R_Ri) (T := F_Ri) (N := 2) hx hb hts (fun w h => mw (i_Ri w h)) hown hK hP 0 rfl rfl 0 (by decide) (hts _ (mw wd_60)) (fun _ h9 => h9) rfl d_Ri_at_19 ?_
        refine lv_iload_n hx hb d_Ri_at_22 rfl (lv_at hl 1 rfl) ?_
        refine lv_bipush (v := 6) hx hb d_Ri_at_23 (by decide) ?_
        refine lv_imul hx hb d_Ri_at_25 ?_
        refine lv_iload_n hx hb d_Ri_at_26 rfl (lv_at hl 2 rfl) ?_
        refine lv_iadd hx hb d_Ri_at_27 ?_
        have hi_6 : vp_in ((ix * 6) + wh) 114 := ri_in (by rw [← er_1]; exact c_2) c_3 c_4
        refine va_lald hx hb hK hP 1 0 rfl rfl hi_6 d_Ri_at_28 ?_
        refine lv_topl (fun y_7 ey_7 => ?_)
        refine lv_goto (tgt := 33) hx hb d_Ri_at_29 (by decide) ?_
        subst er_1
        subst ey_7
        exact W.lret (v := rif ((ix * 6) + wh).toNatClampNeg) hx hb hr (fun t ht hW => ⟨_, rfl, by rw [f_Ri_at, if_neg c_2, if_neg c_3, if_neg c_4], ht⟩) (fun q h => by cases h) d_Ri_at_33
def f_Ri_put_1 (rin : Int32) (rif : Nat → Int64) (ix : Int32) (wh : Int32) (va : Int64) : Nat → Int64 := if (f_Ri_has rin ix) = 0 then rif else (if wh < 0 then rif else (if 6 ≤ wh then rif else (vp_updL rif ((ix * 6) + wh).toNatClampNeg va)))
set_option maxHeartbeats 4000000 in
set_option maxRecDepth 100000 in
theorem c_Ri_put (l : Launch) (dC : Nat → ClassId) (dI : Nat → Nat → Nat) (cJ cI : ClassId) (sz : Nat) (ri : Nat) (ria : Nat) (rin : Int32) (rif : Nat → Int64) (ix : Int32) (wh : Int32) (va : Int64) : Met l y_Ri_put w_Ri_put ({ frames := 1, cells := 0, slots := 0, locals := 21 } : Room) (rq_rw (dC, dI) cJ cI sz [.ref ri, .int ix, .int wh, .long va] [(ri, .inr (1, [.ref ria, .int rin])), (ria, .inl (cJ, 114, .inr (.inl rif)))]) (va_Qv (fun _ : Unit => True) (rz (dC, dI) (va_A [(ri, .inr (1, [.ref ria, .int rin])), (ria, .inl (cJ, 114, .inr (.inl rif)))] sz) [(ri, .inr (1, [.ref ria, .int rin])), (ria, .inl (cJ, 114, .inr (.inl (f_Ri_put_1 rin rif ix wh va))))]) (va_A [(ri, .inr (1, [.ref ria, .int rin])), (ria, .inl (cJ, 114, .inr (.inl rif)))] sz)) 0 0 (va_A [(ri, .inr (1, [.ref ria, .int rin])), (ria, .inl (cJ, 114, .inr (.inl rif)))] sz) := by
  refine Met.ofW (cc := b_Ri_put) (maxL := 5) (ret := none) (by decide) rfl ?_
  intro p e s m args below meth c s₁ B hml hv
  obtain ⟨rfl, hsz, hP, hK, hN, hD0⟩ := hv
  have hx := B.exec
  have hb := B.bytes
  have hr := B.returns
  have hts := atoms_spec (ws := w_Ri_put) B.pre
  have hown : s.vm.findClass R_Ri = some m.cls := findClass_of_methodNamed B.named
  have hlocks := B.notSynchronized
  subst hsz
  have hD := hD0.self (sz := s.heap.size)
  generalize hAe : va_A [(ri, .inr (1, [.ref ria, .int rin])), (ria, .inl (cJ, 114, .inr (.inl rif)))] s.heap.size = A at hD ⊢
  have hA : ∀ q : Nat, s.heap.size ≤ q → A q := fun q h => by rw [← hAe]; exact Or.inr h
  have hS : va_S A s.heap s.heap [] := va_S.rf
  have hl := lv_entry ([.ref ri, .int ix, .int wh, .long va]) (n := 5) (Nat.le_of_ble_eq_true rfl)
  rw [lg_entry_eq]
  generalize (lg_sl ([.ref ri, .int ix, .int wh, .long va]) ++ List.replicate (5 - (lg_sl ([.ref ri, .int ix, .int wh, .long va])).length) Slot.unset).toArray = ls at hl ⊢
  have hl : lv_has ls 5 [(0, .ref ri), (1, .int ix), (2, .int wh), (3, .long va)] := hl
  have hP : va_P (dC, dI) cls4 [(ri, .inr (1, [.ref ria, .int rin])), (ria, .inl (cJ, 114, .inr (.inl rif)))] s.heap := hP
  refine lv_aload_n hx hb d_Ri_put_0 rfl (lv_at hl 0 rfl) ?_
  refine lv_iload_n hx hb d_Ri_put_1 rfl (lv_at hl 1 rfl) ?_
  have hPc := hP
  refine vp_callSi (va_Run.run (va_runV (As := [.int ix]) (rest := []) ⟨hx, hb, hml, hown, hts⟩ (c_Ri_has l dC dI cJ cI ri ria rin rif ix) (cwV 1 hts (gd_V wd_114 wd_105 wd_1 wd_35 wd_106) rfl rfl rfl (by decide +kernel) ⟨Nat.le_of_ble_eq_true rfl, Nat.le_of_ble_eq_true rfl⟩) ⟨fb_ro, va_recv hK hPc (ci := 1) (q0 := 0) rfl rfl, pre_ro hK hN hPc⟩ rfl rfl hl.1 rfl (lv_room (Nat.le_of_ble_eq_true rfl)) d_Ri_put_2 ⟨Nat.le_of_ble_eq_true rfl, Nat.le_of_ble_eq_true rfl⟩)) (fun r_1 er_1 => ?_)
  have er_1 : r_1 = f_Ri_has rin ix := er_1
  refine lv_if_eq (tgt := 30) hx hb d_Ri_put_5 (by decide) (fun c_2 => ?_) (fun c_2 => ?_)
  · have c_2 : r_1 = 0 := c_2
    subst er_1
    have ew_3 : f_Ri_put_1 rin rif ix wh va = rif := by rw [f_Ri_put_1, if_pos c_2]
    exact W.vret hx hb hr (fun t ht hW => ⟨⟨(), rfl, trivial, by rw [ht, ew_3]; exact hP, by rw [ew_3]; exact hD⟩, hS.F ht⟩) hS.2.2 d_Ri_put_30
  · have c_2 : ¬ (r_1 = 0) := c_2
    refine lv_iload_n hx hb d_Ri_put_8 rfl (lv_at hl 2 rfl) ?_
    refine lv_if_lt (tgt := 30) hx hb d_Ri_put_9 (by decide) (fun c_4 => ?_) (fun c_4 => ?_)
    · have c_4 : wh < 0 := c_4
      subst er_1
      have ew_5 : f_Ri_put_1 rin rif ix wh va = rif := by rw [f_Ri_put_1, if_neg c_2, if_pos c_4]
      exact W.vret hx hb hr (fun t ht hW => ⟨⟨(), rfl, trivial, by rw [ht, ew_5]; exact hP, by rw [ew_5]; exact hD⟩, hS.F ht⟩) hS.2.2 d_Ri_put_30
    · have c_4 : ¬ (wh < 0) := c_4
      refine lv_iload_n hx hb d_Ri_put_12 rfl (lv_at hl 2 rfl) ?_
      refine lv_bipush (v := 6) hx hb d_Ri_put_13 (by decide) ?_
      refine lv_icmp_ge (tgt := 30) hx hb d_Ri_put_15 (by decide) (fun c_6 => ?_) (fun c_6 => ?_)
      · have c_6 : 6 ≤ wh := c_6
        subst er_1
        have ew_7 : f_Ri_put_1 rin rif ix wh va = rif := by rw [f_Ri_put_1, if_neg c_2, if_neg c_4, if_pos c_6]
        exact W.vret hx hb hr (fun t ht hW => ⟨⟨(), rfl, trivial, by rw [ht, ew_7]; exact hP, by rw [ew_7]; exact hD⟩, hS.F ht⟩) hS.2.2 d_Ri_put_30
      · have c_6 : ¬ (6 ≤ wh) := c_6
        refine lv_aload_n hx hb d_Ri_put_18 rfl (lv_at hl 0 rfl) ?_
        refine va_get (D := (dC, dI)) (ci := 1) (v := .ref ria) (C := R_Ri) (T := F_Ri) (N := 2) hx hb hts (fun w h => mw (i_Ri w h)) hown hK hP 0 rfl rfl 0 (by decide) (hts _ (mw wd_60)) (fun _ h9 => h9) rfl d_Ri_put_19 ?_
        refine lv_iload_n hx hb d_Ri_put_22 rfl (lv_at hl 1 rfl) ?_
        refine lv_bipush (v := 6) hx hb d_Ri_put_23 (by decide) ?_
        refine lv_imul hx hb d_Ri_put_25 ?_
        refine lv_iload_n hx hb d_Ri_put_26 rfl (lv_at hl 2 rfl) ?_
        refine lv_iadd hx hb d_Ri_put_27 ?_
        refine lv_lload_n hx hb d_Ri_put_28 rfl (lv_at hl 3 rfl) ?_
        have hi_9 : vp_in ((ix * 6) + wh) 114 := ri_in (by rw [← er_1]; exact c_2) c_4 c_6
        refine va_last hx hb hK hP hD hS 1 0 rfl rfl hi_9 d_Ri_put_29 (fun H locs hP hD hS => ?_)
        have hP : va_P (dC, dI) cls4 [(ri, .inr (1, [.ref ria, .int rin])), (ria, .inl (cJ, 114, .inr (.inl (vp_updL rif ((ix * 6) + wh).toNatClampNeg va))))] H := hP
        have hD : va_D A [(ri, .inr (1, [.ref ria, .int rin])), (ria, .inl (cJ, 114, .inr (.inl (vp_updL rif ((ix * 6) + wh).toNatClampNeg va))))] := hD
        subst er_1
        have ew_10 : f_Ri_put_1 rin rif ix wh va = vp_updL rif ((ix * 6) + wh).toNatClampNeg va := by rw [f_Ri_put_1, if_neg c_2, if_neg c_4, if_neg c_6]
        exact W.vret hx hb hr (fun t ht hW => ⟨⟨(), rfl, trivial, by rw [ht, ew_10]; exact hP, by rw [ew_10]; exact hD⟩, hS.F ht⟩) hS.2.2 d_Ri_put_30
set_option maxHeartbeats 4000000 in
set_option maxRecDepth 100000 in
theorem c_Ri_clear (l : Launch) (dC : Nat → ClassId) (dI : Nat → Nat → Nat) (cJ cI : ClassId) (sz : Nat) (ri : Nat) (ria : Nat) (rin : Int32) (rif : Nat → Int64) : Met l y_Ri_clear w_Ri_clear ({ frames := 0, cells := 0, slots := 0, locals := 0 } : Room) (rq_rw (dC, dI) cJ cI sz [.ref ri] [(ri, .inr (1, [.ref ria, .int rin])), (ria, .inl (cJ, 114, .inr (.inl rif)))]) (va_Qv (fun _ : Unit => True) (rz (dC, dI) (va_A [(ri, .inr (1, [.ref ria, .int rin])), (ria, .inl (cJ, 114, .inr (.inl rif)))] sz) [(ri, .inr (1, [.ref ria, .int 0])), (ria, .inl (cJ, 114, .inr (.inl rif)))]) (va_A [(ri, .inr (1, [.ref ria, .int rin])), (ria, .inl (cJ, 114, .inr (.inl rif)))] sz)) 0 0 (va_A [(ri, .inr (1, [.ref ria, .int rin])), (ria, .inl (cJ, 114, .inr (.inl rif)))] sz) := by
  refine Met.ofW (cc := b_Ri_clear) (maxL := 1) (ret := none) (by decide) rfl ?_
  intro p e s m args below meth c s₁ B hml hv
  obtain ⟨rfl, hsz, hP, hK, hN, hD0⟩ := hv
  have hx := B.exec
  have hb := B.bytes
  have hr := B.returns
  have hts := atoms_spec (ws := w_Ri_clear) B.pre
  have hown : s.vm.findClass R_Ri = some m.cls := findClass_of_methodNamed B.named
  have hlocks := B.notSynchronized
  subst hsz
  have hD := hD0.self (sz := s.heap.size)
  generalize hAe : va_A [(ri, .inr (1, [.ref ria, .int rin])), (ria, .inl (cJ, 114, .inr (.inl rif)))] s.heap.size = A at hD ⊢
  have hA : ∀ q : Nat, s.heap.size ≤ q → A q := fun q h => by rw [← hAe]; exact Or.inr h
  have hS : va_S A s.heap s.heap [] := va_S.rf
  have hl := lv_entry ([.ref ri]) (n := 1) (Nat.le_of_ble_eq_true rfl)
  rw [lg_entry_eq]
  generalize (lg_sl ([.ref ri]) ++ List.replicate (1 - (lg_sl ([.ref ri])).length) Slot.unset).toArray = ls at hl ⊢
  have hl : lv_has ls 1 [(0, .ref ri)] := hl
  have hP : va_P (dC, dI) cls4 [(ri, .inr (1, [.ref ria, .int rin])), (ria, .inl (cJ, 114, .inr (.inl rif)))] s.heap := hP
  refine lv_aload_n hx hb d_Ri_clear_0 rfl (lv_at hl 0 rfl) ?_
  refine lv_iconst (v := 0) hx hb d_Ri_clear_1 (by decide) ?_
  refine va_put (D := (dC, dI)) (ci := 1) (v := .int 0) (ty := .int) (C := R_Ri) (T := F_Ri) (N := 2) hx hb hts (fun w h => mw (i_Ri w h)) t_Ri t_Ri_ok n_Ri hown hK hP hD hS 0 rfl rfl 1 (by decide) (hts _ (mw wd_61)) (fun _ h9 => h9) rfl (by decide +kernel) rfl rfl (Nat.le_of_ble_eq_true rfl) d_Ri_clear_2 (fun H locs hP hD hS => ?_)
  have hP : va_P (dC, dI) cls4 [(ri, .inr (1, [.ref ria, .int 0])), (ria, .inl (cJ, 114, .inr (.inl rif)))] H := hP
  have hD : va_D A [(ri, .inr (1, [.ref ria, .int 0])), (ria, .inl (cJ, 114, .inr (.inl rif)))] := hD
  exact W.vret hx hb hr (fun t ht hW => ⟨⟨(), rfl, trivial, by rw [ht]; exact hP, by exact hD⟩, hS.F ht⟩) hS.2.2 d_Ri_clear_5
def f_Ri_addRow_r (rin : Int32) : Int32 := if rin < 19 then ((rin + 1) - 1) else (-1)
def f_Ri_addRow_0_1 (rin : Int32) : Int32 := if rin < 19 then (rin + 1) else rin
set_option maxHeartbeats 4000000 in
set_option maxRecDepth 100000 in
theorem c_Ri_addRow (l : Launch) (dC : Nat → ClassId) (dI : Nat → Nat → Nat) (cJ cI : ClassId) (sz : Nat) (ri : Nat) (ria : Nat) (rin : Int32) (rif : Nat → Int64) : Met l y_Ri_addRow w_Ri_addRow ({ frames := 0, cells := 0, slots := 0, locals := 0 } : Room) (rq_rw (dC, dI) cJ cI sz [.ref ri] [(ri, .inr (1, [.ref ria, .int rin])), (ria, .inl (cJ, 114, .inr (.inl rif)))]) (va_Qi (fun (r : Int32) (_ : Unit) => r = f_Ri_addRow_r rin) (rz (dC, dI) (va_A [(ri, .inr (1, [.ref ria, .int rin])), (ria, .inl (cJ, 114, .inr (.inl rif)))] sz) [(ri, .inr (1, [.ref ria, .int (f_Ri_addRow_0_1 rin)])), (ria, .inl (cJ, 114, .inr (.inl rif)))]) (va_A [(ri, .inr (1, [.ref ria, .int rin])), (ria, .inl (cJ, 114, .inr (.inl rif)))] sz)) 0 0 (va_A [(ri, .inr (1, [.ref ria, .int rin])), (ria, .inl (cJ, 114, .inr (.inl rif)))] sz) := by
  refine Met.ofW (cc := b_Ri_addRow) (maxL := 1) (ret := (some .int)) (by decide) rfl ?_
  intro p e s m args below meth c s₁ B hml hv
  obtain ⟨rfl, hsz, hP, hK, hN, hD0⟩ := hv
  have hx := B.exec
  have hb := B.bytes
  have hr := B.returns
  have hts := atoms_spec (ws := w_Ri_addRow) B.pre
  have hown : s.vm.findClass R_Ri = some m.cls := findClass_of_methodNamed B.named
  have hlocks := B.notSynchronized
  subst hsz
  have hD := hD0.self (sz := s.heap.size)
  generalize hAe : va_A [(ri, .inr (1, [.ref ria, .int rin])), (ria, .inl (cJ, 114, .inr (.inl rif)))] s.heap.size = A at hD ⊢
  have hA : ∀ q : Nat, s.heap.size ≤ q → A q := fun q h => by rw [← hAe]; exact Or.inr h
  have hS : va_S A s.heap s.heap [] := va_S.rf
  have hl := lv_entry ([.ref ri]) (n := 1) (Nat.le_of_ble_eq_true rfl)
  rw [lg_entry_eq]
  generalize (lg_sl ([.ref ri]) ++ List.replicate (1 - (lg_sl ([.ref ri])).length) Slot.unset).toArray = ls at hl ⊢
  have hl : lv_has ls 1 [(0, .ref ri)] := hl
  have hP : va_P (dC, dI) cls4 [(ri, .inr (1, [.ref ria, .int rin])), (ria, .inl (cJ, 114, .inr (.inl rif)))] s.heap := hP
  refine lv_aload_n hx hb d_Ri_addRow_0 rfl (lv_at hl 0 rfl) ?_
  refine va_get (D := (dC, dI)) (ci := 1) (v := .int rin) (C := R_Ri) (T := F_Ri) (N := 2) hx hb hts (fun w h => mw (i_Ri w h)) hown hK hP 0 rfl rfl 1 (by decide) (hts _ (mw wd_61)) (fun _ h9 => h9) rfl d_Ri_addRow_1 ?_
  refine lv_bipush (v := 19) hx hb d_Ri_addRow_4 (by decide) ?_
  refine lv_icmp_lt (tgt := 11) hx hb d_Ri_addRow_6 (by decide) (fun c_1 => ?_) (fun c_1 => ?_)
  · have c_1 : rin < 19 := c_1
    refine lv_aload_n hx hb d_Ri_addRow_11 rfl (lv_at hl 0 rfl) ?_
    refine lv_dup hx hb d_Ri_addRow_12 rfl ?_
    refine va_get (D := (dC, dI)) (ci := 1) (v := .int rin) (C := R_Ri) (T := F_Ri) (N := 2) hx hb hts (fun w h => mw (i_Ri w h)) hown hK hP 0 rfl rfl 1 (by decide) (hts _ (mw wd_61)) (fun _ h9 => h9) rfl d_Ri_addRow_13 ?_
    refine lv_iconst (v := 1) hx hb d_Ri_addRow_16 (by decide) ?_
    refine lv_iadd hx hb d_Ri_addRow_17 ?_
    refine lv_topi (fun y_2 ey_2 => ?_)
    refine va_put (D := (dC, dI)) (ci := 1) (v := .int y_2) (ty := .int) (C := R_Ri) (T := F_Ri) (N := 2) hx hb hts (fun w h => mw (i_Ri w h)) t_Ri t_Ri_ok n_Ri hown hK hP hD hS 0 rfl rfl 1 (by decide) (hts _ (mw wd_61)) (fun _ h9 => h9) rfl (by decide +kernel) rfl rfl (Nat.le_of_ble_eq_true rfl) d_Ri_addRow_18 (fun H locs hP hD hS => ?_)
    have hP : va_P (dC, dI) cls4 [(ri, .inr (1, [.ref ria, .int y_2])), (ria, .inl (cJ, 114, .inr (.inl rif)))] H := hP
    have hD : va_D A [(ri, .inr (1, [.ref ria, .int y_2])), (ria, .inl (cJ, 114, .inr (.inl rif)))] := hD
    refine lv_aload_n hx hb d_Ri_addRow_21 rfl (lv_at hl 0 rfl) ?_
    refine va_get (D := (dC, dI)) (ci := 1) (v := .int y_2) (C := R_Ri) (T := F_Ri) (N := 2) hx hb hts (fun w h => mw (i_Ri w h)) hown hK hP 0 rfl rfl 1 (by decide) (hts _ (mw wd_61)) (fun _ h9 => h9) rfl d_Ri_addRow_22 ?_
    refine lv_iconst (v := 1) hx hb d_Ri_addRow_25 (by decide) ?_
    refine lv_isub hx hb d_Ri_addRow_26 ?_
    subst ey_2
    have ew_3 : f_Ri_addRow_r rin = (rin + 1) - 1 := by rw [f_Ri_addRow_r, if_pos c_1]
    have ew_4 : f_Ri_addRow_0_1 rin = rin + 1 := by rw [f_Ri_addRow_0_1, if_pos c_1]
    exact W.iret (v := (rin + 1) - 1) hx hb hr (fun t ht hW => ⟨⟨_, (), rfl, by rw [f_Ri_addRow_r, if_pos c_1], by rw [ht, ew_4]; exact hP, by rw [ew_4]; exact hD⟩, hS.F ht⟩) hS.2.2 d_Ri_addRow_27
  · have c_1 : ¬ (rin < 19) := c_1
    refine lv_iconst (v := (-1)) hx hb d_Ri_addRow_9 (by decide) ?_
    have ew_5 : f_Ri_addRow_r rin = (-1) := by rw [f_Ri_addRow_r, if_neg c_1]
    have ew_6 : f_Ri_addRow_0_1 rin = rin := by rw [f_Ri_addRow_0_1, if_neg c_1]
    exact W.iret (v := (-1)) hx hb hr (fun t ht hW => ⟨⟨_, (), rfl, by rw [f_Ri_addRow_r, if_neg c_1], by rw [ht, ew_6]; exact hP, by rw [ew_6]; exact hD⟩, hS.F ht⟩) hS.2.2 d_Ri_addRow_10
def f_Ri_addCopy_1 (rin : Int32) (rif : Nat → Int64) (otn : Int32) (otf : Nat → Int64) (ix : Int32) : Nat → Int64 := f_Ri_put_1 (f_Ri_addRow_0_1 rin) (f_Ri_put_1 (f_Ri_addRow_0_1 rin) (f_Ri_put_1 (f_Ri_addRow_0_1 rin) (f_Ri_put_1 (f_Ri_addRow_0_1 rin) (f_Ri_put_1 (f_Ri_addRow_0_1 rin) (f_Ri_put_1 (f_Ri_addRow_0_1 rin) rif (f_Ri_addRow_r rin) 0 (f_Ri_at otn otf ix 0)) (f_Ri_addRow_r rin) 1 (f_Ri_at otn otf ix 1)) (f_Ri_addRow_r rin) 2 (f_Ri_at otn otf ix 2)) (f_Ri_addRow_r rin) 3 (f_Ri_at otn otf ix 3)) (f_Ri_addRow_r rin) 4 (f_Ri_at otn otf ix 4)) (f_Ri_addRow_r rin) 5 (f_Ri_at otn otf ix 5)
set_option maxHeartbeats 4000000 in
set_option maxRecDepth 100000 in
theorem c_Ri_addCopy (l : Launch) (dC : Nat → ClassId) (dI : Nat → Nat → Nat) (cJ cI : ClassId) (sz : Nat) (ri : Nat) (ria : Nat) (rin : Int32) (rif : Nat → Int64) (ot : Nat) (ota : Nat) (otn : Int32) (otf : Nat → Int64) (ix : Int32) : Met l y_Ri_addCopy w_Ri_addCopy ({ frames := 2, cells := 0, slots := 0, locals := 45 } : Room) (rq_rw (dC, dI) cJ cI sz [.ref ri, .ref ot, .int ix] [(ri, .inr (1, [.ref ria, .int rin])), (ria, .inl (cJ, 114, .inr (.inl rif))), (ot, .inr (1, [.ref ota, .int otn])), (ota, .inl (cJ, 114, .inr (.inl otf)))]) (va_Qv (fun _ : Unit => True) (rz (dC, dI) (va_A [(ri, .inr (1, [.ref ria, .int rin])), (ria, .inl (cJ, 114, .inr (.inl rif))), (ot, .inr (1, [.ref ota, .int otn])), (ota, .inl (cJ, 114, .inr (.inl otf)))] sz) [(ri, .inr (1, [.ref ria, .int (f_Ri_addRow_0_1 rin)])), (ria, .inl (cJ, 114, .inr (.inl (f_Ri_addCopy_1 rin rif otn otf ix)))), (ot, .inr (1, [.ref ota, .int otn])), (ota, .inl (cJ, 114, .inr (.inl otf)))]) (va_A [(ri, .inr (1, [.ref ria, .int rin])), (ria, .inl (cJ, 114, .inr (.inl rif))), (ot, .inr (1, [.ref ota, .int otn])), (ota, .inl (cJ, 114, .inr (.inl otf)))] sz)) 0 0 (va_A [(ri, .inr (1, [.ref ria, .int rin])), (ria, .inl (cJ, 114, .inr (.inl rif))), (ot, .inr (1, [.ref ota, .int otn])), (ota, .inl (cJ, 114, .inr (.inl otf)))] sz) := by
  refine Met.ofW (cc := b_Ri_addCopy) (maxL := 5) (ret := none) (by decide) rfl ?_
  intro p e s m args below meth c s₁ B hml hv
  obtain ⟨rfl, hsz, hP, hK, hN, hD0⟩ := hv
  have hx := B.exec
  have hb := B.bytes
  have hr := B.returns
  have hts := atoms_spec (ws := w_Ri_addCopy) B.pre
  have hown : s.vm.findClass R_Ri = some m.cls := findClass_of_methodNamed B.named
  have hlocks := B.notSynchronized
  subst hsz
  have hD := hD0.self (sz := s.heap.size)
  generalize hAe : va_A [(ri, .inr (1, [.ref ria, .int rin])), (ria, .inl (cJ, 114, .inr (.inl rif))), (ot, .inr (1, [.ref ota, .int otn])), (ota, .inl (cJ, 114, .inr (.inl otf)))] s.heap.size = A at hD ⊢
  have hA : ∀ q : Nat, s.heap.size ≤ q → A q := fun q h => by rw [← hAe]; exact Or.inr h
  have hS : va_S A s.heap s.heap [] := va_S.rf
  have hl := lv_entry ([.ref ri, .ref ot, .int ix]) (n := 5) (Nat.le_of_ble_eq_true rfl)
  rw [lg_entry_eq]
  generalize (lg_sl ([.ref ri, .ref ot, .int ix]) ++ List.replicate (5 - (lg_sl ([.ref ri, .ref ot, .int ix])).length) Slot.unset).toArray = ls at hl ⊢
  have hl : lv_has ls 5 [(0, .ref ri), (1, .ref ot), (2, .int ix)] := hl
  have hP : va_P (dC, dI) cls4 [(ri, .inr (1, [.ref ria, .int rin])), (ria, .inl (cJ, 114, .inr (.inl rif))), (ot, .inr (1, [.ref ota, .int otn])), (ota, .inl (cJ, 114, .inr (.inl otf)))] s.heap := hP
  refine lv_aload_n hx hb d_Ri_addCopy_0 rfl (lv_at hl 0 rfl) ?_
  have hPc := hP.sub (ws' := [(ri, .inr (1, [.ref ria, .int rin])), (ria, .inl (cJ, 114, .inr (.inl rif)))]) [0, 1] rfl
  have hDc := hD.sub (ws' := [(ri, .inr (1, [.ref ria, .int rin])), (ria, .inl (cJ, 114, .inr (.inl rif)))]) [0, 1] (by decide) rfl
  have hFc := va_free (wc := [(ri, .inr (1, [.ref ria, .int rin])), (ria, .inl (cJ, 114, .inr (.inl rif)))]) hD hS hA [0, 1] rfl
  refine va_calli (va_runV (As := []) (rest := []) ⟨hx, hb, hml, hown, hts⟩ (c_Ri_addRow l dC dI cJ cI s.heap.size ri ria rin rif) (cwV 0 hts (gd_V wd_133 wd_65 wd_0 wd_35 wd_66) rfl rfl rfl (by decide +kernel) ⟨Nat.le_of_ble_eq_true rfl, Nat.le_of_ble_eq_true rfl⟩) ⟨fb_rw, va_recv hK hPc (ci := 1) (q0 := 0) rfl rfl, pre_rw hK hN hPc hDc⟩ rfl rfl hl.1 rfl (lv_room (Nat.le_of_ble_eq_true rfl)) d_Ri_addCopy_1 ⟨Nat.le_of_ble_eq_true rfl, Nat.le_of_ble_eq_true rfl⟩) hS (fun q _ h => hFc q h) hFc (fun r_1 u t H locs ht hvm hw hB hz1 hk1 hS => ?_)
  obtain ⟨hP1, hD1⟩ := hB
  rw [ht] at hP1
  obtain ⟨hP, hD⟩ := va_join (wr := [(ot, .inr (1, [.ref ota, .int otn])), (ota, .inl (cJ, 114, .inr (.inl otf)))]) (w1 := [(ri, .inr (1, [.ref ria, .int (f_Ri_addRow_0_1 rin)])), (ria, .inl (cJ, 114, .inr (.inl rif)))]) hP hD [0, 1] [2, 3] rfl rfl (by decide) (by decide) hk1 hFc hP1 hD1
  have er_1 := hw
  have er_1 : r_1 = f_Ri_addRow_r rin := er_1
  have hP : va_P (dC, dI) cls4 [(ri, .inr (1, [.ref ria, .int (f_Ri_addRow_0_1 rin)])), (ria, .inl (cJ, 114, .inr (.inl rif))), (ot, .inr (1, [.ref ota, .int otn])), (ota, .inl (cJ, 114, .inr (.inl otf)))] H := hP.sub [2, 3, 0, 1] rfl
  have hD : va_D A [(ri, .inr (1, [.ref ria, .int (f_Ri_addRow_0_1 rin)])), (ria, .inl (cJ, 114, .inr (.inl rif))), (ot, .inr (1, [.ref ota, .int otn])), (ota, .inl (cJ, 114, .inr (.inl otf)))] := hD.sub [2, 3, 0, 1] (by decide) rfl
  refine lv_istore_n (lv' := [(3, .int r_1), (0, .ref ri), (1, .ref ot), (2, .int ix)]) hx hb d_Ri_addCopy_4 rfl hl (by decide) rfl (fun ls hl => ?_)
  refine lv_iconst (v := 0) hx hb d_Ri_addCopy_5 (by decide) ?_
  refine lv_istore (lv' := [(4, .int 0), (3, .int r_1), (0, .ref ri), (1, .ref ot), (2, .int ix)]) hx hb d_Ri_addCopy_6 hl (by decide) rfl (fun ls hl => ?_)
  refine lv_iload hx hb d_Ri_addCopy_8 (lv_at hl 0 rfl) ?_
  refine lv_bipush (v := 6) hx hb d_Ri_addCopy_10 (by decide) ?_
  refine lv_icmp_ge (tgt := 35) hx hb d_Ri_addCopy_12 (by decide) (fun c_2 => absurd c_2 (by decide)) (fun _ => ?_)
  refine lv_aload_n hx hb d_Ri_addCopy_15 rfl (lv_at hl 2 rfl) ?_
  refine lv_iload_n hx hb d_Ri_addCopy_16 rfl (lv_at hl 1 rfl) ?_
  refine lv_iload hx hb d_Ri_addCopy_17 (lv_at hl 0 rfl) ?_
  refine lv_aload_n hx hb d_Ri_addCopy_19 rfl (lv_at hl 3 rfl) ?_
  refine lv_iload_n hx hb d_Ri_addCopy_20 rfl (lv_at hl 4 rfl) ?_
  refine lv_iload hx hb d_Ri_addCopy_21 (lv_at hl 0 rfl) ?_
  have hPc := hP.sub (ws' := [(ot, .inr (1, [.ref ota, .int otn])), (ota, .inl (cJ, 114, .inr (.inl otf)))]) [2, 3] rfl
  refine vp_callSl (va_Run.run (va_runV (As := [.int ix, .int 0]) (rest := [.int 0, .int r_1, .ref ri]) ⟨hx, hb, hml, hown, hts⟩ (c_Ri_at l dC dI cJ cI ot ota otn otf ix 0) (cwV 2 hts (gd_V wd_134 wd_135 wd_5 wd_35 wd_136) rfl rfl rfl (by decide +kernel) ⟨Nat.le_of_ble_eq_true rfl, Nat.le_of_ble_eq_true rfl⟩) ⟨fb_ro, va_recv hK hPc (ci := 1) (q0 := 0) rfl rfl, pre_ro hK hN hPc⟩ rfl rfl hl.1 rfl (lv_room (Nat.le_of_ble_eq_true rfl)) d_Ri_addCopy_23 ⟨Nat.le_of_ble_eq_true rfl, Nat.le_of_ble_eq_true rfl⟩)) (fun r_3 er_3 => ?_)
  have er_3 : r_3 = f_Ri_at otn otf ix 0 := er_3
  have hPc := hP.sub (ws' := [(ri, .inr (1, [.ref ria, .int (f_Ri_addRow_0_1 rin)])), (ria, .inl (cJ, 114, .inr (.inl rif)))]) [0, 1] rfl
  have hDc := hD.sub (ws' := [(ri, .inr (1, [.ref ria, .int (f_Ri_addRow_0_1 rin)])), (ria, .inl (cJ, 114, .inr (.inl rif)))]) [0, 1] (by decide) rfl
  have hFc := va_free (wc := [(ri, .inr (1, [.ref ria, .int (f_Ri_addRow_0_1 rin)])), (ria, .inl (cJ, 114, .inr (.inl rif)))]) hD hS hA [0, 1] rfl
  refine va_callv (va_runV (As := [.int r_1, .int 0, .long r_3]) (rest := []) ⟨hx, hb, hml, hown, hts⟩ (c_Ri_put l dC dI cJ cI H.size ri ria (f_Ri_addRow_0_1 rin) rif r_1 0 r_3) (cwV 3 hts (gd_V wd_137 wd_112 wd_2 wd_35 wd_113) rfl rfl rfl (by decide +kernel) ⟨Nat.le_of_ble_eq_true rfl, Nat.le_of_ble_eq_true rfl⟩) ⟨fb_rw, va_recv hK hPc (ci := 1) (q0 := 0) rfl rfl, pre_rw hK hN hPc hDc⟩ rfl rfl hl.1 rfl (lv_room (Nat.le_of_ble_eq_true rfl)) d_Ri_addCopy_26 ⟨Nat.le_of_ble_eq_true rfl, Nat.le_of_ble_eq_true rfl⟩) hS (fun q _ h => hFc q h) hFc (fun u t H locs ht hvm hw hB hz1 hk1 hS => ?_)
  obtain ⟨hP1, hD1⟩ := hB
  rw [ht] at hP1
  obtain ⟨hP, hD⟩ := va_join (wr := [(ot, .inr (1, [.ref ota, .int otn])), (ota, .inl (cJ, 114, .inr (.inl otf)))]) (w1 := [(ri, .inr (1, [.ref ria, .int (f_Ri_addRow_0_1 rin)])), (ria, .inl (cJ, 114, .inr (.inl (f_Ri_put_1 (f_Ri_addRow_0_1 rin) rif r_1 0 r_3))))]) hP hD [0, 1] [2, 3] rfl rfl (by decide) (by decide) hk1 hFc hP1 hD1
  have hP : va_P (dC, dI) cls4 [(ri, .inr (1, [.ref ria, .int (f_Ri_addRow_0_1 rin)])), (ria, .inl (cJ, 114, .inr (.inl (f_Ri_put_1 (f_Ri_addRow_0_1 rin) rif r_1 0 r_3)))), (ot, .inr (1, [.ref ota, .int otn])), (ota, .inl (cJ, 114, .inr (.inl otf)))] H := hP.sub [2, 3, 0, 1] rfl
  have hD : va_D A [(ri, .inr (1, [.ref ria, .int (f_Ri_addRow_0_1 rin)])), (ria, .inl (cJ, 114, .inr (.inl (f_Ri_put_1 (f_Ri_addRow_0_1 rin) rif r_1 0 r_3)))), (ot, .inr (1, [.ref ota, .int otn])), (ota, .inl (cJ, 114, .inr (.inl otf)))] := hD.sub [2, 3, 0, 1] (by decide) rfl
  refine lv_iinc (v := 1) (lv' := [(4, .int 1), (3, .int r_1), (0, .ref ri), (1, .ref ot), (2, .int ix)]) hx hb d_Ri_addCopy_29 hl (k := 0) rfl (by decide) (by decide) rfl (fun ls hl => ?_)
  refine lv_goto (tgt := 8) hx hb d_Ri_addCopy_32 (by decide) ?_
  refine lv_iload hx hb d_Ri_addCopy_8 (lv_at hl 0 rfl) ?_
  refine lv_bipush (v := 6) hx hb d_Ri_addCopy_10 (by decide) ?_
  refine lv_icmp_ge (tgt := 35) hx hb d_Ri_addCopy_12 (by decide) (fun c_4 => absurd c_4 (by decide)) (fun _ => ?_)
  refine lv_aload_n hx hb d_Ri_addCopy_15 rfl (lv_at hl 2 rfl) ?_
  refine lv_iload_n hx hb d_Ri_addCopy_16 rfl (lv_at hl 1 rfl) ?_
  refine lv_iload hx hb d_Ri_addCopy_17 (lv_at hl 0 rfl) ?_
  refine lv_aload_n hx hb d_Ri_addCopy_19 rfl (lv_at hl 3 rfl) ?_
  refine lv_iload_n hx hb d_Ri_addCopy_20 rfl (lv_at hl 4 rfl) ?_
  refine lv_iload hx hb d_Ri_addCopy_21 (lv_at hl 0 rfl) ?_
  have hPc := hP.sub (ws' := [(ot, .inr (1, [.ref ota, .int otn])), (ota, .inl (cJ, 114, .inr (.inl otf)))]) [2, 3] rfl
  refine vp_callSl (va_Run.run (va_runV (As := [.int ix, .int 1]) (rest := [.int 1, .int r_1, .ref ri]) ⟨hx, hb, hml, hown, hts⟩ (c_Ri_at l dC dI cJ cI ot ota otn otf ix 1) (cwV 2 hts (gd_V wd_134 wd_135 wd_5 wd_35 wd_136) rfl rfl rfl (by decide +kernel) ⟨Nat.le_of_ble_eq_true rfl, Nat.le_of_ble_eq_true rfl⟩) ⟨fb_ro, va_recv hK hPc (ci := 1) (q0 := 0) rfl rfl, pre_ro hK hN hPc⟩ rfl rfl hl.1 rfl (lv_room (Nat.le_of_ble_eq_true rfl)) d_Ri_addCopy_23 ⟨Nat.le_of_ble_eq_true rfl, Nat.le_of_ble_eq_true rfl⟩)) (fun r_5 er_5 => ?_)
  have er_5 : r_5 = f_Ri_at otn otf ix 1 := er_5
  have hPc := hP.sub (ws' := [(ri, .inr (1, [.ref ria, .int (f_Ri_addRow_0_1 rin)])), (ria, .inl (cJ, 114, .inr (.inl (f_Ri_put_1 (f_Ri_addRow_0_1 rin) rif r_1 0 r_3))))]) [0, 1] rfl
  have hDc := hD.sub (ws' := [(ri, .inr (1, [.ref ria, .int (f_Ri_addRow_0_1 rin)])), (ria, .inl (cJ, 114, .inr (.inl (f_Ri_put_1 (f_Ri_addRow_0_1 rin) rif r_1 0 r_3))))]) [0, 1] (by decide) rfl
  have hFc := va_free (wc := [(ri, .inr (1, [.ref ria, .int (f_Ri_addRow_0_1 rin)])), (ria, .inl (cJ, 114, .inr (.inl (f_Ri_put_1 (f_Ri_addRow_0_1 rin) rif r_1 0 r_3))))]) hD hS hA [0, 1] rfl
  refine va_callv (va_runV (As := [.int r_1, .int 1, .long r_5]) (rest := []) ⟨hx, hb, hml, hown, hts⟩ (c_Ri_put l dC dI cJ cI H.size ri ria (f_Ri_addRow_0_1 rin) (f_Ri_put_1 (f_Ri_addRow_0_1 rin) rif r_1 0 r_3) r_1 1 r_5) (cwV 3 hts (gd_V wd_137 wd_112 wd_2 wd_35 wd_113) rfl rfl rfl (by decide +kernel) ⟨Nat.le_of_ble_eq_true rfl, Nat.le_of_ble_eq_true rfl⟩) ⟨fb_rw, va_recv hK hPc (ci := 1) (q0 := 0) rfl rfl, pre_rw hK hN hPc hDc⟩ rfl rfl hl.1 rfl (lv_room (Nat.le_of_ble_eq_true rfl)) d_Ri_addCopy_26 ⟨Nat.le_of_ble_eq_true rfl, Nat.le_of_ble_eq_true rfl⟩) hS (fun q _ h => hFc q h) hFc (fun u t H locs ht hvm hw hB hz1 hk1 hS => ?_)
  obtain ⟨hP1, hD1⟩ := hB
  rw [ht] at hP1
  obtain ⟨hP, hD⟩ := va_join (wr := [(ot, .inr (1, [.ref ota, .int otn])), (ota, .inl (cJ, 114, .inr (.inl otf)))]) (w1 := [(ri, .inr (1, [.ref ria, .int (f_Ri_addRow_0_1 rin)])), (ria, .inl (cJ, 114, .inr (.inl (f_Ri_put_1 (f_Ri_addRow_0_1 rin) (f_Ri_put_1 (f_Ri_addRow_0_1 rin) rif r_1 0 r_3) r_1 1 r_5))))]) hP hD [0, 1] [2, 3] rfl rfl (by decide) (by decide) hk1 hFc hP1 hD1
  have hP : va_P (dC, dI) cls4 [(ri, .inr (1, [.ref ria, .int (f_Ri_addRow_0_1 rin)])), (ria, .inl (cJ, 114, .inr (.inl (f_Ri_put_1 (f_Ri_addRow_0_1 rin) (f_Ri_put_1 (f_Ri_addRow_0_1 rin) rif r_1 0 r_3) r_1 1 r_5)))), (ot, .inr (1, [.ref ota, .int otn])), (ota, .inl (cJ, 114, .inr (.inl otf)))] H := hP.sub [2, 3, 0, 1] rfl
  have hD : va_D A [(ri, .inr (1, [.ref ria, .int (f_Ri_addRow_0_1 rin)])), (ria, .inl (cJ, 114, .inr (.inl (f_Ri_put_1 (f_Ri_addRow_0_1 rin) (f_Ri_put_1 (f_Ri_addRow_0_1 rin) rif r_1 0 r_3) r_1 1 r_5)))), (ot, .inr (1, [.ref ota, .int otn])), (ota, .inl (cJ, 114, .inr (.inl otf)))] := hD.sub [2, 3, 0, 1] (by decide) rfl
  refine lv_iinc (v := 2) (lv' := [(4, .int 2), (3, .int r_1), (0, .ref ri), (1, .ref ot), (2, .int ix)]) hx hb d_Ri_addCopy_29 hl (k := 0) rfl (by decide) (by decide) rfl (fun ls hl => ?_)
  refine lv_goto (tgt := 8) hx hb d_Ri_addCopy_32 (by decide) ?_
  refine lv_iload hx hb d_Ri_addCopy_8 (lv_at hl 0 rfl) ?_
  refine lv_bipush (v := 6) hx hb d_Ri_addCopy_10 (by decide) ?_
  refine lv_icmp_ge (tgt := 35) hx hb d_Ri_addCopy_12 (by decide) (fun c_6 => absurd c_6 (by decide)) (fun _ => ?_)
  refine lv_aload_n hx hb d_Ri_addCopy_15 rfl (lv_at hl 2 rfl) ?_
  refine lv_iload_n hx hb d_Ri_addCopy_16 rfl (lv_at hl 1 rfl) ?_
  refine lv_iload hx hb d_Ri_addCopy_17 (lv_at hl 0 rfl) ?_
  refine lv_aload_n hx hb d_Ri_addCopy_19 rfl (lv_at hl 3 rfl) ?_
  refine lv_iload_n hx hb d_Ri_addCopy_20 rfl (lv_at hl 4 rfl) ?_
  refine lv_iload hx hb d_Ri_addCopy_21 (lv_at hl 0 rfl) ?_
  have hPc := hP.sub (ws' := [(ot, .inr (1, [.ref ota, .int otn])), (ota, .inl (cJ, 114, .inr (.inl otf)))]) [2, 3] rfl
  refine vp_callSl (va_Run.run (va_runV (As := [.int ix, .int 2]) (rest := [.int 2, .int r_1, .ref ri]) ⟨hx, hb, hml, hown, hts⟩ (c_Ri_at l dC dI cJ cI ot ota otn otf ix 2) (cwV 2 hts (gd_V wd_134 wd_135 wd_5 wd_35 wd_136) rfl rfl rfl (by decide +kernel) ⟨Nat.le_of_ble_eq_true rfl, Nat.le_of_ble_eq_true rfl⟩) ⟨fb_ro, va_recv hK hPc (ci := 1) (q0 := 0) rfl rfl, pre_ro hK hN hPc⟩ rfl rfl hl.1 rfl (lv_room (Nat.le_of_ble_eq_true rfl)) d_Ri_addCopy_23 ⟨Nat.le_of_ble_eq_true rfl, Nat.le_of_ble_eq_true rfl⟩)) (fun r_7 er_7 => ?_)
  have er_7 : r_7 = f_Ri_at otn otf ix 2 := er_7
  have hPc := hP.sub (ws' := [(ri, .inr (1, [.ref ria, .int (f_Ri_addRow_0_1 rin)])), (ria, .inl (cJ, 114, .inr (.inl (f_Ri_put_1 (f_Ri_addRow_0_1 rin) (f_Ri_put_1 (f_Ri_addRow_0_1 rin) rif r_1 0 r_3) r_1 1 r_5))))]) [0, 1] rfl
  have hDc := hD.sub (ws' := [(ri, .inr (1, [.ref ria, .int (f_Ri_addRow_0_1 rin)])), (ria, .inl (cJ, 114, .inr (.inl (f_Ri_put_1 (f_Ri_addRow_0_1 rin) (f_Ri_put_1 (f_Ri_addRow_0_1 rin) rif r_1 0 r_3) r_1 1 r_5))))]) [0, 1] (by decide) rfl
  have hFc := va_free (wc := [(ri, .inr (1, [.ref ria, .int (f_Ri_addRow_0_1 rin)])), (ria, .inl (cJ, 114, .inr (.inl (f_Ri_put_1 (f_Ri_addRow_0_1 rin) (f_Ri_put_1 (f_Ri_addRow_0_1 rin) rif r_1 0 r_3) r_1 1 r_5))))]) hD hS hA [0, 1] rfl
  refine va_callv (va_runV (As := [.int r_1, .int 2, .long r_7]) (rest := []) ⟨hx, hb, hml, hown, hts⟩ (c_Ri_put l dC dI cJ cI H.size ri ria (f_Ri_addRow_0_1 rin) (f_Ri_put_1 (f_Ri_addRow_0_1 rin) (f_Ri_put_1 (f_Ri_addRow_0_1 rin) rif r_1 0 r_3) r_1 1 r_5) r_1 2 r_7) (cwV 3 hts (gd_V wd_137 wd_112 wd_2 wd_35 wd_113) rfl rfl rfl (by decide +kernel) ⟨Nat.le_of_ble_eq_true rfl, Nat.le_of_ble_eq_true rfl⟩) ⟨fb_rw, va_recv hK hPc (ci := 1) (q0 := 0) rfl rfl, pre_rw hK hN hPc hDc⟩ rfl rfl hl.1 rfl (lv_room (Nat.le_of_ble_eq_true rfl)) d_Ri_addCopy_26 ⟨Nat.le_of_ble_eq_true rfl, Nat.le_of_ble_eq_true rfl⟩) hS (fun q _ h => hFc q h) hFc (fun u t H locs ht hvm hw hB hz1 hk1 hS => ?_)
  obtain ⟨hP1, hD1⟩ := hB
  rw [ht] at hP1
  obtain ⟨hP, hD⟩ := va_join (wr := [(ot, .inr (1, [.ref ota, .int otn])), (ota, .inl (cJ, 114, .inr (.inl otf)))]) (w1 := [(ri, .inr (1, [.ref ria, .int (f_Ri_addRow_0_1 rin)])), (ria, .inl (cJ, 114, .inr (.inl (f_Ri_put_1 (f_Ri_addRow_0_1 rin) (f_Ri_put_1 (f_Ri_addRow_0_1 rin) (f_Ri_put_1 (f_Ri_addRow_0_1 rin) rif r_1 0 r_3) r_1 1 r_5) r_1 2 r_7))))]) hP hD [0, 1] [2, 3] rfl rfl (by decide) (by decide) hk1 hFc hP1 hD1
  have hP : va_P (dC, dI) cls4 [(ri, .inr (1, [.ref ria, .int (f_Ri_addRow_0_1 rin)])), (ria, .inl (cJ, 114, .inr (.inl (f_Ri_put_1 (f_Ri_addRow_0_1 rin) (f_Ri_put_1 (f_Ri_addRow_0_1 rin) (f_Ri_put_1 (f_Ri_addRow_0_1 rin) rif r_1 0 r_3) r_1 1 r_5) r_1 2 r_7)))), (ot, .inr (1, [.ref ota, .int otn])), (ota, .inl (cJ, 114, .inr (.inl otf)))] H := hP.sub [2, 3, 0, 1] rfl
  have hD : va_D A [(ri, .inr (1, [.ref ria, .int (f_Ri_addRow_0_1 rin)])), (ria, .inl (cJ, 114, .inr (.inl (f_Ri_put_1 (f_Ri_addRow_0_1 rin) (f_Ri_put_1 (f_Ri_addRow_0_1 rin) (f_Ri_put_1 (f_Ri_addRow_0_1 rin) rif r_1 0 r_3) r_1 1 r_5) r_1 2 r_7)))), (ot, .inr (1, [.ref ota, .int otn])), (ota, .inl (cJ, 114, .inr (.inl otf)))] := hD.sub [2, 3, 0, 1] (by decide) rfl
  refine lv_iinc (v := 3) (lv' := [(4, .int 3), (3, .int r_1), (0, .ref ri), (1, .ref ot), (2, .int ix)]) hx hb d_Ri_addCopy_29 hl (k := 0) rfl (by decide) (by decide) rfl (fun ls hl => ?_)
  refine lv_goto (tgt := 8) hx hb d_Ri_addCopy_32 (by decide) ?_
  refine lv_iload hx hb d_Ri_addCopy_8 (lv_at hl 0 rfl) ?_
  refine lv_bipush (v := 6) hx hb d_Ri_addCopy_10 (by decide) ?_
  refine lv_icmp_ge (tgt := 35) hx hb d_Ri_addCopy_12 (by decide) (fun c_8 => absurd c_8 (by decide)) (fun _ => ?_)
  refine lv_aload_n hx hb d_Ri_addCopy_15 rfl (lv_at hl 2 rfl) ?_
  refine lv_iload_n hx hb d_Ri_addCopy_16 rfl (lv_at hl 1 rfl) ?_
  refine lv_iload hx hb d_Ri_addCopy_17 (lv_at hl 0 rfl) ?_
  refine lv_aload_n hx hb d_Ri_addCopy_19 rfl (lv_at hl 3 rfl) ?_
  refine lv_iload_n hx hb d_Ri_addCopy_20 rfl (lv_at hl 4 rfl) ?_
  refine lv_iload hx hb d_Ri_addCopy_21 (lv_at hl 0 rfl) ?_
  have hPc := hP.sub (ws' := [(ot, .inr (1, [.ref ota, .int otn])), (ota, .inl (cJ, 114, .inr (.inl otf)))]) [2, 3] rfl
  refine vp_callSl (va_Run.run (va_runV (As := [.int ix, .int 3]) (rest := [.int 3, .int r_1, .ref ri]) ⟨hx, hb, hml, hown, hts⟩ (c_Ri_at l dC dI cJ cI ot ota otn otf ix 3) (cwV 2 hts (gd_V wd_134 wd_135 wd_5 wd_35 wd_136) rfl rfl rfl (by decide +kernel) ⟨Nat.le_of_ble_eq_true rfl, Nat.le_of_ble_eq_true rfl⟩) ⟨fb_ro, va_recv hK hPc (ci := 1) (q0 := 0) rfl rfl, pre_ro hK hN hPc⟩ rfl rfl hl.1 rfl (lv_room (Nat.le_of_ble_eq_true rfl)) d_Ri_addCopy_23 ⟨Nat.le_of_ble_eq_true rfl, Nat.le_of_ble_eq_true rfl⟩)) (fun r_9 er_9 => ?_)
  have er_9 : r_9 = f_Ri_at otn otf ix 3 := er_9
  have hPc := hP.sub (ws' := [(ri, .inr (1, [.ref ria, .int (f_Ri_addRow_0_1 rin)])), (ria, .inl (cJ, 114, .inr (.inl (f_Ri_put_1 (f_Ri_addRow_0_1 rin) (f_Ri_put_1 (f_Ri_addRow_0_1 rin) (f_Ri_put_1 (f_Ri_addRow_0_1 rin) rif r_1 0 r_3) r_1 1 r_5) r_1 2 r_7))))]) [0, 1] rfl
  have hDc := hD.sub (ws' := [(ri, .inr (1, [.ref ria, .int (f_Ri_addRow_0_1 rin)])), (ria, .inl (cJ, 114, .inr (.inl (f_Ri_put_1 (f_Ri_addRow_0_1 rin) (f_Ri_put_1 (f_Ri_addRow_0_1 rin) (f_Ri_put_1 (f_Ri_addRow_0_1 rin) rif r_1 0 r_3) r_1 1 r_5) r_1 2 r_7))))]) [0, 1] (by decide) rfl
  have hFc := va_free (wc := [(ri, .inr (1, [.ref ria, .int (f_Ri_addRow_0_1 rin)])), (ria, .inl (cJ, 114, .inr (.inl (f_Ri_put_1 (f_Ri_addRow_0_1 rin) (f_Ri_put_1 (f_Ri_addRow_0_1 rin) (f_Ri_put_1 (f_Ri_addRow_0_1 rin) rif r_1 0 r_3) r_1 1 r_5) r_1 2 r_7))))]) hD hS hA [0, 1] rfl
  refine va_callv (va_runV (As := [.int r_1, .int 3, .long r_9]) (rest := []) ⟨hx, hb, hml, hown, hts⟩ (c_Ri_put l dC dI cJ cI H.size ri ria (f_Ri_addRow_0_1 rin) (f_Ri_put_1 (f_Ri_addRow_0_1 rin) (f_Ri_put_1 (f_Ri_addRow_0_1 rin) (f_Ri_put_1 (f_Ri_addRow_0_1 rin) rif r_1 0 r_3) r_1 1 r_5) r_1 2 r_7) r_1 3 r_9) (cwV 3 hts (gd_V wd_137 wd_112 wd_2 wd_35 wd_113) rfl rfl rfl (by decide +kernel) ⟨Nat.le_of_ble_eq_true rfl, Nat.le_of_ble_eq_true rfl⟩) ⟨fb_rw, va_recv hK hPc (ci := 1) (q0 := 0) rfl rfl, pre_rw hK hN hPc hDc⟩ rfl rfl hl.1 rfl (lv_room (Nat.le_of_ble_eq_true rfl)) d_Ri_addCopy_26 ⟨Nat.le_of_ble_eq_true rfl, Nat.le_of_ble_eq_true rfl⟩) hS (fun q _ h => hFc q h) hFc (fun u t H locs ht hvm hw hB hz1 hk1 hS => ?_)
  obtain ⟨hP1, hD1⟩ := hB
  rw [ht] at hP1
  obtain ⟨hP, hD⟩ := va_join (wr := [(ot, .inr (1, [.ref ota, .int otn])), (ota, .inl (cJ, 114, .inr (.inl otf)))]) (w1 := [(ri, .inr (1, [.ref ria, .int (f_Ri_addRow_0_1 rin)])), (ria, .inl (cJ, 114, .inr (.inl (f_Ri_put_1 (f_Ri_addRow_0_1 rin) (f_Ri_put_1 (f_Ri_addRow_0_1 rin) (f_Ri_put_1 (f_Ri_addRow_0_1 rin) (f_Ri_put_1 (f_Ri_addRow_0_1 rin) rif r_1 0 r_3) r_1 1 r_5) r_1 2 r_7) r_1 3 r_9))))]) hP hD [0, 1] [2, 3] rfl rfl (by decide) (by decide) hk1 hFc hP1 hD1
  have hP : va_P (dC, dI) cls4 [(ri, .inr (1, [.ref ria, .int (f_Ri_addRow_0_1 rin)])), (ria, .inl (cJ, 114, .inr (.inl (f_Ri_put_1 (f_Ri_addRow_0_1 rin) (f_Ri_put_1 (f_Ri_addRow_0_1 rin) (f_Ri_put_1 (f_Ri_addRow_0_1 rin) (f_Ri_put_1 (f_Ri_addRow_0_1 rin) rif r_1 0 r_3) r_1 1 r_5) r_1 2 r_7) r_1 3 r_9)))), (ot, .inr (1, [.ref ota, .int otn])), (ota, .inl (cJ, 114, .inr (.inl otf)))] H := hP.sub [2, 3, 0, 1] rfl
  have hD : va_D A [(ri, .inr (1, [.ref ria, .int (f_Ri_addRow_0_1 rin)])), (ria, .inl (cJ, 114, .inr (.inl (f_Ri_put_1 (f_Ri_addRow_0_1 rin) (f_Ri_put_1 (f_Ri_addRow_0_1 rin) (f_Ri_put_1 (f_Ri_addRow_0_1 rin) (f_Ri_put_1 (f_Ri_addRow_0_1 rin) rif r_1 0 r_3) r_1 1 r_5) r_1 2 r_7) r_1 3 r_9)))), (ot, .inr (1, [.ref ota, .int otn])), (ota, .inl (cJ, 114, .inr (.inl otf)))] := hD.sub [2, 3, 0, 1] (by decide) rfl
  refine lv_iinc (v := 4) (lv' := [(4, .int 4), (3, .int r_1), (0, .ref ri), (1, .ref ot), (2, .int ix)]) hx hb d_Ri_addCopy_29 hl (k := 0) rfl (by decide) (by decide) rfl (fun ls hl => ?_)
  refine lv_goto (tgt := 8) hx hb d_Ri_addCopy_32 (by decide) ?_
  refine lv_iload hx hb d_Ri_addCopy_8 (lv_at hl 0 rfl) ?_
  refine lv_bipush (v := 6) hx hb d_Ri_addCopy_10 (by decide) ?_
  refine lv_icmp_ge (tgt := 35) hx hb d_Ri_addCopy_12 (by decide) (fun c_10 => absurd c_10 (by decide)) (fun _ => ?_)
  refine lv_aload_n hx hb d_Ri_addCopy_15 rfl (lv_at hl 2 rfl) ?_
  refine lv_iload_n hx hb d_Ri_addCopy_16 rfl (lv_at hl 1 rfl) ?_
  refine lv_iload hx hb d_Ri_addCopy_17 (lv_at hl 0 rfl) ?_
  refine lv_aload_n hx hb d_Ri_addCopy_19 rfl (lv_at hl 3 rfl) ?_
  refine lv_iload_n hx hb d_Ri_addCopy_20 rfl (lv_at hl 4 rfl) ?_
  refine lv_iload hx hb d_Ri_addCopy_21 (lv_at hl 0 rfl) ?_
  have hPc := hP.sub (ws' := [(ot, .inr (1, [.ref ota, .int otn])), (ota, .inl (cJ, 114, .inr (.inl otf)))]) [2, 3] rfl
  refine vp_callSl (va_Run.run (va_runV (As := [.int ix, .int 4]) (rest := [.int 4, .int r_1, .ref ri]) ⟨hx, hb, hml, hown, hts⟩ (c_Ri_at l dC dI cJ cI ot ota otn otf ix 4) (cwV 2 hts (gd_V wd_134 wd_135 wd_5 wd_35 wd_136) rfl rfl rfl (by decide +kernel) ⟨Nat.le_of_ble_eq_true rfl, Nat.le_of_ble_eq_true rfl⟩) ⟨fb_ro, va_recv hK hPc (ci := 1) (q0 := 0) rfl rfl, pre_ro hK hN hPc⟩ rfl rfl hl.1 rfl (lv_room (Nat.le_of_ble_eq_true rfl)) d_Ri_addCopy_23 ⟨Nat.le_of_ble_eq_true rfl, Nat.le_of_ble_eq_true rfl⟩)) (fun r_11 er_11 => ?_)
  have er_11 : r_11 = f_Ri_at otn otf ix 4 := er_11
  have hPc := hP.sub (ws' := [(ri, .inr (1, [.ref ria, .int (f_Ri_addRow_0_1 rin)])), (ria, .inl (cJ, 114, .inr (.inl (f_Ri_put_1 (f_Ri_addRow_0_1 rin) (f_Ri_put_1 (f_Ri_addRow_0_1 rin) (f_Ri_put_1 (f_Ri_addRow_0_1 rin) (f_Ri_put_1 (f_Ri_addRow_0_1 rin) rif r_1 0 r_3) r_1 1 r_5) r_1 2 r_7) r_1 3 r_9))))]) [0, 1] rfl
  have hDc := hD.sub (ws' := [(ri, .inr (1, [.ref ria, .int (f_Ri_addRow_0_1 rin)])), (ria, .inl (cJ, 114, .inr (.inl (f_Ri_put_1 (f_Ri_addRow_0_1 rin) (f_Ri_put_1 (f_Ri_addRow_0_1 rin) (f_Ri_put_1 (f_Ri_addRow_0_1 rin) (f_Ri_put_1 (f_Ri_addRow_0_1 rin) rif r_1 0 r_3) r_1 1 r_5) r_1 2 r_7) r_1 3 r_9))))]) [0, 1] (by decide) rfl
  have hFc := va_free (wc := [(ri, .inr (1, [.ref ria, .int (f_Ri_addRow_0_1 rin)])), (ria, .inl (cJ, 114, .inr (.inl (f_Ri_put_1 (f_Ri_addRow_0_1 rin) (f_Ri_put_1 (f_Ri_addRow_0_1 rin) (f_Ri_put_1 (f_Ri_addRow_0_1 rin) (f_Ri_put_1 (f_Ri_addRow_0_1 rin) rif r_1 0 r_3) r_1 1 r_5) r_1 2 r_7) r_1 3 r_9))))]) hD hS hA [0, 1] rfl
  refine va_callv (va_runV (As := [.int r_1, .int 4, .long r_11]) (rest := []) ⟨hx, hb, hml, hown, hts⟩ (c_Ri_put l dC dI cJ cI H.size ri ria (f_Ri_addRow_0_1 rin) (f_Ri_put_1 (f_Ri_addRow_0_1 rin) (f_Ri_put_1 (f_Ri_addRow_0_1 rin) (f_Ri_put_1 (f_Ri_addRow_0_1 rin) (f_Ri_put_1 (f_Ri_addRow_0_1 rin) rif r_1 0 r_3) r_1 1 r_5) r_1 2 r_7) r_1 3 r_9) r_1 4 r_11) (cwV 3 hts (gd_V wd_137 wd_112 wd_2 wd_35 wd_113) rfl rfl rfl (by decide +kernel) ⟨Nat.le_of_ble_eq_true rfl, Nat.le_of_ble_eq_true rfl⟩) ⟨fb_rw, va_recv hK hPc (ci := 1) (q0 := 0) rfl rfl, pre_rw hK hN hPc hDc⟩ rfl rfl hl.1 rfl (lv_room (Nat.le_of_ble_eq_true rfl)) d_Ri_addCopy_26 ⟨Nat.le_of_ble_eq_true rfl, Nat.le_of_ble_eq_true rfl⟩) hS (fun q _ h => hFc q h) hFc (fun u t H locs ht hvm hw hB hz1 hk1 hS => ?_)
  obtain ⟨hP1, hD1⟩ := hB
  rw [ht] at hP1
  obtain ⟨hP, hD⟩ := va_join (wr := [(ot, .inr (1, [.ref ota, .int otn])), (ota, .inl (cJ, 114, .inr (.inl otf)))]) (w1 := [(ri, .inr (1, [.ref ria, .int (f_Ri_addRow_0_1 rin)])), (ria, .inl (cJ, 114, .inr (.inl (f_Ri_put_1 (f_Ri_addRow_0_1 rin) (f_Ri_put_1 (f_Ri_addRow_0_1 rin) (f_Ri_put_1 (f_Ri_addRow_0_1 rin) (f_Ri_put_1 (f_Ri_addRow_0_1 rin) (f_Ri_put_1 (f_Ri_addRow_0_1 rin) rif r_1 0 r_3) r_1 1 r_5) r_1 2 r_7) r_1 3 r_9) r_1 4 r_11))))]) hP hD [0, 1] [2, 3] rfl rfl (by decide) (by decide) hk1 hFc hP1 hD1
  have hP : va_P (dC, dI) cls4 [(ri, .inr (1, [.ref ria, .int (f_Ri_addRow_0_1 rin)])), (ria, .inl (cJ, 114, .inr (.inl (f_Ri_put_1 (f_Ri_addRow_0_1 rin) (f_Ri_put_1 (f_Ri_addRow_0_1 rin) (f_Ri_put_1 (f_Ri_addRow_0_1 rin) (f_Ri_put_1 (f_Ri_addRow_0_1 rin) (f_Ri_put_1 (f_Ri_addRow_0_1 rin) rif r_1 0 r_3) r_1 1 r_5) r_1 2 r_7) r_1 3 r_9) r_1 4 r_11)))), (ot, .inr (1, [.ref ota, .int otn])), (ota, .inl (cJ, 114, .inr (.inl otf)))] H := hP.sub [2, 3, 0, 1] rfl
  have hD : va_D A [(ri, .inr (1, [.ref ria, .int (f_Ri_addRow_0_1 rin)])), (ria, .inl (cJ, 114, .inr (.inl (f_Ri_put_1 (f_Ri_addRow_0_1 rin) (f_Ri_put_1 (f_Ri_addRow_0_1 rin) (f_Ri_put_1 (f_Ri_addRow_0_1 rin) (f_Ri_put_1 (f_Ri_addRow_0_1 rin) (f_Ri_put_1 (f_Ri_addRow_0_1 rin) rif r_1 0 r_3) r_1 1 r_5) r_1 2 r_7) r_1 3 r_9) r_1 4 r_11)))), (ot, .inr (1, [.ref ota, .int otn])), (ota, .inl (cJ, 114, .inr (.inl otf)))] := hD.sub [2, 3, 0, 1] (by decide) rfl
  refine lv_iinc (v := 5) (lv' := [(4, .int 5), (3, .int r_1), (0, .ref ri), (1, .ref ot), (2, .int ix)]) hx hb d_Ri_addCopy_29 hl (k := 0) rfl (by decide) (by decide) rfl (fun ls hl => ?_)
  refine lv_goto (tgt := 8) hx hb d_Ri_addCopy_32 (by decide) ?_
  refine lv_iload hx hb d_Ri_addCopy_8 (lv_at hl 0 rfl) ?_
  refine lv_bipush (v := 6) hx hb d_Ri_addCopy_10 (by decide) ?_
  refine lv_icmp_ge (tgt := 35) hx hb d_Ri_addCopy_12 (by decide) (fun c_12 => absurd c_12 (by decide)) (fun _ => ?_)
  refine lv_aload_n hx hb d_Ri_addCopy_15 rfl (lv_at hl 2 rfl) ?_
  refine lv_iload_n hx hb d_Ri_addCopy_16 rfl (lv_at hl 1 rfl) ?_
  refine lv_iload hx hb d_Ri_addCopy_17 (lv_at hl 0 rfl) ?_
  refine lv_aload_n hx hb d_Ri_addCopy_19 rfl (lv_at hl 3 rfl) ?_
  refine lv_iload_n hx hb d_Ri_addCopy_20 rfl (lv_at hl 4 rfl) ?_
  refine lv_iload hx hb d_Ri_addCopy_21 (lv_at hl 0 rfl) ?_
  have hPc := hP.sub (ws' := [(ot, .inr (1, [.ref ota, .int otn])), (ota, .inl (cJ, 114, .inr (.inl otf)))]) [2, 3] rfl
  refine vp_callSl (va_Run.run (va_runV (As := [.int ix, .int 5]) (rest := [.int 5, .int r_1, .ref ri]) ⟨hx, hb, hml, hown, hts⟩ (c_Ri_at l dC dI cJ cI ot ota otn otf ix 5) (cwV 2 hts (gd_V wd_134 wd_135 wd_5 wd_35 wd_136) rfl rfl rfl (by decide +kernel) ⟨Nat.le_of_ble_eq_true rfl, Nat.le_of_ble_eq_true rfl⟩) ⟨fb_ro, va_recv hK hPc (ci := 1) (q0 := 0) rfl rfl, pre_ro hK hN hPc⟩ rfl rfl hl.1 rfl (lv_room (Nat.le_of_ble_eq_true rfl)) d_Ri_addCopy_23 ⟨Nat.le_of_ble_eq_true rfl, Nat.le_of_ble_eq_true rfl⟩)) (fun r_13 er_13 => ?_)
  have er_13 : r_13 = f_Ri_at otn otf ix 5 := er_13
  have hPc := hP.sub (ws' := [(ri, .inr (1, [.ref ria, .int (f_Ri_addRow_0_1 rin)])), (ria, .inl (cJ, 114, .inr (.inl (f_Ri_put_1 (f_Ri_addRow_0_1 rin) (f_Ri_put_1 (f_Ri_addRow_0_1 rin) (f_Ri_put_1 (f_Ri_addRow_0_1 rin) (f_Ri_put_1 (f_Ri_addRow_0_1 rin) (f_Ri_put_1 (f_Ri_addRow_0_1 rin) rif r_1 0 r_3) r_1 1 r_5) r_1 2 r_7) r_1 3 r_9) r_1 4 r_11))))]) [0, 1] rfl
  have hDc := hD.sub (ws' := [(ri, .inr (1, [.ref ria, .int (f_Ri_addRow_0_1 rin)])), (ria, .inl (cJ, 114, .inr (.inl (f_Ri_put_1 (f_Ri_addRow_0_1 rin) (f_Ri_put_1 (f_Ri_addRow_0_1 rin) (f_Ri_put_1 (f_Ri_addRow_0_1 rin) (f_Ri_put_1 (f_Ri_addRow_0_1 rin) (f_Ri_put_1 (f_Ri_addRow_0_1 rin) rif r_1 0 r_3) r_1 1 r_5) r_1 2 r_7) r_1 3 r_9) r_1 4 r_11))))]) [0, 1] (by decide) rfl
  have hFc := va_free (wc := [(ri, .inr (1, [.ref ria, .int (f_Ri_addRow_0_1 rin)])), (ria, .inl (cJ, 114, .inr (.inl (f_Ri_put_1 (f_Ri_addRow_0_1 rin) (f_Ri_put_1 (f_Ri_addRow_0_1 rin) (f_Ri_put_1 (f_Ri_addRow_0_1 rin) (f_Ri_put_1 (f_Ri_addRow_0_1 rin) (f_Ri_put_1 (f_Ri_addRow_0_1 rin) rif r_1 0 r_3) r_1 1 r_5) r_1 2 r_7) r_1 3 r_9) r_1 4 r_11))))]) hD hS hA [0, 1] rfl
  refine va_callv (va_runV (As := [.int r_1, .int 5, .long r_13]) (rest := []) ⟨hx, hb, hml, hown, hts⟩ (c_Ri_put l dC dI cJ cI H.size ri ria (f_Ri_addRow_0_1 rin) (f_Ri_put_1 (f_Ri_addRow_0_1 rin) (f_Ri_put_1 (f_Ri_addRow_0_1 rin) (f_Ri_put_1 (f_Ri_addRow_0_1 rin) (f_Ri_put_1 (f_Ri_addRow_0_1 rin) (f_Ri_put_1 (f_Ri_addRow_0_1 rin) rif r_1 0 r_3) r_1 1 r_5) r_1 2 r_7) r_1 3 r_9) r_1 4 r_11) r_1 5 r_13) (cwV 3 hts (gd_V wd_137 wd_112 wd_2 wd_35 wd_113) rfl rfl rfl (by decide +kernel) ⟨Nat.le_of_ble_eq_true rfl, Nat.le_of_ble_eq_true rfl⟩) ⟨fb_rw, va_recv hK hPc (ci := 1) (q0 := 0) rfl rfl, pre_rw hK hN hPc hDc⟩ rfl rfl hl.1 rfl (lv_room (Nat.le_of_ble_eq_true rfl)) d_Ri_addCopy_26 ⟨Nat.le_of_ble_eq_true rfl, Nat.le_of_ble_eq_true rfl⟩) hS (fun q _ h => hFc q h) hFc (fun u t H locs ht hvm hw hB hz1 hk1 hS => ?_)
  obtain ⟨hP1, hD1⟩ := hB
  rw [ht] at hP1
  obtain ⟨hP, hD⟩ := va_join (wr := [(ot, .inr (1, [.ref ota, .int otn])), (ota, .inl (cJ, 114, .inr (.inl otf)))]) (w1 := [(ri, .inr (1, [.ref ria, .int (f_Ri_addRow_0_1 rin)])), (ria, .inl (cJ, 114, .inr (.inl (f_Ri_put_1 (f_Ri_addRow_0_1 rin) (f_Ri_put_1 (f_Ri_addRow_0_1 rin) (f_Ri_put_1 (f_Ri_addRow_0_1 rin) (f_Ri_put_1 (f_Ri_addRow_0_1 rin) (f_Ri_put_1 (f_Ri_addRow_0_1 rin) (f_Ri_put_1 (f_Ri_addRow_0_1 rin) rif r_1 0 r_3) r_1 1 r_5) r_1 2 r_7) r_1 3 r_9) r_1 4 r_11) r_1 5 r_13))))]) hP hD [0, 1] [2, 3] rfl rfl (by decide) (by decide) hk1 hFc hP1 hD1
  have hP : va_P (dC, dI) cls4 [(ri, .inr (1, [.ref ria, .int (f_Ri_addRow_0_1 rin)])), (ria, .inl (cJ, 114, .inr (.inl (f_Ri_put_1 (f_Ri_addRow_0_1 rin) (f_Ri_put_1 (f_Ri_addRow_0_1 rin) (f_Ri_put_1 (f_Ri_addRow_0_1 rin) (f_Ri_put_1 (f_Ri_addRow_0_1 rin) (f_Ri_put_1 (f_Ri_addRow_0_1 rin) (f_Ri_put_1 (f_Ri_addRow_0_1 rin) rif r_1 0 r_3) r_1 1 r_5) r_1 2 r_7) r_1 3 r_9) r_1 4 r_11) r_1 5 r_13)))), (ot, .inr (1, [.ref ota, .int otn])), (ota, .inl (cJ, 114, .inr (.inl otf)))] H := hP.sub [2, 3, 0, 1] rfl
  have hD : va_D A [(ri, .inr (1, [.ref ria, .int (f_Ri_addRow_0_1 rin)])), (ria, .inl (cJ, 114, .inr (.inl (f_Ri_put_1 (f_Ri_addRow_0_1 rin) (f_Ri_put_1 (f_Ri_addRow_0_1 rin) (f_Ri_put_1 (f_Ri_addRow_0_1 rin) (f_Ri_put_1 (f_Ri_addRow_0_1 rin) (f_Ri_put_1 (f_Ri_addRow_0_1 rin) (f_Ri_put_1 (f_Ri_addRow_0_1 rin) rif r_1 0 r_3) r_1 1 r_5) r_1 2 r_7) r_1 3 r_9) r_1 4 r_11) r_1 5 r_13)))), (ot, .inr (1, [.ref ota, .int otn])), (ota, .inl (cJ, 114, .inr (.inl otf)))] := hD.sub [2, 3, 0, 1] (by decide) rfl
  refine lv_iinc (v := 6) (lv' := [(4, .int 6), (3, .int r_1), (0, .ref ri), (1, .ref ot), (2, .int ix)]) hx hb d_Ri_addCopy_29 hl (k := 0) rfl (by decide) (by decide) rfl (fun ls hl => ?_)
  refine lv_goto (tgt := 8) hx hb d_Ri_addCopy_32 (by decide) ?_
  refine lv_iload hx hb d_Ri_addCopy_8 (lv_at hl 0 rfl) ?_
  refine lv_bipush (v := 6) hx hb d_Ri_addCopy_10 (by decide) ?_
  refine lv_icmp_ge (tgt := 35) hx hb d_Ri_addCopy_12 (by decide) (fun _ => ?_) (fun c_14 => absurd (by decide) c_14)
  subst er_1
  subst er_3
  subst er_5
  subst er_7
  subst er_9
  subst er_11
  subst er_13
  have ew_15 : f_Ri_addCopy_1 rin rif otn otf ix = f_Ri_put_1 (f_Ri_addRow_0_1 rin) (f_Ri_put_1 (f_Ri_addRow_0_1 rin) (f_Ri_put_1 (f_Ri_addRow_0_1 rin) (f_Ri_put_1 (f_Ri_addRow_0_1 rin) (f_Ri_put_1 (f_Ri_addRow_0_1 rin) (f_Ri_put_1 (f_Ri_addRow_0_1 rin) rif (f_Ri_addRow_r rin) 0 (f_Ri_at otn otf ix 0)) (f_Ri_addRow_r rin) 1 (f_Ri_at otn otf ix 1)) (f_Ri_addRow_r rin) 2 (f_Ri_at otn otf ix 2)) (f_Ri_addRow_r rin) 3 (f_Ri_at otn otf ix 3)) (f_Ri_addRow_r rin) 4 (f_Ri_at otn otf ix 4)) (f_Ri_addRow_r rin) 5 (f_Ri_at otn otf ix 5) := by rw [f_Ri_addCopy_1]
  exact W.vret hx hb hr (fun t ht hW => ⟨⟨(), rfl, trivial, by rw [ht, ew_15]; exact hP, by rw [ew_15]; exact hD⟩, hS.F ht⟩) hS.2.2 d_Ri_addCopy_35
