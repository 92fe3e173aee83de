set_option maxHeartbeats 4000000 in
set_option maxRecDepth 100000 in
theorem c_Fa_clear (l : Launch) (dC : Nat → ClassId) (dI : Nat → Nat → Nat) (cJ cI : ClassId) (sz : Nat) (fa : Nat) (fas : Nat) (fat : Nat) (faa : Nat) (fan : Int32) (faS : Nat → Int32) (faT : Nat → Int32) (faA : Nat → Int32) : Met l y_Fa_clear w_Fa_clear ({ frames := 0, cells := 0, slots := 0, locals := 0 } : Room) (rq_rw (dC, dI) cJ cI sz [.ref fa] [(fa, .inr (2, [.ref fas, .ref fat, .ref faa, .int fan])), (fas, .inl (cI, 17, .inl faS)), (fat, .inl (cI, 17, .inl faT)), (faa, .inl (cI, 17, .inl faA))]) (va_Qv (fun _ : Unit => True) (rz (dC, dI) (va_A [(fa, .inr (2, [.ref fas, .ref fat, .ref faa, .int fan])), (fas, .inl (cI, 17, .inl faS)), (fat, .inl (cI, 17, .inl faT)), (faa, .inl (cI, 17, .inl faA))] sz) [(fa, .inr (2, [.ref fas, .ref fat, .ref faa, .int 0])), (fas, .inl (cI, 17, .inl faS)), (fat, .inl (cI, 17, .inl faT)), (faa, .inl (cI, 17, .inl faA))]) (va_A [(fa, .inr (2, [.ref fas, .ref fat, .ref faa, .int fan])), (fas, .inl (cI, 17, .inl faS)), (fat, .inl (cI, 17, .inl faT)), (faa, .inl (cI, 17, .inl faA))] sz)) 0 0 (va_A [(fa, .inr (2, [.ref fas, .ref fat, .ref faa, .int fan])), (fas, .inl (cI, 17, .inl faS)), (fat, .inl (cI, 17, .inl faT)), (faa, .inl (cI, 17, .inl faA))] sz) := by
  refine Met.ofW (cc := b_Fa_clear) (maxL := 1) (ret := none) (by decide) rfl ?_
  intro p e s m args below meth c s₁ B hml hv
  obtain ⟨rfl, hsz, hP, hK, hN, hD0⟩ := hv
  have hx := B.exec
  have hb := B.bytes
  have hr := B.returns
  have hts := atoms_spec (ws := w_Fa_clear) B.pre
  have hown : s.vm.findClass R_Fa = some m.cls := findClass_of_methodNamed B.named
  have hlocks := B.notSynchronized
  subst hsz
  have hD := hD0.self (sz := s.heap.size)
  generalize hAe : va_A [(fa, .inr (2, [.ref fas, .ref fat, .ref faa, .int fan])), (fas, .inl (cI, 17, .inl faS)), (fat, .inl (cI, 17, .inl faT)), (faa, .inl (cI, 17, .inl faA))] s.heap.size = A at hD ⊢
  have hA : ∀ q : Nat, s.heap.size ≤ q → A q := fun q h => by rw [← hAe]; exact Or.inr h
  have hS : va_S A s.heap s.heap [] := va_S.rf
  have hl := lv_entry ([.ref fa]) (n := 1) (Nat.le_of_ble_eq_true rfl)
  rw [lg_entry_eq]
  generalize (lg_sl ([.ref fa]) ++ List.replicate (1 - (lg_sl ([.ref fa])).length) Slot.unset).toArray = ls at hl ⊢
  have hl : lv_has ls 1 [(0, .ref fa)] := hl
  have hP : va_P (dC, dI) cls4 [(fa, .inr (2, [.ref fas, .ref fat, .ref faa, .int fan])), (fas, .inl (cI, 17, .inl faS)), (fat, .inl (cI, 17, .inl faT)), (faa, .inl (cI, 17, .inl faA))] s.heap := hP
  refine lv_aload_n hx hb d_Fa_clear_0 rfl (lv_at hl 0 rfl) ?_
  refine lv_iconst (v := 0) hx hb d_Fa_clear_1 (by decide) ?_
  refine va_put (D := (dC, dI)) (ci := 2) (v := .int 0) (ty := .int) (C := R_Fa) (T := F_Fa) (N := 4) hx hb hts (fun w h => mw (i_Fa w h)) t_Fa t_Fa_ok n_Fa hown hK hP hD hS 0 rfl rfl 3 (by decide) (hts _ (mw wd_75)) (fun _ h9 => h9) rfl (by decide +kernel) rfl rfl (Nat.le_of_ble_eq_true rfl) d_Fa_clear_2 (fun H locs hP hD hS => ?_)
  have hP : va_P (dC, dI) cls4 [(fa, .inr (2, [.ref fas, .ref fat, .ref faa, .int 0])), (fas, .inl (cI, 17, .inl faS)), (fat, .inl (cI, 17, .inl faT)), (faa, .inl (cI, 17, .inl faA))] H := hP
  have hD : va_D A [(fa, .inr (2, [.ref fas, .ref fat, .ref faa, .int 0])), (fas, .inl (cI, 17, .inl faS)), (fat, .inl (cI, 17, .inl faT)), (faa, .inl (cI, 17, .inl faA))] := hD
  exact W.vret hx hb hr (fun t ht hW => ⟨⟨(), rfl, trivial, by rw [ht]; exact hP, by exact hD⟩, hS.F ht⟩) hS.2.2 d_Fa_clear_5
def f_Fa_add_0_3 (fan : Int32) : Int32 := if fan < 0 then fan else (if 17 ≤ fan then fan else (fan + 1))
def f_Fa_add_1 (fan : Int32) (faS : Nat → Int32) (se : Int32) : Nat → Int32 := if fan < 0 then faS else (if 17 ≤ fan then faS else (upd faS fan.toNatClampNeg se))
def f_Fa_add_2 (fan : Int32) (faT : Nat → Int32) (th : Int32) : Nat → Int32 := if fan < 0 then faT else (if 17 ≤ fan then faT else (upd faT fan.toNatClampNeg th))
def f_Fa_add_3 (fan : Int32) (faA : Nat → Int32) (ar : Int64) : Nat → Int32 := if fan < 0 then faA else (if 17 ≤ fan then faA else (upd faA fan.toNatClampNeg ar.toInt32))
set_option maxHeartbeats 4000000 in
set_option maxRecDepth 100000 in
theorem c_Fa_add (l : Launch) (dC : Nat → ClassId) (dI : Nat → Nat → Nat) (cJ cI : ClassId) (sz : Nat) (fa : Nat) (fas : Nat) (fat : Nat) (faa : Nat) (fan : Int32) (faS : Nat → Int32) (faT : Nat → Int32) (faA : Nat → Int32) (se : Int32) (th : Int32) (ar : Int64) : Met l y_Fa_add w_Fa_add ({ frames := 0, cells := 0, slots := 0, locals := 0 } : Room) (rq_rw (dC, dI) cJ cI sz [.ref fa, .int se, .int th, .long ar] [(fa, .inr (2, [.ref fas, .ref fat, .ref faa, .int fan])), (fas, .inl (cI, 17, .inl faS)), (fat, .inl (cI, 17, .inl faT)), (faa, .inl (cI, 17, .inl faA))]) (va_Qv (fun _ : Unit => True) (rz (dC, dI) (va_A [(fa, .inr (2, [.ref fas, .ref fat, .ref faa, .int fan])), (fas, .inl (cI, 17, .inl faS)), (fat, .inl (cI, 17, .inl faT)), (faa, .inl (cI, 17, .inl faA))] sz) [(fa, .inr (2, [.ref fas, .ref fat, .ref faa, .int (f_Fa_add_0_3 fan)])), (fas, .inl (cI, 17, .inl (f_Fa_add_1 fan faS se))), (fat, .inl (cI, 17, .inl (f_Fa_add_2 fan faT th))), (faa, .inl (cI, 17, .inl (f_Fa_add_3 fan faA ar)))]) (va_A [(fa, .inr (2, [.ref fas, .ref fat, .ref faa, .int fan])), (fas, .inl (cI, 17, .inl faS)), (fat, .inl (cI, 17, .inl faT)), (faa, .inl (cI, 17, .inl faA))] sz)) 0 0 (va_A [(fa, .inr (2, [.ref fas, .ref fat, .ref faa, .int fan])), (fas, .inl (cI, 17, .inl faS)), (fat, .inl (cI, 17, .inl faT)), (faa, .inl (cI, 17, .inl faA))] sz) := by
  refine Met.ofW (cc := b_Fa_add) (maxL := 5) (ret := none) (by decide) rfl ?_
  intro p e s m args below meth c s₁ B hml hv
  obtain ⟨rfl, hsz, hP, hK, hN, hD0⟩ := hv
  have hx := B.exec
  have hb := B.bytes
  have hr := B.returns
  have hts := atoms_spec (ws := w_Fa_add) B.pre
  have hown : s.vm.findClass R_Fa = some m.cls := findClass_of_methodNamed B.named
  have hlocks := B.notSynchronized
  subst hsz
  have hD := hD0.self (sz := s.heap.size)
  generalize hAe : va_A [(fa, .inr (2, [.ref fas, .ref fat, .ref faa, .int fan])), (fas, .inl (cI, 17, .inl faS)), (fat, .inl (cI, 17, .inl faT)), (faa, .inl (cI, 17, .inl faA))] s.heap.size = A at hD ⊢
  have hA : ∀ q : Nat, s.heap.size ≤ q → A q := fun q h => by rw [← hAe]; exact Or.inr h
  have hS : va_S A s.heap s.heap [] := va_S.rf
  have hl := lv_entry ([.ref fa, .int se, .int th, .long ar]) (n := 5) (Nat.le_of_ble_eq_true rfl)
  rw [lg_entry_eq]
  generalize (lg_sl ([.ref fa, .int se, .int th, .long ar]) ++ List.replicate (5 - (lg_sl ([.ref fa, .int se, .int th, .long ar])).length) Slot.unset).toArray = ls at hl ⊢
  have hl : lv_has ls 5 [(0, .ref fa), (1, .int se), (2, .int th), (3, .long ar)] := hl
  have hP : va_P (dC, dI) cls4 [(fa, .inr (2, [.ref fas, .ref fat, .ref faa, .int fan])), (fas, .inl (cI, 17, .inl faS)), (fat, .inl (cI, 17, .inl faT)), (faa, .inl (cI, 17, .inl faA))] s.heap := hP
  refine lv_aload_n hx hb d_Fa_add_0 rfl (lv_at hl 0 rfl) ?_
  refine va_get (D := (dC, dI)) (ci := 2) (v := .int fan) (C := R_Fa) (T := F_Fa) (N := 4) hx hb hts (fun w h => mw (i_Fa w h)) hown hK hP 0 rfl rfl 3 (by decide) (hts _ (mw wd_75)) (fun _ h9 => h9) rfl d_Fa_add_1 ?_
  refine lv_if_lt (tgt := 57) hx hb d_Fa_add_4 (by decide) (fun c_1 => ?_) (fun c_1 => ?_)
  · have c_1 : fan < 0 := c_1
    have ew_2 : f_Fa_add_0_3 fan = fan := by rw [f_Fa_add_0_3, if_pos c_1]
    have ew_3 : f_Fa_add_1 fan faS se = faS := by rw [f_Fa_add_1, if_pos c_1]
    have ew_4 : f_Fa_add_2 fan faT th = faT := by rw [f_Fa_add_2, if_pos c_1]
    have ew_5 : f_Fa_add_3 fan faA ar = faA := by rw [f_Fa_add_3, if_pos c_1]
    exact W.vret hx hb hr (fun t ht hW => ⟨⟨(), rfl, trivial, by rw [ht, ew_2, ew_3, ew_4, ew_5]; exact hP, by rw [ew_2, ew_3, ew_4, ew_5]; exact hD⟩, hS.F ht⟩) hS.2.2 d_Fa_add_57
  · have c_1 : ¬ (fan < 0) := c_1
    refine lv_aload_n hx hb d_Fa_add_7 rfl (lv_at hl 0 rfl) ?_
    refine va_get (D := (dC, dI)) (ci := 2) (v := .int fan) (C := R_Fa) (T := F_Fa) (N := 4) hx hb hts (fun w h => mw (i_Fa w h)) hown hK hP 0 rfl rfl 3 (by decide) (hts _ (mw wd_75)) (fun _ h9 => h9) rfl d_Fa_add_8 ?_
    refine lv_bipush (v := 17) hx hb d_Fa_add_11 (by decide) ?_
    refine lv_icmp_ge (tgt := 57) hx hb d_Fa_add_13 (by decide) (fun c_6 => ?_) (fun c_6 => ?_)
    · have c_6 : 17 ≤ fan := c_6
      have ew_7 : f_Fa_add_0_3 fan = fan := by rw [f_Fa_add_0_3, if_neg c_1, if_pos c_6]
      have ew_8 : f_Fa_add_1 fan faS se = faS := by rw [f_Fa_add_1, if_neg c_1, if_pos c_6]
      have ew_9 : f_Fa_add_2 fan faT th = faT := by rw [f_Fa_add_2, if_neg c_1, if_pos c_6]
      have ew_10 : f_Fa_add_3 fan faA ar = faA := by rw [f_Fa_add_3, if_neg c_1, if_pos c_6]
      exact W.vret hx hb hr (fun t ht hW => ⟨⟨(), rfl, trivial, by rw [ht, ew_7, ew_8, ew_9, ew_10]; exact hP, by rw [ew_7, ew_8, ew_9, ew_10]; exact hD⟩, hS.F ht⟩) hS.2.2 d_Fa_add_57
    · have c_6 : ¬ (17 ≤ fan) := c_6
      refine lv_aload_n hx hb d_Fa_add_16 rfl (lv_at hl 0 rfl) ?_
      refine va_get (D := (dC, dI)) (ci := 2) (v := .ref fas) (C := R_Fa) (T := F_Fa) (N := 4) hx hb hts (fun w h => mw (i_Fa w h)) hown hK hP 0 rfl rfl 0 (by decide) (hts _ (mw wd_72)) (fun _ h9 => h9) rfl d_Fa_add_17 ?_
      refine lv_aload_n hx hb d_Fa_add_20 rfl (lv_at hl 0 rfl) ?_
      refine va_get (D := (dC, dI)) (ci := 2) (v := .int fan) (C := R_Fa) (T := F_Fa) (N := 4) hx hb hts (fun w h => mw (i_Fa w h)) hown hK hP 0 rfl rfl 3 (by decide) (hts _ (mw wd_75)) (fun _ h9 => h9) rfl d_Fa_add_21 ?_
      refine lv_iload_n hx hb d_Fa_add_24 rfl (lv_at hl 1 rfl) ?_
      have hi_12 : vp_in fan 17 := fa_in c_1 c_6
      refine va_iast hx hb hK hP hD hS 1 1 rfl rfl hi_12 d_Fa_add_25 (fun H locs hP hD hS => ?_)
      have hP : va_P (dC, dI) cls4 [(fa, .inr (2, [.ref fas, .ref fat, .ref faa, .int fan])), (fas, .inl (cI, 17, .inl (upd faS fan.toNatClampNeg se))), (fat, .inl (cI, 17, .inl faT)), (faa, .inl (cI, 17, .inl faA))] H := hP
      have hD : va_D A [(fa, .inr (2, [.ref fas, .ref fat, .ref faa, .int fan])), (fas, .inl (cI, 17, .inl (upd faS fan.toNatClampNeg se))), (fat, .inl (cI, 17, .inl faT)), (faa, .inl (cI, 17, .inl faA))] := hD
      refine lv_aload_n hx hb d_Fa_add_26 rfl (lv_at hl 0 rfl) ?_
      refine va_get (D := (dC, dI)) (ci := 2) (v := .ref fat) (C := R_Fa) (T := F_Fa) (N := 4) hx hb hts (fun w h => mw (i_Fa w h)) hown hK hP 0 rfl rfl 1 (by decide) (hts _ (mw wd_73)) (fun _ h9 => h9) rfl d_Fa_add_27 ?_
      refine lv_aload_n hx hb d_Fa_add_30 rfl (lv_at hl 0 rfl) ?_
      refine va_get (D := (dC, dI)) (ci := 2) (v := .int fan) (C := R_Fa) (T := F_Fa) (N := 4) hx hb hts (fun w h => mw (i_Fa w h)) hown hK hP 0 rfl rfl 3 (by decide) (hts _ (mw wd_75)) (fun _ h9 => h9) rfl d_Fa_add_31 ?_
      refine lv_iload_n hx hb d_Fa_add_34 rfl (lv_at hl 2 rfl) ?_
      have hi_14 : vp_in fan 17 := fa_in c_1 c_6
      refine va_iast hx hb hK hP hD hS 2 1 rfl rfl hi_14 d_Fa_add_35 (fun H locs hP hD hS => ?_)
      have hP : va_P (dC, dI) cls4 [(fa, .inr (2, [.ref fas, .ref fat, .ref faa, .int fan])), (fas, .inl (cI, 17, .inl (upd faS fan.toNatClampNeg se))), (fat, .inl (cI, 17, .inl (upd faT fan.toNatClampNeg th))), (faa, .inl (cI, 17, .inl faA))] H := hP
      have hD : va_D A [(fa, .inr (2, [.ref fas, .ref fat, .ref faa, .int fan])), (fas, .inl (cI, 17, .inl (upd faS fan.toNatClampNeg se))), (fat, .inl (cI, 17, .inl (upd faT fan.toNatClampNeg th))), (faa, .inl (cI, 17, .inl faA))] := hD
      refine lv_aload_n hx hb d_Fa_add_36 rfl (lv_at hl 0 rfl) ?_
      refine va_get (D := (dC, dI)) (ci := 2) (v := .ref faa) (C := R_Fa) (T := F_Fa) (N := 4) hx hb hts (fun w h => mw (i_Fa w h)) hown hK hP 0 rfl rfl 2 (by decide) (hts _ (mw wd_74)) (fun _ h9 => h9) rfl d_Fa_add_37 ?_
      refine lv_aload_n hx hb d_Fa_add_40 rfl (lv_at hl 0 rfl) ?_
      refine va_get (D := (dC, dI)) (ci := 2) (v := .int fan) (C := R_Fa) (T := F_Fa) (N := 4) hx hb hts (fun w h => mw (i_Fa w h)) hown hK hP 0 rfl rfl 3 (by decide) (hts _ (mw wd_75)) (fun _ h9 => h9) rfl d_Fa_add_41 ?_
      refine lv_lload_n hx hb d_Fa_add_44 rfl (lv_at hl 3 rfl) ?_
      refine lv_l2i hx hb d_Fa_add_45 rfl ?_
      refine lv_topi (fun y_15 ey_15 => ?_)
      have hi_17 : vp_in fan 17 := fa_in c_1 c_6
      refine va_iast hx hb hK hP hD hS 3 1 rfl rfl hi_17 d_Fa_add_46 (fun H locs hP hD hS => ?_)
      have hP : va_P (dC, dI) cls4 [(fa, .inr (2, [.ref fas, .ref fat, .ref faa, .int fan])), (fas, .inl (cI, 17, .inl (upd faS fan.toNatClampNeg se))), (fat, .inl (cI, 17, .inl (upd faT fan.toNatClampNeg th))), (faa, .inl (cI, 17, .inl (upd faA fan.toNatClampNeg y_15)))] H := hP
      have hD : va_D A [(fa, .inr (2, [.ref fas, .ref fat, .ref faa, .int fan])), (fas, .inl (cI, 17, .inl (upd faS fan.toNatClampNeg se))), (fat, .inl (cI, 17, .inl (upd faT fan.toNatClampNeg th))), (faa, .inl (cI, 17, .inl (upd faA fan.toNatClampNeg y_15)))] := hD
      refine lv_aload_n hx hb d_Fa_add_47 rfl (lv_at hl 0 rfl) ?_
      refine lv_dup hx hb d_Fa_add_48 rfl ?_
      refine va_get (D := (dC, dI)) (ci := 2) (v := .int fan) (C := R_Fa) (T := F_Fa) (N := 4) hx hb hts (fun w h => mw (i_Fa w h)) hown hK hP 0 rfl rfl 3 (by decide) (hts _ (mw wd_75)) (fun _ h9 => h9) rfl d_Fa_add_49 ?_
      refine lv_iconst (v := 1) hx hb d_Fa_add_52 (by decide) ?_
      refine lv_iadd hx hb d_Fa_add_53 ?_
      refine lv_topi (fun y_18 ey_18 => ?_)
      refine va_put (D := (dC, dI)) (ci := 2) (v := .int y_18) (ty := .int) (C := R_Fa) (T := F_Fa) (N := 4) hx hb hts (fun w h => mw (i_Fa w h)) t_Fa t_Fa_ok n_Fa hown hK hP hD hS 0 rfl rfl 3 (by decide) (hts _ (mw wd_75)) (fun _ h9 => h9) rfl (by decide +kernel) rfl rfl (Nat.le_of_ble_eq_true rfl) d_Fa_add_54 (fun H locs hP hD hS => ?_)
      have hP : va_P (dC, dI) cls4 [(fa, .inr (2, [.ref fas, .ref fat, .ref faa, .int y_18])), (fas, .inl (cI, 17, .inl (upd faS fan.toNatClampNeg se))), (fat, .inl (cI, 17, .inl (upd faT fan.toNatClampNeg th))), (faa, .inl (cI, 17, .inl (upd faA fan.toNatClampNeg y_15)))] H := hP
      have hD : va_D A [(fa, .inr (2, [.ref fas, .ref fat, .ref faa, .int y_18])), (fas, .inl (cI, 17, .inl (upd faS fan.toNatClampNeg se))), (fat, .inl (cI, 17, .inl (upd faT fan.toNatClampNeg th))), (faa, .inl (cI, 17, .inl (upd faA fan.toNatClampNeg y_15)))] := hD
      subst ey_15
      subst ey_18
      have ew_19 : f_Fa_add_0_3 fan = fan + 1 := by rw [f_Fa_add_0_3, if_neg c_1, if_neg c_6]
      have ew_20 : f_Fa_add_1 fan faS se = upd faS fan.toNatClampNeg se := by rw [f_Fa_add_1, if_neg c_1, if_neg c_6]
      have ew_21 : f_Fa_add_2 fan faT th = upd faT fan.toNatClampNeg th := by rw [f_Fa_add_2, if_neg c_1, if_neg c_6]
      have ew_22 : f_Fa_add_3 fan faA ar = upd faA fan.toNatClampNeg ar.toInt32 := by rw [f_Fa_add_3, if_neg c_1, if_neg c_6]
      exact W.vret hx hb hr (fun t ht hW => ⟨⟨(), rfl, trivial, by rw [ht, ew_19, ew_20, ew_21, ew_22]; exact hP, by rw [ew_19, ew_20, ew_21, ew_22]; exact hD⟩, hS.F ht⟩) hS.2.2 d_Fa_add_57
def f_Fa_corner (fan : Int32) (faS : Nat → Int32) (faT : Nat → Int32) (ix : Int32) (co : Int32) : Int32 := if (f_Fa_has fan ix) = 0 then (-1) else (if co = 0 then 0 else (if co = 1 then (faS ix.toNatClampNeg) else (if co = 2 then (faT ix.toNatClampNeg) else (-1))))
set_option maxHeartbeats 4000000 in
set_option maxRecDepth 100000 in
theorem c_Fa_corner (l : Launch) (dC : Nat → ClassId) (dI : Nat → Nat → Nat) (cJ cI : ClassId) (fa : Nat) (fas : Nat) (fat : Nat) (faa : Nat) (fan : Int32) (faS : Nat → Int32) (faT : Nat → Int32) (faA : Nat → Int32) (ix : Int32) (co : Int32) : Met l y_Fa_corner w_Fa_corner ({ frames := 1, cells := 0, slots := 0, locals := 21 } : Room) (rq_ro (dC, dI) cJ cI [.ref fa, .int ix, .int co] [(fa, .inr (2, [.ref fas, .ref fat, .ref faa, .int fan])), (fas, .inl (cI, 17, .inl faS)), (fat, .inl (cI, 17, .inl faT)), (faa, .inl (cI, 17, .inl faA))]) (vp_Si (fun r => r = f_Fa_corner fan faS faT ix co)) 0 0 (fun _ => False) := by
  refine Met.ofW (cc := b_Fa_corner) (maxL := 3) (ret := (some .int)) (by decide) rfl ?_
  intro p e s m args below meth c s₁ B hml hv
  obtain ⟨rfl, hP, hK, hN⟩ := hv
  have hx := B.exec
  have hb := B.bytes
  have hr := B.returns
  have hts := atoms_spec (ws := w_Fa_corner) B.pre
  have hown : s.vm.findClass R_Fa = some m.cls := findClass_of_methodNamed B.named
  have hlocks := B.notSynchronized
  have hl := lv_entry ([.ref fa, .int ix, .int co]) (n := 3) (Nat.le_of_ble_eq_true rfl)
  rw [lg_entry_eq]
  generalize (lg_sl ([.ref fa, .int ix, .int co]) ++ List.replicate (3 - (lg_sl ([.ref fa, .int ix, .int co])).length) Slot.unset).toArray = ls at hl ⊢
  have hl : lv_has ls 3 [(0, .ref fa), (1, .int ix), (2, .int co)] := hl
  refine lv_aload_n hx hb d_Fa_corner_0 rfl (lv_at hl 0 rfl) ?_
  refine lv_iload_n hx hb d_Fa_corner_1 rfl (lv_at hl 1 rfl) ?_
  have hPc := hP
  refine vp_callSi (va_Run.run (va_runV (As := [.int ix]) (rest := []) ⟨hx, hb, hml, hown, hts⟩ (c_Fa_has l dC dI cJ cI fa fas fat faa fan faS faT faA ix) (cwV 1 hts (gd_V wd_176 wd_177 wd_15 wd_36 wd_178) rfl rfl rfl (by decide +kernel) ⟨Nat.le_of_ble_eq_true rfl, Nat.le_of_ble_eq_true rfl⟩) ⟨fb_ro, va_recv hK hPc (ci := 2) (q0 := 0) rfl rfl, pre_ro hK hN hPc⟩ rfl rfl hl.1 rfl (lv_room (Nat.le_of_ble_eq_true rfl)) d_Fa_corner_2 ⟨Nat.le_of_ble_eq_true rfl, Nat.le_of_ble_eq_true rfl⟩)) (fun r_1 er_1 => ?_)
  have er_1 : r_1 = f_Fa_has fan ix := er_1
  refine lv_if_ne (tgt := 10) hx hb d_Fa_corner_5 (by decide) (fun c_2 => ?_) (fun c_2 => ?_)
  · have c_2 : ¬ (r_1 = 0) := c_2
    refine lv_iload_n hx hb d_Fa_corner_10 rfl (lv_at hl 2 rfl) ?_
    by_cases c_3 : co = 0
    · refine lv_tableIn (off := 25) (tgt := 36) hx hb d_Fa_corner_11 (by rw [c_3]; decide) (by rw [c_3]; decide) (by rw [c_3]; rfl) (by decide) ?_
      refine lv_iconst (v := 0) hx hb d_Fa_corner_36 (by decide) ?_
      subst er_1
      exact W.iret (v := 0) hx hb hr (fun t ht hW => ⟨_, rfl, by rw [f_Fa_corner, if_neg c_2, if_pos c_3], ht⟩) (fun q h => by cases h) d_Fa_corner_37
    by_cases c_4 : co = 1
    · refine lv_tableIn (off := 27) (tgt := 38) hx hb d_Fa_corner_11 (by rw [c_4]; decide) (by rw [c_4]; decide) (by rw [c_4]; rfl) (by decide) ?_
      refine lv_aload_n hx hb d_Fa_corner_38 rfl (lv_at hl 0 rfl) ?_
      refine va_get (D := (dC, dI)) (ci := 2) (v := .ref fas) (C := R_Fa) (T := F_Fa) (N := 4) hx hb hts (fun w h => mw (i_Fa w h)) hown hK hP 0 rfl rfl 0 (by decide) (hts _ (mw wd_72)) (fun _ h9 => h9) rfl d_Fa_corner_39 ?_
      refine lv_iload_n hx hb d_Fa_corner_42 rfl (lv_at hl 1 rfl) ?_
      have hi_6 : vp_in ix 17 := fa_has (by rw [← er_1]; exact c_2)
      refine va_iald hx hb hK hP 1 1 rfl rfl hi_6 d_Fa_corner_43 ?_
      refine lv_topi (fun y_7 ey_7 => ?_)
      subst er_1
      subst ey_7
      exact W.iret (v := faS ix.toNatClampNeg) hx hb hr (fun t ht hW => ⟨_, rfl, by rw [f_Fa_corner, if_neg c_2, if_neg c_3, if_pos c_4], ht⟩) (fun q h => by cases h) d_Fa_corner_44
    by_cases c_8 : co = 2
    · refine lv_tableIn (off := 34) (tgt := 45) hx hb d_Fa_corner_11 (by rw [c_8]; decide) (by rw [c_8]; decide) (by rw [c_8]; rfl) (by decide) ?_
      refine lv_aload_n hx hb d_Fa_corner_45 rfl (lv_at hl 0 rfl) ?_
      refine va_get (D := (dC, dI)) (ci := 2) (v := .ref fat) (C := R_Fa) (T := F_Fa) (N := 4) hx hb hts (fun w h => mw (i_Fa w h)) hown hK hP 0 rfl rfl 1 (by decide) (hts _ (mw wd_73)) (fun _ h9 => h9) rfl d_Fa_corner_46 ?_
      refine lv_iload_n hx hb d_Fa_corner_49 rfl (lv_at hl 1 rfl) ?_
      have hi_10 : vp_in ix 17 := fa_has (by rw [← er_1]; exact c_2)
      refine va_iald hx hb hK hP 2 1 rfl rfl hi_10 d_Fa_corner_50 ?_
      refine lv_topi (fun y_11 ey_11 => ?_)
      subst er_1
      subst ey_11
      exact W.iret (v := faT ix.toNatClampNeg) hx hb hr (fun t ht hW => ⟨_, rfl, by rw [f_Fa_corner, if_neg c_2, if_neg c_3, if_neg c_4, if_pos c_8], ht⟩) (fun q h => by cases h) d_Fa_corner_51
    · have hsw : co.toInt < 0 ∨ 2 < co.toInt := sw_out0_2 c_3 c_4 c_8
      refine lv_tableOut (tgt := 52) hx hb d_Fa_corner_11 hsw (by decide) ?_
      refine lv_iconst (v := (-1)) hx hb d_Fa_corner_52 (by decide) ?_
      subst er_1
      exact W.iret (v := (-1)) hx hb hr (fun t ht hW => ⟨_, rfl, by rw [f_Fa_corner, if_neg c_2, if_neg c_3, if_neg c_4, if_neg c_8], ht⟩) (fun q h => by cases h) d_Fa_corner_53
  · have c_2 : r_1 = 0 := c_2
    refine lv_iconst (v := (-1)) hx hb d_Fa_corner_8 (by decide) ?_
    subst er_1
    exact W.iret (v := (-1)) hx hb hr (fun t ht hW => ⟨_, rfl, by rw [f_Fa_corner, if_pos c_2], ht⟩) (fun q h => by cases h) d_Fa_corner_9
