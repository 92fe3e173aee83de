set_option maxHeartbeats 4000000 in
set_option maxRecDepth 100000 in
theorem c_Ri_init (l : Launch) (dC : Nat → ClassId) (dI : Nat → Nat → Nat) (cJ cI : ClassId) (sz : Nat) (ri : Nat) : Met l y_Ri_init w_Ri_init ({ frames := 1, cells := 1, slots := 114, locals := 20 } : Room) (rq_rw (dC, dI) cJ cI sz [.ref ri] [(ri, .inr (1, [.null, .int 0]))]) (va_Qv (fun _ : Unit => True) (fun (_ : Unit) (t : State) => ∃ (ria : Nat), va_P (dC, dI) cls4 [(ri, .inr (1, [.ref ria, .int 0])), (ria, .inl (cJ, 114, .inr (.inl (fun _ => 0))))] t.heap ∧ va_D (va_A [(ri, .inr (1, [.null, .int 0]))] sz) [(ri, .inr (1, [.ref ria, .int 0])), (ria, .inl (cJ, 114, .inr (.inl (fun _ => 0))))] ∧ True) (va_A [(ri, .inr (1, [.null, .int 0]))] sz)) 1 114 (va_A [(ri, .inr (1, [.null, .int 0]))] sz) := by
  refine Met.ofW (cc := b_Ri_init) (maxL := 1) (ret := none) (by decide) rfl ?_
  intro p e s m args below meth c s₁ B hml hv
  obtain ⟨rfl, hsz, hP, hK, hN, hD0⟩ := hv
  have hx := B.exec
  have hb := B.bytes
  have hr := B.returns
  have hts := atoms_spec (ws := w_Ri_init) B.pre
  have hown : s.vm.findClass R_Ri = some m.cls := findClass_of_methodNamed B.named
  have hlocks := B.notSynchronized
  have hin : meth.name = "<init>" := (name_of_methodNamed B.named B.method).1
  subst hsz
  have hD := hD0.self (sz := s.heap.size)
  generalize hAe : va_A [(ri, .inr (1, [.null, .int 0]))] s.heap.size = A at hD ⊢
  have hA : ∀ q : Nat, s.heap.size ≤ q → A q := fun q h => by rw [← hAe]; exact Or.inr h
  have hS : va_S A s.heap s.heap [] := va_S.rf
  have hl := lv_entry ([.ref ri]) (n := 1) (Nat.le_of_ble_eq_true rfl)
  rw [lg_entry_eq]
  generalize (lg_sl ([.ref ri]) ++ List.replicate (1 - (lg_sl ([.ref ri])).length) Slot.unset).toArray = ls at hl ⊢
  have hl : lv_has ls 1 [(0, .ref ri)] := hl
  have hP : va_P (dC, dI) cls4 [(ri, .inr (1, [.null, .int 0]))] s.heap := hP
  refine lv_aload_n hx hb d_Ri_init_0 rfl (lv_at hl 0 rfl) ?_
  refine W.objInit hx hb hown (hts _ (mw wd_59)) (hts _ (mw wd_44)) (hts _ (mw wd_45)) rfl (by rw [hml]; exact hl.1) rfl d_Ri_init_1 (Nat.le_of_ble_eq_true rfl) (Nat.le_of_ble_eq_true rfl) ?_
  refine W.eq (g2 := F0 m 4 ls []) rfl ?_
  refine lv_aload_n hx hb d_Ri_init_4 rfl (lv_at hl 0 rfl) ?_
  refine lv_bipush (v := 114) hx hb d_Ri_init_5 (by decide) ?_
  refine va_newa (atype := .long) hx hb (hts _ (mw wd_64)) (ty := .long) rfl hK hP hD hS hA (a0 := (114, .inr (.inl (fun _ => 0)))) (fun _ => rfl) (by decide) rfl (by decide) (Nat.le_of_ble_eq_true rfl) (Nat.le_of_ble_eq_true rfl) d_Ri_init_7 (fun q_1 cA H hK2 hP hD hS => ?_)
  have ecA := in_J hK hK2
  subst ecA
  have hP : va_P (dC, dI) cls4 [(ri, .inr (1, [.null, .int 0])), (q_1, .inl (cJ, 114, .inr (.inl (fun _ => 0))))] H := hP
  have hD : va_D A [(ri, .inr (1, [.null, .int 0])), (q_1, .inl (cJ, 114, .inr (.inl (fun _ => 0))))] := hD
  refine va_putF (D := (dC, dI)) (ci := 1) (v := .ref q_1) (ty := (.array .long)) (C := R_Ri) (T := F_Ri) (N := 2) hx hb hts (fun w h => mw (i_Ri w h)) t_Ri t_Ri_ok n_Ri hown hK hP hD hS 0 rfl rfl 0 (by decide) (hts _ (mw wd_60)) (fun _ h9 => h9) rfl hin rfl (by decide +kernel) rfl rfl (Nat.le_of_ble_eq_true rfl) d_Ri_init_9 (fun H locs hP hD hS => ?_)
  have hP : va_P (dC, dI) cls4 [(ri, .inr (1, [.ref q_1, .int 0])), (q_1, .inl (cJ, 114, .inr (.inl (fun _ => 0))))] H := hP
  have hD : va_D A [(ri, .inr (1, [.ref q_1, .int 0])), (q_1, .inl (cJ, 114, .inr (.inl (fun _ => 0))))] := hD
  refine lv_aload_n hx hb d_Ri_init_12 rfl (lv_at hl 0 rfl) ?_
  refine lv_iconst (v := 0) hx hb d_Ri_init_13 (by decide) ?_
  refine va_put (D := (dC, dI)) (ci := 1) (v := .int 0) (ty := .int) (C := R_Ri) (T := F_Ri) (N := 2) hx hb hts (fun w h => mw (i_Ri w h)) t_Ri t_Ri_ok n_Ri hown hK hP hD hS 0 rfl rfl 1 (by decide) (hts _ (mw wd_61)) (fun _ h9 => h9) rfl (by decide +kernel) rfl rfl (Nat.le_of_ble_eq_true rfl) d_Ri_init_14 (fun H locs hP hD hS => ?_)
  have hP : va_P (dC, dI) cls4 [(ri, .inr (1, [.ref q_1, .int 0])), (q_1, .inl (cJ, 114, .inr (.inl (fun _ => 0))))] H := hP
  have hD : va_D A [(ri, .inr (1, [.ref q_1, .int 0])), (q_1, .inl (cJ, 114, .inr (.inl (fun _ => 0))))] := hD
  exact W.vret hx hb hr (fun t ht hW => ⟨⟨(), rfl, trivial, _, by rw [ht]; exact hP, hD, trivial⟩, hS.F ht⟩) hS.2.2 d_Ri_init_17
set_option maxHeartbeats 4000000 in
set_option maxRecDepth 100000 in
theorem c_Fa_init (l : Launch) (dC : Nat → ClassId) (dI : Nat → Nat → Nat) (cJ cI : ClassId) (sz : Nat) (fa : Nat) : Met l y_Fa_init w_Fa_init ({ frames := 1, cells := 3, slots := 51, locals := 20 } : Room) (rq_rw (dC, dI) cJ cI sz [.ref fa] [(fa, .inr (2, [.null, .null, .null, .int 0]))]) (va_Qv (fun _ : Unit => True) (fun (_ : Unit) (t : State) => ∃ (fas : Nat) (fat : Nat) (faa : Nat), va_P (dC, dI) cls4 [(fa, .inr (2, [.ref fas, .ref fat, .ref faa, .int 0])), (fas, .inl (cI, 17, .inl (fun _ => 0))), (fat, .inl (cI, 17, .inl (fun _ => 0))), (faa, .inl (cI, 17, .inl (fun _ => 0)))] t.heap ∧ va_D (va_A [(fa, .inr (2, [.null, .null, .null, .int 0]))] sz) [(fa, .inr (2, [.ref fas, .ref fat, .ref faa, .int 0])), (fas, .inl (cI, 17, .inl (fun _ => 0))), (fat, .inl (cI, 17, .inl (fun _ => 0))), (faa, .inl (cI, 17, .inl (fun _ => 0)))] ∧ True) (va_A [(fa, .inr (2, [.null, .null, .null, .int 0]))] sz)) 3 51 (va_A [(fa, .inr (2, [.null, .null, .null, .int 0]))] sz) := by
  refine Met.ofW (cc := b_Fa_init) (maxL := 1) (ret := none) (by decide) rfl ?_
  intro p e s m args below meth c s₁ B hml hv
  obtain ⟨rfl, hsz, hP, hK, hN, hD0⟩ := hv
  have hx := B.exec
  have hb := B.bytes
  have hr := B.returns
  have hts := atoms_spec (ws := w_Fa_init) B.pre
  have hown : s.vm.findClass R_Fa = some m.cls := findClass_of_methodNamed B.named
  have hlocks := B.notSynchronized
  have hin : meth.name = "<init>" := (name_of_methodNamed B.named B.method).1
  subst hsz
  have hD := hD0.self (sz := s.heap.size)
  generalize hAe : va_A [(fa, .inr (2, [.null, .null, .null, .int 0]))] s.heap.size = A at hD ⊢
  have hA : ∀ q : Nat, s.heap.size ≤ q → A q := fun q h => by rw [← hAe]; exact Or.inr h
  have hS : va_S A s.heap s.heap [] := va_S.rf
  have hl := lv_entry ([.ref fa]) (n := 1) (Nat.le_of_ble_eq_true rfl)
  rw [lg_entry_eq]
  generalize (lg_sl ([.ref fa]) ++ List.replicate (1 - (lg_sl ([.ref fa])).length) Slot.unset).toArray = ls at hl ⊢
  have hl : lv_has ls 1 [(0, .ref fa)] := hl
  have hP : va_P (dC, dI) cls4 [(fa, .inr (2, [.null, .null, .null, .int 0]))] s.heap := hP
  refine lv_aload_n hx hb d_Fa_init_0 rfl (lv_at hl 0 rfl) ?_
  refine W.objInit hx hb hown (hts _ (mw wd_71)) (hts _ (mw wd_44)) (hts _ (mw wd_45)) rfl (by rw [hml]; exact hl.1) rfl d_Fa_init_1 (Nat.le_of_ble_eq_true rfl) (Nat.le_of_ble_eq_true rfl) ?_
  refine W.eq (g2 := F0 m 4 ls []) rfl ?_
  refine lv_aload_n hx hb d_Fa_init_4 rfl (lv_at hl 0 rfl) ?_
  refine lv_bipush (v := 17) hx hb d_Fa_init_5 (by decide) ?_
  refine va_newa (atype := .int) hx hb (hts _ (mw wd_80)) (ty := .int) rfl hK hP hD hS hA (a0 := (17, .inl (fun _ => 0))) (fun _ => rfl) (by decide) rfl (by decide) (Nat.le_of_ble_eq_true rfl) (Nat.le_of_ble_eq_true rfl) d_Fa_init_7 (fun q_1 cA H hK2 hP hD hS => ?_)
  have ecA := in_I hK hK2
  subst ecA
  have hP : va_P (dC, dI) cls4 [(fa, .inr (2, [.null, .null, .null, .int 0])), (q_1, .inl (cI, 17, .inl (fun _ => 0)))] H := hP
  have hD : va_D A [(fa, .inr (2, [.null, .null, .null, .int 0])), (q_1, .inl (cI, 17, .inl (fun _ => 0)))] := hD
  refine va_putF (D := (dC, dI)) (ci := 2) (v := .ref q_1) (ty := (.array .int)) (C := R_Fa) (T := F_Fa) (N := 4) hx hb hts (fun w h => mw (i_Fa w h)) t_Fa t_Fa_ok n_Fa hown hK hP hD hS 0 rfl rfl 0 (by decide) (hts _ (mw wd_72)) (fun _ h9 => h9) rfl hin rfl (by decide +kernel) rfl rfl (Nat.le_of_ble_eq_true rfl) d_Fa_init_9 (fun H locs hP hD hS => ?_)
  have hP : va_P (dC, dI) cls4 [(fa, .inr (2, [.ref q_1, .null, .null, .int 0])), (q_1, .inl (cI, 17, .inl (fun _ => 0)))] H := hP
  have hD : va_D A [(fa, .inr (2, [.ref q_1, .null, .null, .int 0])), (q_1, .inl (cI, 17, .inl (fun _ => 0)))] := hD
  refine lv_aload_n hx hb d_Fa_init_12 rfl (lv_at hl 0 rfl) ?_
  refine lv_bipush (v := 17) hx hb d_Fa_init_13 (by decide) ?_
  refine va_newa (atype := .int) hx hb (hts _ (mw wd_80)) (ty := .int) rfl hK hP hD hS hA (a0 := (17, .inl (fun _ => 0))) (fun _ => rfl) (by decide) rfl (by decide) (Nat.le_of_ble_eq_true rfl) (Nat.le_of_ble_eq_true rfl) d_Fa_init_15 (fun q_2 cA H hK2 hP hD hS => ?_)
  have ecA := in_I hK hK2
  subst ecA
  have hP : va_P (dC, dI) cls4 [(fa, .inr (2, [.ref q_1, .null, .null, .int 0])), (q_1, .inl (cI, 17, .inl (fun _ => 0))), (q_2, .inl (cI, 17, .inl (fun _ => 0)))] H := hP
  have hD : va_D A [(fa, .inr (2, [.ref q_1, .null, .null, .int 0])), (q_1, .inl (cI, 17, .inl (fun _ => 0))), (q_2, .inl (cI, 17, .inl (fun _ => 0)))] := hD
  refine va_putF (D := (dC, dI)) (ci := 2) (v := .ref q_2) (ty := (.array .int)) (C := R_Fa) (T := F_Fa) (N := 4) hx hb hts (fun w h => mw (i_Fa w h)) t_Fa t_Fa_ok n_Fa hown hK hP hD hS 0 rfl rfl 1 (by decide) (hts _ (mw wd_73)) (fun _ h9 => h9) rfl hin rfl (by decide +kernel) rfl rfl (Nat.le_of_ble_eq_true rfl) d_Fa_init_17 (fun H locs hP hD hS => ?_)
  have hP : va_P (dC, dI) cls4 [(fa, .inr (2, [.ref q_1, .ref q_2, .null, .int 0])), (q_1, .inl (cI, 17, .inl (fun _ => 0))), (q_2, .inl (cI, 17, .inl (fun _ => 0)))] H := hP
  have hD : va_D A [(fa, .inr (2, [.ref q_1, .ref q_2, .null, .int 0])), (q_1, .inl (cI, 17, .inl (fun _ => 0))), (q_2, .inl (cI, 17, .inl (fun _ => 0)))] := hD
  refine lv_aload_n hx hb d_Fa_init_20 rfl (lv_at hl 0 rfl) ?_
  refine lv_bipush (v := 17) hx hb d_Fa_init_21 (by decide) ?_
  refine va_newa (atype := .int) hx hb (hts _ (mw wd_80)) (ty := .int) rfl hK hP hD hS hA (a0 := (17, .inl (fun _ => 0))) (fun _ => rfl) (by decide) rfl (by decide) (Nat.le_of_ble_eq_true rfl) (Nat.le_of_ble_eq_true rfl) d_Fa_init_23 (fun q_3 cA H hK2 hP hD hS => ?_)
  have ecA := in_I hK hK2
  subst ecA
  have hP : va_P (dC, dI) cls4 [(fa, .inr (2, [.ref q_1, .ref q_2, .null, .int 0])), (q_1, .inl (cI, 17, .inl (fun _ => 0))), (q_2, .inl (cI, 17, .inl (fun _ => 0))), (q_3, .inl (cI, 17, .inl (fun _ => 0)))] H := hP
  have hD : va_D A [(fa, .inr (2, [.ref q_1, .ref q_2, .null, .int 0])), (q_1, .inl (cI, 17, .inl (fun _ => 0))), (q_2, .inl (cI, 17, .inl (fun _ => 0))), (q_3, .inl (cI, 17, .inl (fun _ => 0)))] := hD
  refine va_putF (D := (dC, dI)) (ci := 2) (v := .ref q_3) (ty := (.array .int)) (C := R_Fa) (T := F_Fa) (N := 4) hx hb hts (fun w h => mw (i_Fa w h)) t_Fa t_Fa_ok n_Fa hown hK hP hD hS 0 rfl rfl 2 (by decide) (hts _ (mw wd_74)) (fun _ h9 => h9) rfl hin rfl (by decide +kernel) rfl rfl (Nat.le_of_ble_eq_true rfl) d_Fa_init_25 (fun H locs hP hD hS => ?_)
  have hP : va_P (dC, dI) cls4 [(fa, .inr (2, [.ref q_1, .ref q_2, .ref q_3, .int 0])), (q_1, .inl (cI, 17, .inl (fun _ => 0))), (q_2, .inl (cI, 17, .inl (fun _ => 0))), (q_3, .inl (cI, 17, .inl (fun _ => 0)))] H := hP
  have hD : va_D A [(fa, .inr (2, [.ref q_1, .ref q_2, .ref q_3, .int 0])), (q_1, .inl (cI, 17, .inl (fun _ => 0))), (q_2, .inl (cI, 17, .inl (fun _ => 0))), (q_3, .inl (cI, 17, .inl (fun _ => 0)))] := hD
  refine lv_aload_n hx hb d_Fa_init_28 rfl (lv_at hl 0 rfl) ?_
  refine lv_iconst (v := 0) hx hb d_Fa_init_29 (by decide) ?_
  refine va_put (D := (dC, dI)) (ci := 2) (v := .int 0) (ty := .int) (C := R_Fa) (T := F_Fa) (N := 4) hx hb hts (fun w h => mw (i_Fa w h)) t_Fa t_Fa_ok n_Fa hown hK hP hD hS 0 rfl rfl 3 (by decide) (hts _ (mw wd_75)) (fun _ h9 => h9) rfl (by decide +kernel) rfl rfl (Nat.le_of_ble_eq_true rfl) d_Fa_init_30 (fun H locs hP hD hS => ?_)
  have hP : va_P (dC, dI) cls4 [(fa, .inr (2, [.ref q_1, .ref q_2, .ref q_3, .int 0])), (q_1, .inl (cI, 17, .inl (fun _ => 0))), (q_2, .inl (cI, 17, .inl (fun _ => 0))), (q_3, .inl (cI, 17, .inl (fun _ => 0)))] H := hP
  have hD : va_D A [(fa, .inr (2, [.ref q_1, .ref q_2, .ref q_3, .int 0])), (q_1, .inl (cI, 17, .inl (fun _ => 0))), (q_2, .inl (cI, 17, .inl (fun _ => 0))), (q_3, .inl (cI, 17, .inl (fun _ => 0)))] := hD
  exact W.vret hx hb hr (fun t ht hW => ⟨⟨(), rfl, trivial, _, _, _, by rw [ht]; exact hP, hD, trivial⟩, hS.F ht⟩) hS.2.2 d_Fa_init_33
set_option maxHeartbeats 4000000 in
set_option maxRecDepth 100000 in
theorem c_PC_init (l : Launch) (dC : Nat → ClassId) (dI : Nat → Nat → Nat) (cJ cI : ClassId) (sz : Nat) (ob : Nat) (aw : Int32) (ah : Int32) : Met l y_PC_init w_PC_init ({ frames := 2, cells := 12, slots := 519, locals := 60 } : Room) (rq_rw (dC, dI) cJ cI sz [.ref ob, .int aw, .int ah] [(ob, .inr (0, [.int 0, .int 0, .int 0, .null, .null, .null, .null, .null]))]) (va_Qv (fun _ : Unit => True) (fun (_ : Unit) (t : State) => ∃ (gi : Nat) (gia : Nat) (ke : Nat) (kea : Nat) (sp : Nat) (spa : Nat) (pi : Nat) (pia : Nat) (fa : Nat) (fas : Nat) (fat : Nat) (faa : Nat), va_P (dC, dI) cls4 [(ob, .inr (0, [.int (f_PC_pictureSize aw), .int (f_PC_pictureSize ah), .int 32, .ref gi, .ref ke, .ref sp, .ref pi, .ref fa])), (gi, .inr (1, [.ref gia, .int 3])), (gia, .inl (cJ, 114, .inr (.inl (fun _ => 0)))), (ke, .inr (1, [.ref kea, .int 0])), (kea, .inl (cJ, 114, .inr (.inl (fun _ => 0)))), (sp, .inr (1, [.ref spa, .int 0])), (spa, .inl (cJ, 114, .inr (.inl (fun _ => 0)))), (pi, .inr (1, [.ref pia, .int 0])), (pia, .inl (cJ, 114, .inr (.inl (fun _ => 0)))), (fa, .inr (2, [.ref fas, .ref fat, .ref faa, .int 0])), (fas, .inl (cI, 17, .inl (fun _ => 0))), (fat, .inl (cI, 17, .inl (fun _ => 0))), (faa, .inl (cI, 17, .inl (fun _ => 0)))] t.heap ∧ va_D (va_A [(ob, .inr (0, [.int 0, .int 0, .int 0, .null, .null, .null, .null, .null]))] sz) [(ob, .inr (0, [.int (f_PC_pictureSize aw), .int (f_PC_pictureSize ah), .int 32, .ref gi, .ref ke, .ref sp, .ref pi, .ref fa])), (gi, .inr (1, [.ref gia, .int 3])), (gia, .inl (cJ, 114, .inr (.inl (fun _ => 0)))), (ke, .inr (1, [.ref kea, .int 0])), (kea, .inl (cJ, 114, .inr (.inl (fun _ => 0)))), (sp, .inr (1, [.ref spa, .int 0])), (spa, .inl (cJ, 114, .inr (.inl (fun _ => 0)))), (pi, .inr (1, [.ref pia, .int 0])), (pia, .inl (cJ, 114, .inr (.inl (fun _ => 0)))), (fa, .inr (2, [.ref fas, .ref fat, .ref faa, .int 0])), (fas, .inl (cI, 17, .inl (fun _ => 0))), (fat, .inl (cI, 17, .inl (fun _ => 0))), (faa, .inl (cI, 17, .inl (fun _ => 0)))] ∧ True) (va_A [(ob, .inr (0, [.int 0, .int 0, .int 0, .null, .null, .null, .null, .null]))] sz)) 12 519 (va_A [(ob, .inr (0, [.int 0, .int 0, .int 0, .null, .null, .null, .null, .null]))] sz) := by
  refine Met.ofW (cc := b_PC_init) (maxL := 4) (ret := none) (by decide) rfl ?_
  intro p e s m args below meth c s₁ B hml hv
  obtain ⟨rfl, hsz, hP, hK, hN, hD0⟩ := hv
  have hx := B.exec
  have hb := B.bytes
  have hr := B.returns
  have hts := atoms_spec (ws := w_PC_init) B.pre
  have hown : s.vm.findClass R_PC = some m.cls := findClass_of_methodNamed B.named
  have hlocks := B.notSynchronized
  have hin : meth.name = "<init>" := (name_of_methodNamed B.named B.method).1
  subst hsz
  have hD := hD0.self (sz := s.heap.size)
  generalize hAe : va_A [(ob, .inr (0, [.int 0, .int 0, .int 0, .null, .null, .null, .null, .null]))] s.heap.size = A at hD ⊢
  have hA : ∀ q : Nat, s.heap.size ≤ q → A q := fun q h => by rw [← hAe]; exact Or.inr h
  have hS : va_S A s.heap s.heap [] := va_S.rf
  have hl := lv_entry ([.ref ob, .int aw, .int ah]) (n := 4) (Nat.le_of_ble_eq_true rfl)
  rw [lg_entry_eq]
  generalize (lg_sl ([.ref ob, .int aw, .int ah]) ++ List.replicate (4 - (lg_sl ([.ref ob, .int aw, .int ah])).length) Slot.unset).toArray = ls at hl ⊢
  have hl : lv_has ls 4 [(0, .ref ob), (1, .int aw), (2, .int ah)] := hl
  have hP : va_P (dC, dI) cls4 [(ob, .inr (0, [.int 0, .int 0, .int 0, .null, .null, .null, .null, .null]))] s.heap := hP
  refine lv_aload_n hx hb d_PC_init_0 rfl (lv_at hl 0 rfl) ?_
  refine W.objInit hx hb hown (hts _ (mw wd_43)) (hts _ (mw wd_44)) (hts _ (mw wd_45)) rfl (by rw [hml]; exact hl.1) rfl d_PC_init_1 (Nat.le_of_ble_eq_true rfl) (Nat.le_of_ble_eq_true rfl) ?_
  refine W.eq (g2 := F0 m 4 ls []) rfl ?_
  refine lv_aload_n hx hb d_PC_init_4 rfl (lv_at hl 0 rfl) ?_
  refine lv_iload_n hx hb d_PC_init_5 rfl (lv_at hl 1 rfl) ?_
  refine vp_callSi (va_Run.run (va_runS (As := [.int aw]) (rest := [.ref ob]) ⟨hx, hb, hml, hown, hts⟩ (c_PC_pictureSize l dC dI cJ cI aw) (va_cwS 1 hts (gd_S wd_46 wd_47 wd_33 wd_48) rfl rfl rfl (by decide +kernel) ⟨Nat.le_of_ble_eq_true rfl, Nat.le_of_ble_eq_true rfl⟩) ⟨fb_ro, pre_ro hK hN va_nil⟩ rfl rfl hl.1 rfl (lv_room (Nat.le_of_ble_eq_true rfl)) d_PC_init_6 ⟨Nat.le_of_ble_eq_true rfl, Nat.le_of_ble_eq_true rfl⟩)) (fun r_1 er_1 => ?_)
  have er_1 : r_1 = f_PC_pictureSize aw := er_1
  refine va_putF (D := (dC, dI)) (ci := 0) (v := .int r_1) (ty := .int) (C := R_PC) (T := F_PC) (N := 8) hx hb hts (fun w h => mw (i_PC w h)) t_PC t_PC_ok n_PC hown hK hP hD hS 0 rfl rfl 0 (by decide) (hts _ (mw wd_81)) (fun _ h9 => h9) rfl hin rfl (by decide +kernel) rfl rfl (Nat.le_of_ble_eq_true rfl) d_PC_init_9 (fun H locs hP hD hS => ?_)
  have hP : va_P (dC, dI) cls4 [(ob, .inr (0, [.int r_1, .int 0, .int 0, .null, .null, .null, .null, .null]))] H := hP
  have hD : va_D A [(ob, .inr (0, [.int r_1, .int 0, .int 0, .null, .null, .null, .null, .null]))] := hD
  refine lv_aload_n hx hb d_PC_init_12 rfl (lv_at hl 0 rfl) ?_
  refine lv_iload_n hx hb d_PC_init_13 rfl (lv_at hl 2 rfl) ?_
  refine vp_callSi (va_Run.run (va_runS (As := [.int ah]) (rest := [.ref ob]) ⟨hx, hb, hml, hown, hts⟩ (c_PC_pictureSize l dC dI cJ cI ah) (va_cwS 1 hts (gd_S wd_46 wd_47 wd_33 wd_48) rfl rfl rfl (by decide +kernel) ⟨Nat.le_of_ble_eq_true rfl, Nat.le_of_ble_eq_true rfl⟩) ⟨fb_ro, pre_ro hK hN va_nil⟩ rfl rfl hl.1 rfl (lv_room (Nat.le_of_ble_eq_true rfl)) d_PC_init_14 ⟨Nat.le_of_ble_eq_true rfl, Nat.le_of_ble_eq_true rfl⟩)) (fun r_2 er_2 => ?_)
  have er_2 : r_2 = f_PC_pictureSize ah := er_2
  refine va_putF (D := (dC, dI)) (ci := 0) (v := .int r_2) (ty := .int) (C := R_PC) (T := F_PC) (N := 8) hx hb hts (fun w h => mw (i_PC w h)) t_PC t_PC_ok n_PC hown hK hP hD hS 0 rfl rfl 1 (by decide) (hts _ (mw wd_82)) (fun _ h9 => h9) rfl hin rfl (by decide +kernel) rfl rfl (Nat.le_of_ble_eq_true rfl) d_PC_init_17 (fun H locs hP hD hS => ?_)
  have hP : va_P (dC, dI) cls4 [(ob, .inr (0, [.int r_1, .int r_2, .int 0, .null, .null, .null, .null, .null]))] H := hP
  have hD : va_D A [(ob, .inr (0, [.int r_1, .int r_2, .int 0, .null, .null, .null, .null, .null]))] := hD
  refine lv_aload_n hx hb d_PC_init_20 rfl (lv_at hl 0 rfl) ?_
  refine lv_bipush (v := 32) hx hb d_PC_init_21 (by decide) ?_
  refine va_put (D := (dC, dI)) (ci := 0) (v := .int 32) (ty := .int) (C := R_PC) (T := F_PC) (N := 8) hx hb hts (fun w h => mw (i_PC w h)) t_PC t_PC_ok n_PC hown hK hP hD hS 0 rfl rfl 2 (by decide) (hts _ (mw wd_83)) (fun _ h9 => h9) rfl (by decide +kernel) rfl rfl (Nat.le_of_ble_eq_true rfl) d_PC_init_23 (fun H locs hP hD hS => ?_)
  have hP : va_P (dC, dI) cls4 [(ob, .inr (0, [.int r_1, .int r_2, .int 32, .null, .null, .null, .null, .null]))] H := hP
  have hD : va_D A [(ob, .inr (0, [.int r_1, .int r_2, .int 32, .null, .null, .null, .null, .null]))] := hD
  refine lv_aload_n hx hb d_PC_init_26 rfl (lv_at hl 0 rfl) ?_
  refine va_new (ci := 1) (fs := [.null, .int 0]) (C := R_Ri) (T := F_Ri) (N := 2) hx hb hts (fun w h => mw (i_Ri w h)) t_Ri t_Ri_ok hown (hts _ (mw wd_55)) (hts _ (mw wd_56)) (hts _ (mw wd_35)) hK hP hD hS hA rfl (fun j hj => by rcases (show j = 0 ∨ j = 1 by omega) with rfl | rfl <;> rfl) (Nat.le_of_ble_eq_true rfl) (Nat.le_of_ble_eq_true rfl) d_PC_init_27 (fun q_3 H hP hD hS => ?_)
  have hP : va_P (dC, dI) cls4 [(ob, .inr (0, [.int r_1, .int r_2, .int 32, .null, .null, .null, .null, .null])), (q_3, .inr (1, [.null, .int 0]))] H := hP
  have hD : va_D A [(ob, .inr (0, [.int r_1, .int r_2, .int 32, .null, .null, .null, .null, .null])), (q_3, .inr (1, [.null, .int 0]))] := hD
  refine lv_dup hx hb d_PC_init_30 rfl ?_
  have hPc := hP.sub (ws' := [(q_3, .inr (1, [.null, .int 0]))]) [1] rfl
  have hDc := hD.sub (ws' := [(q_3, .inr (1, [.null, .int 0]))]) [1] (by decide) rfl
  have hFc := va_free (wc := [(q_3, .inr (1, [.null, .int 0]))]) hD hS hA [1] rfl
  refine va_callv (va_runIN (As := []) (rest := [.ref q_3, .ref ob]) ⟨hx, hb, hml, hown, hts⟩ (c_Ri_init l dC dI cJ cI H.size q_3) (⟨va_cnB 0 hts (gd_0 wd_58) rfl rfl rfl (hN _ nw_0) (hts _ (mw wd_35)) (by decide +kernel) ⟨Nat.le_of_ble_eq_true rfl, Nat.le_of_ble_eq_true rfl⟩, rfl, (hts _ (mw wd_57))⟩) ⟨fb_rw, pre_rw hK hN hPc hDc⟩ rfl rfl hl.1 rfl (lv_room (Nat.le_of_ble_eq_true rfl)) d_PC_init_31 ⟨Nat.le_of_ble_eq_true rfl, Nat.le_of_ble_eq_true rfl⟩) hS (fun q _ h => hFc q h) hFc (fun u t H locs ht hvm hw hB hz1 hk1 hS => ?_)
  obtain ⟨ria_4, hP1, hD1, hrel_5⟩ := hB
  rw [ht] at hP1
  obtain ⟨hP, hD⟩ := va_join (wr := [(ob, .inr (0, [.int r_1, .int r_2, .int 32, .null, .null, .null, .null, .null]))]) (w1 := [(q_3, .inr (1, [.ref ria_4, .int 0])), (ria_4, .inl (cJ, 114, .inr (.inl (fun _ => 0))))]) hP hD [1] [0] rfl rfl (by decide) (by decide) hk1 hFc hP1 hD1
  have hP : va_P (dC, dI) cls4 [(ob, .inr (0, [.int r_1, .int r_2, .int 32, .null, .null, .null, .null, .null])), (q_3, .inr (1, [.ref ria_4, .int 0])), (ria_4, .inl (cJ, 114, .inr (.inl (fun _ => 0))))] H := hP
  have hD : va_D A [(ob, .inr (0, [.int r_1, .int r_2, .int 32, .null, .null, .null, .null, .null])), (q_3, .inr (1, [.ref ria_4, .int 0])), (ria_4, .inl (cJ, 114, .inr (.inl (fun _ => 0))))] := hD
  refine va_putF (D := (dC, dI)) (ci := 0) (v := .ref q_3) (ty := (.object "PieceCutter$Ring")) (C := R_PC) (T := F_PC) (N := 8) hx hb hts (fun w h => mw (i_PC w h)) t_PC t_PC_ok n_PC hown hK hP hD hS 0 rfl rfl 3 (by decide) (hts _ (mw wd_84)) (fun _ h9 => h9) rfl hin rfl (by decide +kernel) rfl rfl (Nat.le_of_ble_eq_true rfl) d_PC_init_34 (fun H locs hP hD hS => ?_)
  have hP : va_P (dC, dI) cls4 [(ob, .inr (0, [.int r_1, .int r_2, .int 32, .ref q_3, .null, .null, .null, .null])), (q_3, .inr (1, [.ref ria_4, .int 0])), (ria_4, .inl (cJ, 114, .inr (.inl (fun _ => 0))))] H := hP
  have hD : va_D A [(ob, .inr (0, [.int r_1, .int r_2, .int 32, .ref q_3, .null, .null, .null, .null])), (q_3, .inr (1, [.ref ria_4, .int 0])), (ria_4, .inl (cJ, 114, .inr (.inl (fun _ => 0))))] := hD
  refine lv_iconst (v := 0) hx hb d_PC_init_37 (by decide) ?_
  refine lv_istore_n (lv' := [(3, .int 0), (0, .ref ob), (1, .int aw), (2, .int ah)]) hx hb d_PC_init_38 rfl hl (by decide) rfl (fun ls hl => ?_)
  refine lv_iload_n hx hb d_PC_init_39 rfl (lv_at hl 0 rfl) ?_
  refine lv_iconst (v := 3) hx hb d_PC_init_40 (by decide) ?_
  refine lv_icmp_ge (tgt := 58) hx hb d_PC_init_41 (by decide) (fun c_6 => absurd c_6 (by decide)) (fun _ => ?_)
  refine lv_aload_n hx hb d_PC_init_44 rfl (lv_at hl 1 rfl) ?_
  refine va_get (D := (dC, dI)) (ci := 0) (v := .ref q_3) (C := R_PC) (T := F_PC) (N := 8) hx hb hts (fun w h => mw (i_PC w h)) hown hK hP 0 rfl rfl 3 (by decide) (hts _ (mw wd_84)) (fun _ h9 => h9) rfl d_PC_init_45 ?_
  have hPc := hP.sub (ws' := [(q_3, .inr (1, [.ref ria_4, .int 0])), (ria_4, .inl (cJ, 114, .inr (.inl (fun _ => 0))))]) [1, 2] rfl
  have hDc := hD.sub (ws' := [(q_3, .inr (1, [.ref ria_4, .int 0])), (ria_4, .inl (cJ, 114, .inr (.inl (fun _ => 0))))]) [1, 2] (by decide) rfl
  have hFc := va_free (wc := [(q_3, .inr (1, [.ref ria_4, .int 0])), (ria_4, .inl (cJ, 114, .inr (.inl (fun _ => 0))))]) hD hS hA [1, 2] rfl
  refine va_calli (va_runVN (As := []) (rest := []) ⟨hx, hb, hml, hown, hts⟩ (c_Ri_addRow l dC dI cJ cI H.size q_3 ria_4 0 (fun _ => 0)) (⟨va_cnB 0 hts (gd_0 wd_66) rfl rfl rfl (hN _ nw_2) (hts _ (mw wd_35)) (by decide +kernel) ⟨Nat.le_of_ble_eq_true rfl, Nat.le_of_ble_eq_true rfl⟩, (hts _ (mw wd_65)), (hts _ (mw wd_0))⟩) ⟨fb_rw, va_recv hK hPc (ci := 1) (q0 := 0) rfl rfl, pre_rw hK hN hPc hDc⟩ rfl rfl hl.1 rfl (lv_room (Nat.le_of_ble_eq_true rfl)) d_PC_init_48 ⟨Nat.le_of_ble_eq_true rfl, Nat.le_of_ble_eq_true rfl⟩) hS (fun q _ h => hFc q h) hFc (fun r_7 u t H locs ht hvm hw hB hz1 hk1 hS => ?_)
  obtain ⟨hP1, hD1⟩ := hB
  rw [ht] at hP1
  obtain ⟨hP, hD⟩ := va_join (wr := [(ob, .inr (0, [.int r_1, .int r_2, .int 32, .ref q_3, .null, .null, .null, .null]))]) (w1 := [(q_3, .inr (1, [.ref ria_4, .int (f_Ri_addRow_0_1 0)])), (ria_4, .inl (cJ, 114, .inr (.inl (fun _ => 0))))]) hP hD [1, 2] [0] rfl rfl (by decide) (by decide) hk1 hFc hP1 hD1
  have er_7 := hw
  have er_7 : r_7 = f_Ri_addRow_r 0 := er_7
  have hP : va_P (dC, dI) cls4 [(ob, .inr (0, [.int r_1, .int r_2, .int 32, .ref q_3, .null, .null, .null, .null])), (q_3, .inr (1, [.ref ria_4, .int (f_Ri_addRow_0_1 0)])), (ria_4, .inl (cJ, 114, .inr (.inl (fun _ => 0))))] H := hP
  have hD : va_D A [(ob, .inr (0, [.int r_1, .int r_2, .int 32, .ref q_3, .null, .null, .null, .null])), (q_3, .inr (1, [.ref ria_4, .int (f_Ri_addRow_0_1 0)])), (ria_4, .inl (cJ, 114, .inr (.inl (fun _ => 0))))] := hD
  refine lv_pop hx hb d_PC_init_51 rfl ?_
  refine lv_iinc (v := 1) (lv' := [(3, .int 1), (0, .ref ob), (1, .int aw), (2, .int ah)]) hx hb d_PC_init_52 hl (k := 0) rfl (by decide) (by decide) rfl (fun ls hl => ?_)
  refine lv_goto (tgt := 39) hx hb d_PC_init_55 (by decide) ?_
  refine lv_iload_n hx hb d_PC_init_39 rfl (lv_at hl 0 rfl) ?_
  refine lv_iconst (v := 3) hx hb d_PC_init_40 (by decide) ?_
  refine lv_icmp_ge (tgt := 58) hx hb d_PC_init_41 (by decide) (fun c_8 => absurd c_8 (by decide)) (fun _ => ?_)
  refine lv_aload_n hx hb d_PC_init_44 rfl (lv_at hl 1 rfl) ?_
  refine va_get (D := (dC, dI)) (ci := 0) (v := .ref q_3) (C := R_PC) (T := F_PC) (N := 8) hx hb hts (fun w h => mw (i_PC w h)) hown hK hP 0 rfl rfl 3 (by decide) (hts _ (mw wd_84)) (fun _ h9 => h9) rfl d_PC_init_45 ?_
  have hPc := hP.sub (ws' := [(q_3, .inr (1, [.ref ria_4, .int (f_Ri_addRow_0_1 0)])), (ria_4, .inl (cJ, 114, .inr (.inl (fun _ => 0))))]) [1, 2] rfl
  have hDc := hD.sub (ws' := [(q_3, .inr (1, [.ref ria_4, .int (f_Ri_addRow_0_1 0)])), (ria_4, .inl (cJ, 114, .inr (.inl (fun _ => 0))))]) [1, 2] (by decide) rfl
  have hFc := va_free (wc := [(q_3, .inr (1, [.ref ria_4, .int (f_Ri_addRow_0_1 0)])), (ria_4, .inl (cJ, 114, .inr (.inl (fun _ => 0))))]) hD hS hA [1, 2] rfl
  refine va_calli (va_runVN (As := []) (rest := []) ⟨hx, hb, hml, hown, hts⟩ (c_Ri_addRow l dC dI cJ cI H.size q_3 ria_4 (f_Ri_addRow_0_1 0) (fun _ => 0)) (⟨va_cnB 0 hts (gd_0 wd_66) rfl rfl rfl (hN _ nw_2) (hts _ (mw wd_35)) (by decide +kernel) ⟨Nat.le_of_ble_eq_true rfl, Nat.le_of_ble_eq_true rfl⟩, (hts _ (mw wd_65)), (hts _ (mw wd_0))⟩) ⟨fb_rw, va_recv hK hPc (ci := 1) (q0 := 0) rfl rfl, pre_rw hK hN hPc hDc⟩ rfl rfl hl.1 rfl (lv_room (Nat.le_of_ble_eq_true rfl)) d_PC_init_48 ⟨Nat.le_of_ble_eq_true rfl, Nat.le_of_ble_eq_true rfl⟩) hS (fun q _ h => hFc q h) hFc (fun r_9 u t H locs ht hvm hw hB hz1 hk1 hS => ?_)
  obtain ⟨hP1, hD1⟩ := hB
  rw [ht] at hP1
  obtain ⟨hP, hD⟩ := va_join (wr := [(ob, .inr (0, [.int r_1, .int r_2, .int 32, .ref q_3, .null, .null, .null, .null]))]) (w1 := [(q_3, .inr (1, [.ref ria_4, .int (f_Ri_addRow_0_1 (f_Ri_addRow_0_1 0))])), (ria_4, .inl (cJ, 114, .inr (.inl (fun _ => 0))))]) hP hD [1, 2] [0] rfl rfl (by decide) (by decide) hk1 hFc hP1 hD1
  have er_9 := hw
  have er_9 : r_9 = f_Ri_addRow_r (f_Ri_addRow_0_1 0) := er_9
  have hP : va_P (dC, dI) cls4 [(ob, .inr (0, [.int r_1, .int r_2, .int 32, .ref q_3, .null, .null, .null, .null])), (q_3, .inr (1, [.ref ria_4, .int (f_Ri_addRow_0_1 (f_Ri_addRow_0_1 0))])), (ria_4, .inl (cJ, 114, .inr (.inl (fun _ => 0))))] H := hP
  have hD : va_D A [(ob, .inr (0, [.int r_1, .int r_2, .int 32, .ref q_3, .null, .null, .null, .null])), (q_3, .inr (1, [.ref ria_4, .int (f_Ri_addRow_0_1 (f_Ri_addRow_0_1 0))])), (ria_4, .inl (cJ, 114, .inr (.inl (fun _ => 0))))] := hD
  refine lv_pop hx hb d_PC_init_51 rfl ?_
  refine lv_iinc (v := 2) (lv' := [(3, .int 2), (0, .ref ob), (1, .int aw), (2, .int ah)]) hx hb d_PC_init_52 hl (k := 0) rfl (by decide) (by decide) rfl (fun ls hl => ?_)
  refine lv_goto (tgt := 39) hx hb d_PC_init_55 (by decide) ?_
  refine lv_iload_n hx hb d_PC_init_39 rfl (lv_at hl 0 rfl) ?_
  refine lv_iconst (v := 3) hx hb d_PC_init_40 (by decide) ?_
  refine lv_icmp_ge (tgt := 58) hx hb d_PC_init_41 (by decide) (fun c_10 => absurd c_10 (by decide)) (fun _ => ?_)
  refine lv_aload_n hx hb d_PC_init_44 rfl (lv_at hl 1 rfl) ?_
  refine va_get (D := (dC, dI)) (ci := 0) (v := .ref q_3) (C := R_PC) (T := F_PC) (N := 8) hx hb hts (fun w h => mw (i_PC w h)) hown hK hP 0 rfl rfl 3 (by decide) (hts _ (mw wd_84)) (fun _ h9 => h9) rfl d_PC_init_45 ?_
  have hPc := hP.sub (ws' := [(q_3, .inr (1, [.ref ria_4, .int (f_Ri_addRow_0_1 (f_Ri_addRow_0_1 0))])), (ria_4, .inl (cJ, 114, .inr (.inl (fun _ => 0))))]) [1, 2] rfl
  have hDc := hD.sub (ws' := [(q_3, .inr (1, [.ref ria_4, .int (f_Ri_addRow_0_1 (f_Ri_addRow_0_1 0))])), (ria_4, .inl (cJ, 114, .inr (.inl (fun _ => 0))))]) [1, 2] (by decide) rfl
  have hFc := va_free (wc := [(q_3, .inr (1, [.ref ria_4, .int (f_Ri_addRow_0_1 (f_Ri_addRow_0_1 0))])), (ria_4, .inl (cJ, 114, .inr (.inl (fun _ => 0))))]) hD hS hA [1, 2] rfl
  refine va_calli (va_runVN (As := []) (rest := []) ⟨hx, hb, hml, hown, hts⟩ (c_Ri_addRow l dC dI cJ cI H.size q_3 ria_4 (f_Ri_addRow_0_1 (f_Ri_addRow_0_1 0)) (fun _ => 0)) (⟨va_cnB 0 hts (gd_0 wd_66) rfl rfl rfl (hN _ nw_2) (hts _ (mw wd_35)) (by decide +kernel) ⟨Nat.le_of_ble_eq_true rfl, Nat.le_of_ble_eq_true rfl⟩, (hts _ (mw wd_65)), (hts _ (mw wd_0))⟩) ⟨fb_rw, va_recv hK hPc (ci := 1) (q0 := 0) rfl rfl, pre_rw hK hN hPc hDc⟩ rfl rfl hl.1 rfl (lv_room (Nat.le_of_ble_eq_true rfl)) d_PC_init_48 ⟨Nat.le_of_ble_eq_true rfl, Nat.le_of_ble_eq_true rfl⟩) hS (fun q _ h => hFc q h) hFc (fun r_11 u t H locs ht hvm hw hB hz1 hk1 hS => ?_)
  obtain ⟨hP1, hD1⟩ := hB
  rw [ht] at hP1
  obtain ⟨hP, hD⟩ := va_join (wr := [(ob, .inr (0, [.int r_1, .int r_2, .int 32, .ref q_3, .null, .null, .null, .null]))]) (w1 := [(q_3, .inr (1, [.ref ria_4, .int (f_Ri_addRow_0_1 (f_Ri_addRow_0_1 (f_Ri_addRow_0_1 0)))])), (ria_4, .inl (cJ, 114, .inr (.inl (fun _ => 0))))]) hP hD [1, 2] [0] rfl rfl (by decide) (by decide) hk1 hFc hP1 hD1
  have er_11 := hw
  have er_11 : r_11 = f_Ri_addRow_r (f_Ri_addRow_0_1 (f_Ri_addRow_0_1 0)) := er_11
  have hP : va_P (dC, dI) cls4 [(ob, .inr (0, [.int r_1, .int r_2, .int 32, .ref q_3, .null, .null, .null, .null])), (q_3, .inr (1, [.ref ria_4, .int (f_Ri_addRow_0_1 (f_Ri_addRow_0_1 (f_Ri_addRow_0_1 0)))])), (ria_4, .inl (cJ, 114, .inr (.inl (fun _ => 0))))] H := hP
  have hD : va_D A [(ob, .inr (0, [.int r_1, .int r_2, .int 32, .ref q_3, .null, .null, .null, .null])), (q_3, .inr (1, [.ref ria_4, .int (f_Ri_addRow_0_1 (f_Ri_addRow_0_1 (f_Ri_addRow_0_1 0)))])), (ria_4, .inl (cJ, 114, .inr (.inl (fun _ => 0))))] := hD
  refine lv_pop hx hb d_PC_init_51 rfl ?_
  refine lv_iinc (v := 3) (lv' := [(3, .int 3), (0, .ref ob), (1, .int aw), (2, .int ah)]) hx hb d_PC_init_52 hl (k := 0) rfl (by decide) (by decide) rfl (fun ls hl => ?_)
  refine lv_goto (tgt := 39) hx hb d_PC_init_55 (by decide) ?_
  refine lv_iload_n hx hb d_PC_init_39 rfl (lv_at hl 0 rfl) ?_
  refine lv_iconst (v := 3) hx hb d_PC_init_40 (by decide) ?_
  refine lv_icmp_ge (tgt := 58) hx hb d_PC_init_41 (by decide) (fun _ => ?_) (fun c_12 => absurd (by decide) c_12)
  refine lv_aload_n hx hb d_PC_init_58 rfl (lv_at hl 1 rfl) ?_
  refine va_new (ci := 1) (fs := [.null, .int 0]) (C := R_Ri) (T := F_Ri) (N := 2) hx hb hts (fun w h => mw (i_Ri w h)) t_Ri t_Ri_ok hown (hts _ (mw wd_55)) (hts _ (mw wd_56)) (hts _ (mw wd_35)) hK hP hD hS hA rfl (fun j hj => by rcases (show j = 0 ∨ j = 1 by omega) with rfl | rfl <;> rfl) (Nat.le_of_ble_eq_true rfl) (Nat.le_of_ble_eq_true rfl) d_PC_init_59 (fun q_13 H hP hD hS => ?_)
  have hP : va_P (dC, dI) cls4 [(ob, .inr (0, [.int r_1, .int r_2, .int 32, .ref q_3, .null, .null, .null, .null])), (q_3, .inr (1, [.ref ria_4, .int (f_Ri_addRow_0_1 (f_Ri_addRow_0_1 (f_Ri_addRow_0_1 0)))])), (ria_4, .inl (cJ, 114, .inr (.inl (fun _ => 0)))), (q_13, .inr (1, [.null, .int 0]))] H := hP
  have hD : va_D A [(ob, .inr (0, [.int r_1, .int r_2, .int 32, .ref q_3, .null, .null, .null, .null])), (q_3, .inr (1, [.ref ria_4, .int (f_Ri_addRow_0_1 (f_Ri_addRow_0_1 (f_Ri_addRow_0_1 0)))])), (ria_4, .inl (cJ, 114, .inr (.inl (fun _ => 0)))), (q_13, .inr (1, [.null, .int 0]))] := hD
  refine lv_dup hx hb d_PC_init_62 rfl ?_
  have hPc := hP.sub (ws' := [(q_13, .inr (1, [.null, .int 0]))]) [3] rfl
  have hDc := hD.sub (ws' := [(q_13, .inr (1, [.null, .int 0]))]) [3] (by decide) rfl
  have hFc := va_free (wc := [(q_13, .inr (1, [.null, .int 0]))]) hD hS hA [3] rfl
  refine va_callv (va_runIN (As := []) (rest := [.ref q_13, .ref ob]) ⟨hx, hb, hml, hown, hts⟩ (c_Ri_init l dC dI cJ cI H.size q_13) (⟨va_cnB 0 hts (gd_0 wd_58) rfl rfl rfl (hN _ nw_0) (hts _ (mw wd_35)) (by decide +kernel) ⟨Nat.le_of_ble_eq_true rfl, Nat.le_of_ble_eq_true rfl⟩, rfl, (hts _ (mw wd_57))⟩) ⟨fb_rw, pre_rw hK hN hPc hDc⟩ rfl rfl hl.1 rfl (lv_room (Nat.le_of_ble_eq_true rfl)) d_PC_init_63 ⟨Nat.le_of_ble_eq_true rfl, Nat.le_of_ble_eq_true rfl⟩) hS (fun q _ h => hFc q h) hFc (fun u t H locs ht hvm hw hB hz1 hk1 hS => ?_)
  obtain ⟨ria_14, hP1, hD1, hrel_15⟩ := hB
  rw [ht] at hP1
  obtain ⟨hP, hD⟩ := va_join (wr := [(ob, .inr (0, [.int r_1, .int r_2, .int 32, .ref q_3, .null, .null, .null, .null])), (q_3, .inr (1, [.ref ria_4, .int (f_Ri_addRow_0_1 (f_Ri_addRow_0_1 (f_Ri_addRow_0_1 0)))])), (ria_4, .inl (cJ, 114, .inr (.inl (fun _ => 0))))]) (w1 := [(q_13, .inr (1, [.ref ria_14, .int 0])), (ria_14, .inl (cJ, 114, .inr (.inl (fun _ => 0))))]) hP hD [3] [0, 1, 2] rfl rfl (by decide) (by decide) hk1 hFc hP1 hD1
  have hP : va_P (dC, dI) cls4 [(ob, .inr (0, [.int r_1, .int r_2, .int 32, .ref q_3, .null, .null, .null, .null])), (q_3, .inr (1, [.ref ria_4, .int (f_Ri_addRow_0_1 (f_Ri_addRow_0_1 (f_Ri_addRow_0_1 0)))])), (ria_4, .inl (cJ, 114, .inr (.inl (fun _ => 0)))), (q_13, .inr (1, [.ref ria_14, .int 0])), (ria_14, .inl (cJ, 114, .inr (.inl (fun _ => 0))))] H := hP
  have hD : va_D A [(ob, .inr (0, [.int r_1, .int r_2, .int 32, .ref q_3, .null, .null, .null, .null])), (q_3, .inr (1, [.ref ria_4, .int (f_Ri_addRow_0_1 (f_Ri_addRow_0_1 (f_Ri_addRow_0_1 0)))])), (ria_4, .inl (cJ, 114, .inr (.inl (fun _ => 0)))), (q_13, .inr (1, [.ref ria_14, .int 0])), (ria_14, .inl (cJ, 114, .inr (.inl (fun _ => 0))))] := hD
  refine va_put (D := (dC, dI)) (ci := 0) (v := .ref q_13) (ty := (.object "PieceCutter$Ring")) (C := R_PC) (T := F_PC) (N := 8) hx hb hts (fun w h => mw (i_PC w h)) t_PC t_PC_ok n_PC hown hK hP hD hS 0 rfl rfl 4 (by decide) (hts _ (mw wd_85)) (fun _ h9 => h9) rfl (by decide +kernel) rfl rfl (Nat.le_of_ble_eq_true rfl) d_PC_init_66 (fun H locs hP hD hS => ?_)
  have hP : va_P (dC, dI) cls4 [(ob, .inr (0, [.int r_1, .int r_2, .int 32, .ref q_3, .ref q_13, .null, .null, .null])), (q_3, .inr (1, [.ref ria_4, .int (f_Ri_addRow_0_1 (f_Ri_addRow_0_1 (f_Ri_addRow_0_1 0)))])), (ria_4, .inl (cJ, 114, .inr (.inl (fun _ => 0)))), (q_13, .inr (1, [.ref ria_14, .int 0])), (ria_14, .inl (cJ, 114, .inr (.inl (fun _ => 0))))] H := hP
  have hD : va_D A [(ob, .inr (0, [.int r_1, .int r_2, .int 32, .ref q_3, .ref q_13, .null, .null, .null])), (q_3, .inr (1, [.ref ria_4, .int (f_Ri_addRow_0_1 (f_Ri_addRow_0_1 (f_Ri_addRow_0_1 0)))])), (ria_4, .inl (cJ, 114, .inr (.inl (fun _ => 0)))), (q_13, .inr (1, [.ref ria_14, .int 0])), (ria_14, .inl (cJ, 114, .inr (.inl (fun _ => 0))))] := hD
  refine lv_aload_n hx hb d_PC_init_69 rfl (lv_at hl 1 rfl) ?_
  refine va_new (ci := 1) (fs := [.null, .int 0]) (C := R_Ri) (T := F_Ri) (N := 2) hx hb hts (fun w h => mw (i_Ri w h)) t_Ri t_Ri_ok hown (hts _ (mw wd_55)) (hts _ (mw wd_56)) (hts _ (mw wd_35)) hK hP hD hS hA rfl (fun j hj => by rcases (show j = 0 ∨ j = 1 by omega) with rfl | rfl <;> rfl) (Nat.le_of_ble_eq_true rfl) (Nat.le_of_ble_eq_true rfl) d_PC_init_70 (fun q_16 H hP hD hS => ?_)
  have hP : va_P (dC, dI) cls4 [(ob, .inr (0, [.int r_1, .int r_2, .int 32, .ref q_3, .ref q_13, .null, .null, .null])), (q_3, .inr (1, [.ref ria_4, .int (f_Ri_addRow_0_1 (f_Ri_addRow_0_1 (f_Ri_addRow_0_1 0)))])), (ria_4, .inl (cJ, 114, .inr (.inl (fun _ => 0)))), (q_13, .inr (1, [.ref ria_14, .int 0])), (ria_14, .inl (cJ, 114, .inr (.inl (fun _ => 0)))), (q_16, .inr (1, [.null, .int 0]))] H := hP
  have hD : va_D A [(ob, .inr (0, [.int r_1, .int r_2, .int 32, .ref q_3, .ref q_13, .null, .null, .null])), (q_3, .inr (1, [.ref ria_4, .int (f_Ri_addRow_0_1 (f_Ri_addRow_0_1 (f_Ri_addRow_0_1 0)))])), (ria_4, .inl (cJ, 114, .inr (.inl (fun _ => 0)))), (q_13, .inr (1, [.ref ria_14, .int 0])), (ria_14, .inl (cJ, 114, .inr (.inl (fun _ => 0)))), (q_16, .inr (1, [.null, .int 0]))] := hD
  refine lv_dup hx hb d_PC_init_73 rfl ?_
  have hPc := hP.sub (ws' := [(q_16, .inr (1, [.null, .int 0]))]) [5] rfl
  have hDc := hD.sub (ws' := [(q_16, .inr (1, [.null, .int 0]))]) [5] (by decide) rfl
  have hFc := va_free (wc := [(q_16, .inr (1, [.null, .int 0]))]) hD hS hA [5] rfl
  refine va_callv (va_runIN (As := []) (rest := [.ref q_16, .ref ob]) ⟨hx, hb, hml, hown, hts⟩ (c_Ri_init l dC dI cJ cI H.size q_16) (⟨va_cnB 0 hts (gd_0 wd_58) rfl rfl rfl (hN _ nw_0) (hts _ (mw wd_35)) (by decide +kernel) ⟨Nat.le_of_ble_eq_true rfl, Nat.le_of_ble_eq_true rfl⟩, rfl, (hts _ (mw wd_57))⟩) ⟨fb_rw, pre_rw hK hN hPc hDc⟩ rfl rfl hl.1 rfl (lv_room (Nat.le_of_ble_eq_true rfl)) d_PC_init_74 ⟨Nat.le_of_ble_eq_true rfl, Nat.le_of_ble_eq_true rfl⟩) hS (fun q _ h => hFc q h) hFc (fun u t H locs ht hvm hw hB hz1 hk1 hS => ?_)
  obtain ⟨ria_17, hP1, hD1, hrel_18⟩ := hB
  rw [ht] at hP1
  obtain ⟨hP, hD⟩ := va_join (wr := [(ob, .inr (0, [.int r_1, .int r_2, .int 32, .ref q_3, .ref q_13, .null, .null, .null])), (q_3, .inr (1, [.ref ria_4, .int (f_Ri_addRow_0_1 (f_Ri_addRow_0_1 (f_Ri_addRow_0_1 0)))])), (ria_4, .inl (cJ, 114, .inr (.inl (fun _ => 0)))), (q_13, .inr (1, [.ref ria_14, .int 0])), (ria_14, .inl (cJ, 114, .inr (.inl (fun _ => 0))))]) (w1 := [(q_16, .inr (1, [.ref ria_17, .int 0])), (ria_17, .inl (cJ, 114, .inr (.inl (fun _ => 0))))]) hP hD [5] [0, 1, 2, 3, 4] rfl rfl (by decide) (by decide) hk1 hFc hP1 hD1
  have hP : va_P (dC, dI) cls4 [(ob, .inr (0, [.int r_1, .int r_2, .int 32, .ref q_3, .ref q_13, .null, .null, .null])), (q_3, .inr (1, [.ref ria_4, .int (f_Ri_addRow_0_1 (f_Ri_addRow_0_1 (f_Ri_addRow_0_1 0)))])), (ria_4, .inl (cJ, 114, .inr (.inl (fun _ => 0)))), (q_13, .inr (1, [.ref ria_14, .int 0])), (ria_14, .inl (cJ, 114, .inr (.inl (fun _ => 0)))), (q_16, .inr (1, [.ref ria_17, .int 0])), (ria_17, .inl (cJ, 114, .inr (.inl (fun _ => 0))))] H := hP
  have hD : va_D A [(ob, .inr (0, [.int r_1, .int r_2, .int 32, .ref q_3, .ref q_13, .null, .null, .null])), (q_3, .inr (1, [.ref ria_4, .int (f_Ri_addRow_0_1 (f_Ri_addRow_0_1 (f_Ri_addRow_0_1 0)))])), (ria_4, .inl (cJ, 114, .inr (.inl (fun _ => 0)))), (q_13, .inr (1, [.ref ria_14, .int 0])), (ria_14, .inl (cJ, 114, .inr (.inl (fun _ => 0)))), (q_16, .inr (1, [.ref ria_17, .int 0])), (ria_17, .inl (cJ, 114, .inr (.inl (fun _ => 0))))] := hD
  refine va_put (D := (dC, dI)) (ci := 0) (v := .ref q_16) (ty := (.object "PieceCutter$Ring")) (C := R_PC) (T := F_PC) (N := 8) hx hb hts (fun w h => mw (i_PC w h)) t_PC t_PC_ok n_PC hown hK hP hD hS 0 rfl rfl 5 (by decide) (hts _ (mw wd_86)) (fun _ h9 => h9) rfl (by decide +kernel) rfl rfl (Nat.le_of_ble_eq_true rfl) d_PC_init_77 (fun H locs hP hD hS => ?_)
  have hP : va_P (dC, dI) cls4 [(ob, .inr (0, [.int r_1, .int r_2, .int 32, .ref q_3, .ref q_13, .ref q_16, .null, .null])), (q_3, .inr (1, [.ref ria_4, .int (f_Ri_addRow_0_1 (f_Ri_addRow_0_1 (f_Ri_addRow_0_1 0)))])), (ria_4, .inl (cJ, 114, .inr (.inl (fun _ => 0)))), (q_13, .inr (1, [.ref ria_14, .int 0])), (ria_14, .inl (cJ, 114, .inr (.inl (fun _ => 0)))), (q_16, .inr (1, [.ref ria_17, .int 0])), (ria_17, .inl (cJ, 114, .inr (.inl (fun _ => 0))))] H := hP
  have hD : va_D A [(ob, .inr (0, [.int r_1, .int r_2, .int 32, .ref q_3, .ref q_13, .ref q_16, .null, .null])), (q_3, .inr (1, [.ref ria_4, .int (f_Ri_addRow_0_1 (f_Ri_addRow_0_1 (f_Ri_addRow_0_1 0)))])), (ria_4, .inl (cJ, 114, .inr (.inl (fun _ => 0)))), (q_13, .inr (1, [.ref ria_14, .int 0])), (ria_14, .inl (cJ, 114, .inr (.inl (fun _ => 0)))), (q_16, .inr (1, [.ref ria_17, .int 0])), (ria_17, .inl (cJ, 114, .inr (.inl (fun _ => 0))))] := hD
  refine lv_aload_n hx hb d_PC_init_80 rfl (lv_at hl 1 rfl) ?_
  refine va_new (ci := 1) (fs := [.null, .int 0]) (C := R_Ri) (T := F_Ri) (N := 2) hx hb hts (fun w h => mw (i_Ri w h)) t_Ri t_Ri_ok hown (hts _ (mw wd_55)) (hts _ (mw wd_56)) (hts _ (mw wd_35)) hK hP hD hS hA rfl (fun j hj => by rcases (show j = 0 ∨ j = 1 by omega) with rfl | rfl <;> rfl) (Nat.le_of_ble_eq_true rfl) (Nat.le_of_ble_eq_true rfl) d_PC_init_81 (fun q_19 H hP hD hS => ?_)
  have hP : va_P (dC, dI) cls4 [(ob, .inr (0, [.int r_1, .int r_2, .int 32, .ref q_3, .ref q_13, .ref q_16, .null, .null])), (q_3, .inr (1, [.ref ria_4, .int (f_Ri_addRow_0_1 (f_Ri_addRow_0_1 (f_Ri_addRow_0_1 0)))])), (ria_4, .inl (cJ, 114, .inr (.inl (fun _ => 0)))), (q_13, .inr (1, [.ref ria_14, .int 0])), (ria_14, .inl (cJ, 114, .inr (.inl (fun _ => 0)))), (q_16, .inr (1, [.ref ria_17, .int 0])), (ria_17, .inl (cJ, 114, .inr (.inl (fun _ => 0)))), (q_19, .inr (1, [.null, .int 0]))] H := hP
  have hD : va_D A [(ob, .inr (0, [.int r_1, .int r_2, .int 32, .ref q_3, .ref q_13, .ref q_16, .null, .null])), (q_3, .inr (1, [.ref ria_4, .int (f_Ri_addRow_0_1 (f_Ri_addRow_0_1 (f_Ri_addRow_0_1 0)))])), (ria_4, .inl (cJ, 114, .inr (.inl (fun _ => 0)))), (q_13, .inr (1, [.ref ria_14, .int 0])), (ria_14, .inl (cJ, 114, .inr (.inl (fun _ => 0)))), (q_16, .inr (1, [.ref ria_17, .int 0])), (ria_17, .inl (cJ, 114, .inr (.inl (fun _ => 0)))), (q_19, .inr (1, [.null, .int 0]))] := hD
  refine lv_dup hx hb d_PC_init_84 rfl ?_
  have hPc := hP.sub (ws' := [(q_19, .inr (1, [.null, .int 0]))]) [7] rfl
  have hDc := hD.sub (ws' := [(q_19, .inr (1, [.null, .int 0]))]) [7] (by decide) rfl
  have hFc := va_free (wc := [(q_19, .inr (1, [.null, .int 0]))]) hD hS hA [7] rfl
  refine va_callv (va_runIN (As := []) (rest := [.ref q_19, .ref ob]) ⟨hx, hb, hml, hown, hts⟩ (c_Ri_init l dC dI cJ cI H.size q_19) (⟨va_cnB 0 hts (gd_0 wd_58) rfl rfl rfl (hN _ nw_0) (hts _ (mw wd_35)) (by decide +kernel) ⟨Nat.le_of_ble_eq_true rfl, Nat.le_of_ble_eq_true rfl⟩, rfl, (hts _ (mw wd_57))⟩) ⟨fb_rw, pre_rw hK hN hPc hDc⟩ rfl rfl hl.1 rfl (lv_room (Nat.le_of_ble_eq_true rfl)) d_PC_init_85 ⟨Nat.le_of_ble_eq_true rfl, Nat.le_of_ble_eq_true rfl⟩) hS (fun q _ h => hFc q h) hFc (fun u t H locs ht hvm hw hB hz1 hk1 hS => ?_)
  obtain ⟨ria_20, hP1, hD1, hrel_21⟩ := hB
  rw [ht] at hP1
  obtain ⟨hP, hD⟩ := va_join (wr := [(ob, .inr (0, [.int r_1, .int r_2, .int 32, .ref q_3, .ref q_13, .ref q_16, .null, .null])), (q_3, .inr (1, [.ref ria_4, .int (f_Ri_addRow_0_1 (f_Ri_addRow_0_1 (f_Ri_addRow_0_1 0)))])), (ria_4, .inl (cJ, 114, .inr (.inl (fun _ => 0)))), (q_13, .inr (1, [.ref ria_14, .int 0])), (ria_14, .inl (cJ, 114, .inr (.inl (fun _ => 0)))), (q_16, .inr (1, [.ref ria_17, .int 0])), (ria_17, .inl (cJ, 114, .inr (.inl (fun _ => 0))))]) (w1 := [(q_19, .inr (1, [.ref ria_20, .int 0])), (ria_20, .inl (cJ, 114, .inr (.inl (fun _ => 0))))]) hP hD [7] [0, 1, 2, 3, 4, 5, 6] rfl rfl (by decide) (by decide) hk1 hFc hP1 hD1
  have hP : va_P (dC, dI) cls4 [(ob, .inr (0, [.int r_1, .int r_2, .int 32, .ref q_3, .ref q_13, .ref q_16, .null, .null])), (q_3, .inr (1, [.ref ria_4, .int (f_Ri_addRow_0_1 (f_Ri_addRow_0_1 (f_Ri_addRow_0_1 0)))])), (ria_4, .inl (cJ, 114, .inr (.inl (fun _ => 0)))), (q_13, .inr (1, [.ref ria_14, .int 0])), (ria_14, .inl (cJ, 114, .inr (.inl (fun _ => 0)))), (q_16, .inr (1, [.ref ria_17, .int 0])), (ria_17, .inl (cJ, 114, .inr (.inl (fun _ => 0)))), (q_19, .inr (1, [.ref ria_20, .int 0])), (ria_20, .inl (cJ, 114, .inr (.inl (fun _ => 0))))] H := hP
  have hD : va_D A [(ob, .inr (0, [.int r_1, .int r_2, .int 32, .ref q_3, .ref q_13, .ref q_16, .null, .null])), (q_3, .inr (1, [.ref ria_4, .int (f_Ri_addRow_0_1 (f_Ri_addRow_0_1 (f_Ri_addRow_0_1 0)))])), (ria_4, .inl (cJ, 114, .inr (.inl (fun _ => 0)))), (q_13, .inr (1, [.ref ria_14, .int 0])), (ria_14, .inl (cJ, 114, .inr (.inl (fun _ => 0)))), (q_16, .inr (1, [.ref ria_17, .int 0])), (ria_17, .inl (cJ, 114, .inr (.inl (fun _ => 0)))), (q_19, .inr (1, [.ref ria_20, .int 0])), (ria_20, .inl (cJ, 114, .inr (.inl (fun _ => 0))))] := hD
  refine va_putF (D := (dC, dI)) (ci := 0) (v := .ref q_19) (ty := (.object "PieceCutter$Ring")) (C := R_PC) (T := F_PC) (N := 8) hx hb hts (fun w h => mw (i_PC w h)) t_PC t_PC_ok n_PC hown hK hP hD hS 0 rfl rfl 6 (by decide) (hts _ (mw wd_87)) (fun _ h9 => h9) rfl hin rfl (by decide +kernel) rfl rfl (Nat.le_of_ble_eq_true rfl) d_PC_init_88 (fun H locs hP hD hS => ?_)
  have hP : va_P (dC, dI) cls4 [(ob, .inr (0, [.int r_1, .int r_2, .int 32, .ref q_3, .ref q_13, .ref q_16, .ref q_19, .null])), (q_3, .inr (1, [.ref ria_4, .int (f_Ri_addRow_0_1 (f_Ri_addRow_0_1 (f_Ri_addRow_0_1 0)))])), (ria_4, .inl (cJ, 114, .inr (.inl (fun _ => 0)))), (q_13, .inr (1, [.ref ria_14, .int 0])), (ria_14, .inl (cJ, 114, .inr (.inl (fun _ => 0)))), (q_16, .inr (1, [.ref ria_17, .int 0])), (ria_17, .inl (cJ, 114, .inr (.inl (fun _ => 0)))), (q_19, .inr (1, [.ref ria_20, .int 0])), (ria_20, .inl (cJ, 114, .inr (.inl (fun _ => 0))))] H := hP
  have hD : va_D A [(ob, .inr (0, [.int r_1, .int r_2, .int 32, .ref q_3, .ref q_13, .ref q_16, .ref q_19, .null])), (q_3, .inr (1, [.ref ria_4, .int (f_Ri_addRow_0_1 (f_Ri_addRow_0_1 (f_Ri_addRow_0_1 0)))])), (ria_4, .inl (cJ, 114, .inr (.inl (fun _ => 0)))), (q_13, .inr (1, [.ref ria_14, .int 0])), (ria_14, .inl (cJ, 114, .inr (.inl (fun _ => 0)))), (q_16, .inr (1, [.ref ria_17, .int 0])), (ria_17, .inl (cJ, 114, .inr (.inl (fun _ => 0)))), (q_19, .inr (1, [.ref ria_20, .int 0])), (ria_20, .inl (cJ, 114, .inr (.inl (fun _ => 0))))] := hD
  refine lv_aload_n hx hb d_PC_init_91 rfl (lv_at hl 1 rfl) ?_
  refine va_new (ci := 2) (fs := [.null, .null, .null, .int 0]) (C := R_Fa) (T := F_Fa) (N := 4) hx hb hts (fun w h => mw (i_Fa w h)) t_Fa t_Fa_ok hown (hts _ (mw wd_67)) (hts _ (mw wd_68)) (hts _ (mw wd_36)) hK hP hD hS hA rfl (fun j hj => by rcases (show j = 0 ∨ j = 1 ∨ j = 2 ∨ j = 3 by omega) with rfl | rfl | rfl | rfl <;> rfl) (Nat.le_of_ble_eq_true rfl) (Nat.le_of_ble_eq_true rfl) d_PC_init_92 (fun q_22 H hP hD hS => ?_)
  have hP : va_P (dC, dI) cls4 [(ob, .inr (0, [.int r_1, .int r_2, .int 32, .ref q_3, .ref q_13, .ref q_16, .ref q_19, .null])), (q_3, .inr (1, [.ref ria_4, .int (f_Ri_addRow_0_1 (f_Ri_addRow_0_1 (f_Ri_addRow_0_1 0)))])), (ria_4, .inl (cJ, 114, .inr (.inl (fun _ => 0)))), (q_13, .inr (1, [.ref ria_14, .int 0])), (ria_14, .inl (cJ, 114, .inr (.inl (fun _ => 0)))), (q_16, .inr (1, [.ref ria_17, .int 0])), (ria_17, .inl (cJ, 114, .inr (.inl (fun _ => 0)))), (q_19, .inr (1, [.ref ria_20, .int 0])), (ria_20, .inl (cJ, 114, .inr (.inl (fun _ => 0)))), (q_22, .inr (2, [.null, .null, .null, .int 0]))] H := hP
  have hD : va_D A [(ob, .inr (0, [.int r_1, .int r_2, .int 32, .ref q_3, .ref q_13, .ref q_16, .ref q_19, .null])), (q_3, .inr (1, [.ref ria_4, .int (f_Ri_addRow_0_1 (f_Ri_addRow_0_1 (f_Ri_addRow_0_1 0)))])), (ria_4, .inl (cJ, 114, .inr (.inl (fun _ => 0)))), (q_13, .inr (1, [.ref ria_14, .int 0])), (ria_14, .inl (cJ, 114, .inr (.inl (fun _ => 0)))), (q_16, .inr (1, [.ref ria_17, .int 0])), (ria_17, .inl (cJ, 114, .inr (.inl (fun _ => 0)))), (q_19, .inr (1, [.ref ria_20, .int 0])), (ria_20, .inl (cJ, 114, .inr (.inl (fun _ => 0)))), (q_22, .inr (2, [.null, .null, .null, .int 0]))] := hD
  refine lv_dup hx hb d_PC_init_95 rfl ?_
  have hPc := hP.sub (ws' := [(q_22, .inr (2, [.null, .null, .null, .int 0]))]) [9] rfl
  have hDc := hD.sub (ws' := [(q_22, .inr (2, [.null, .null, .null, .int 0]))]) [9] (by decide) rfl
  have hFc := va_free (wc := [(q_22, .inr (2, [.null, .null, .null, .int 0]))]) hD hS hA [9] rfl
  refine va_callv (va_runIN (As := []) (rest := [.ref q_22, .ref ob]) ⟨hx, hb, hml, hown, hts⟩ (c_Fa_init l dC dI cJ cI H.size q_22) (⟨va_cnB 0 hts (gd_0 wd_70) rfl rfl rfl (hN _ nw_3) (hts _ (mw wd_36)) (by decide +kernel) ⟨Nat.le_of_ble_eq_true rfl, Nat.le_of_ble_eq_true rfl⟩, rfl, (hts _ (mw wd_69))⟩) ⟨fb_rw, pre_rw hK hN hPc hDc⟩ rfl rfl hl.1 rfl (lv_room (Nat.le_of_ble_eq_true rfl)) d_PC_init_96 ⟨Nat.le_of_ble_eq_true rfl, Nat.le_of_ble_eq_true rfl⟩) hS (fun q _ h => hFc q h) hFc (fun u t H locs ht hvm hw hB hz1 hk1 hS => ?_)
  obtain ⟨fas_23, fat_24, faa_25, hP1, hD1, hrel_26⟩ := hB
  rw [ht] at hP1
  obtain ⟨hP, hD⟩ := va_join (wr := [(ob, .inr (0, [.int r_1, .int r_2, .int 32, .ref q_3, .ref q_13, .ref q_16, .ref q_19, .null])), (q_3, .inr (1, [.ref ria_4, .int (f_Ri_addRow_0_1 (f_Ri_addRow_0_1 (f_Ri_addRow_0_1 0)))])), (ria_4, .inl (cJ, 114, .inr (.inl (fun _ => 0)))), (q_13, .inr (1, [.ref ria_14, .int 0])), (ria_14, .inl (cJ, 114, .inr (.inl (fun _ => 0)))), (q_16, .inr (1, [.ref ria_17, .int 0])), (ria_17, .inl (cJ, 114, .inr (.inl (fun _ => 0)))), (q_19, .inr (1, [.ref ria_20, .int 0])), (ria_20, .inl (cJ, 114, .inr (.inl (fun _ => 0))))]) (w1 := [(q_22, .inr (2, [.ref fas_23, .ref fat_24, .ref faa_25, .int 0])), (fas_23, .inl (cI, 17, .inl (fun _ => 0))), (fat_24, .inl (cI, 17, .inl (fun _ => 0))), (faa_25, .inl (cI, 17, .inl (fun _ => 0)))]) hP hD [9] [0, 1, 2, 3, 4, 5, 6, 7, 8] rfl rfl (by decide) (by decide) hk1 hFc hP1 hD1
  have hP : va_P (dC, dI) cls4 [(ob, .inr (0, [.int r_1, .int r_2, .int 32, .ref q_3, .ref q_13, .ref q_16, .ref q_19, .null])), (q_3, .inr (1, [.ref ria_4, .int (f_Ri_addRow_0_1 (f_Ri_addRow_0_1 (f_Ri_addRow_0_1 0)))])), (ria_4, .inl (cJ, 114, .inr (.inl (fun _ => 0)))), (q_13, .inr (1, [.ref ria_14, .int 0])), (ria_14, .inl (cJ, 114, .inr (.inl (fun _ => 0)))), (q_16, .inr (1, [.ref ria_17, .int 0])), (ria_17, .inl (cJ, 114, .inr (.inl (fun _ => 0)))), (q_19, .inr (1, [.ref ria_20, .int 0])), (ria_20, .inl (cJ, 114, .inr (.inl (fun _ => 0)))), (q_22, .inr (2, [.ref fas_23, .ref fat_24, .ref faa_25, .int 0])), (fas_23, .inl (cI, 17, .inl (fun _ => 0))), (fat_24, .inl (cI, 17, .inl (fun _ => 0))), (faa_25, .inl (cI, 17, .inl (fun _ => 0)))] H := hP
  have hD : va_D A [(ob, .inr (0, [.int r_1, .int r_2, .int 32, .ref q_3, .ref q_13, .ref q_16, .ref q_19, .null])), (q_3, .inr (1, [.ref ria_4, .int (f_Ri_addRow_0_1 (f_Ri_addRow_0_1 (f_Ri_addRow_0_1 0)))])), (ria_4, .inl (cJ, 114, .inr (.inl (fun _ => 0)))), (q_13, .inr (1, [.ref ria_14, .int 0])), (ria_14, .inl (cJ, 114, .inr (.inl (fun _ => 0)))), (q_16, .inr (1, [.ref ria_17, .int 0])), (ria_17, .inl (cJ, 114, .inr (.inl (fun _ => 0)))), (q_19, .inr (1, [.ref ria_20, .int 0])), (ria_20, .inl (cJ, 114, .inr (.inl (fun _ => 0)))), (q_22, .inr (2, [.ref fas_23, .ref fat_24, .ref faa_25, .int 0])), (fas_23, .inl (cI, 17, .inl (fun _ => 0))), (fat_24, .inl (cI, 17, .inl (fun _ => 0))), (faa_25, .inl (cI, 17, .inl (fun _ => 0)))] := hD
  refine va_putF (D := (dC, dI)) (ci := 0) (v := .ref q_22) (ty := (.object "PieceCutter$Fan")) (C := R_PC) (T := F_PC) (N := 8) hx hb hts (fun w h => mw (i_PC w h)) t_PC t_PC_ok n_PC hown hK hP hD hS 0 rfl rfl 7 (by decide) (hts _ (mw wd_88)) (fun _ h9 => h9) rfl hin rfl (by decide +kernel) rfl rfl (Nat.le_of_ble_eq_true rfl) d_PC_init_99 (fun H locs hP hD hS => ?_)
  have hP : va_P (dC, dI) cls4 [(ob, .inr (0, [.int r_1, .int r_2, .int 32, .ref q_3, .ref q_13, .ref q_16, .ref q_19, .ref q_22])), (q_3, .inr (1, [.ref ria_4, .int (f_Ri_addRow_0_1 (f_Ri_addRow_0_1 (f_Ri_addRow_0_1 0)))])), (ria_4, .inl (cJ, 114, .inr (.inl (fun _ => 0)))), (q_13, .inr (1, [.ref ria_14, .int 0])), (ria_14, .inl (cJ, 114, .inr (.inl (fun _ => 0)))), (q_16, .inr (1, [.ref ria_17, .int 0])), (ria_17, .inl (cJ, 114, .inr (.inl (fun _ => 0)))), (q_19, .inr (1, [.ref ria_20, .int 0])), (ria_20, .inl (cJ, 114, .inr (.inl (fun _ => 0)))), (q_22, .inr (2, [.ref fas_23, .ref fat_24, .ref faa_25, .int 0])), (fas_23, .inl (cI, 17, .inl (fun _ => 0))), (fat_24, .inl (cI, 17, .inl (fun _ => 0))), (faa_25, .inl (cI, 17, .inl (fun _ => 0)))] H := hP
  have hD : va_D A [(ob, .inr (0, [.int r_1, .int r_2, .int 32, .ref q_3, .ref q_13, .ref q_16, .ref q_19, .ref q_22])), (q_3, .inr (1, [.ref ria_4, .int (f_Ri_addRow_0_1 (f_Ri_addRow_0_1 (f_Ri_addRow_0_1 0)))])), (ria_4, .inl (cJ, 114, .inr (.inl (fun _ => 0)))), (q_13, .inr (1, [.ref ria_14, .int 0])), (ria_14, .inl (cJ, 114, .inr (.inl (fun _ => 0)))), (q_16, .inr (1, [.ref ria_17, .int 0])), (ria_17, .inl (cJ, 114, .inr (.inl (fun _ => 0)))), (q_19, .inr (1, [.ref ria_20, .int 0])), (ria_20, .inl (cJ, 114, .inr (.inl (fun _ => 0)))), (q_22, .inr (2, [.ref fas_23, .ref fat_24, .ref faa_25, .int 0])), (fas_23, .inl (cI, 17, .inl (fun _ => 0))), (fat_24, .inl (cI, 17, .inl (fun _ => 0))), (faa_25, .inl (cI, 17, .inl (fun _ => 0)))] := hD
  subst er_1
  subst er_2
  subst er_7
  subst er_9
  subst er_11
  have e3 : f_Ri_addRow_0_1 (f_Ri_addRow_0_1 (f_Ri_addRow_0_1 0)) = (3 : Int32) := by decide
  rw [e3] at hP hD
  exact W.vret hx hb hr (fun t ht hW => ⟨⟨(), rfl, trivial, _, _, _, _, _, _, _, _, _, _, _, _, by rw [ht]; exact hP, hD, trivial⟩, hS.F ht⟩) hS.2.2 d_PC_init_102
set_option maxHeartbeats 4000000 in
set_option maxRecDepth 100000 in
theorem c_Mo_init (l : Launch) (dC : Nat → ClassId) (dI : Nat → Nat → Nat) (cJ cI : ClassId) (sz : Nat) (mo : Nat) (aw : Int32) (ah : Int32) : Met l y_Mo_init w_Mo_init ({ frames := 1, cells := 5, slots := 600, locals := 20 } : Room) (rq_rw (dC, dI) cJ cI sz [.ref mo, .int aw, .int ah] [(mo, .inr (3, [.int 0, .int 0, .int 0, .int 0, .null, .null, .int 0, .null, .int 0, .null, .null, .int 0]))]) (va_Qv (fun _ : Unit => True) (fun (_ : Unit) (t : State) => ∃ (mt : Nat) (mr : Nat) (mx : Nat) (mp : Nat) (mq : Nat), va_P (dC, dI) cls4 [(mo, .inr (3, [.int 0, .int (mo_clamp aw), .int (mo_clamp ah), .int 32, .ref mt, .ref mr, .int 0, .ref mx, .int 0, .ref mp, .ref mq, .int 0])), (mt, .inl (cJ, 18, .inr (.inl (fun _ => 0)))), (mr, .inl (cJ, 120, .inr (.inl (fun _ => 0)))), (mx, .inl (cJ, 120, .inr (.inl (fun _ => 0)))), (mp, .inl (cJ, 324, .inr (.inl (fun _ => 0)))), (mq, .inl (cJ, 18, .inr (.inl (fun _ => 0))))] t.heap ∧ va_D (va_A [(mo, .inr (3, [.int 0, .int 0, .int 0, .int 0, .null, .null, .int 0, .null, .int 0, .null, .null, .int 0]))] sz) [(mo, .inr (3, [.int 0, .int (mo_clamp aw), .int (mo_clamp ah), .int 32, .ref mt, .ref mr, .int 0, .ref mx, .int 0, .ref mp, .ref mq, .int 0])), (mt, .inl (cJ, 18, .inr (.inl (fun _ => 0)))), (mr, .inl (cJ, 120, .inr (.inl (fun _ => 0)))), (mx, .inl (cJ, 120, .inr (.inl (fun _ => 0)))), (mp, .inl (cJ, 324, .inr (.inl (fun _ => 0)))), (mq, .inl (cJ, 18, .inr (.inl (fun _ => 0))))] ∧ True) (va_A [(mo, .inr (3, [.int 0, .int 0, .int 0, .int 0, .null, .null, .int 0, .null, .int 0, .null, .null, .int 0]))] sz)) 5 600 (va_A [(mo, .inr (3, [.int 0, .int 0, .int 0, .int 0, .null, .null, .int 0, .null, .int 0, .null, .null, .int 0]))] sz) := by
  refine Met.ofW (cc := b_Mo_init) (maxL := 3) (ret := none) (by decide) rfl ?_
  intro p e s m args below meth c s₁ B hml hv
  obtain ⟨rfl, hsz, hP, hK, hN, hD0⟩ := hv
  have hx := B.exec
  have hb := B.bytes
  have hr := B.returns
  have hts := atoms_spec (ws := w_Mo_init) B.pre
  have hown : s.vm.findClass R_Mo = some m.cls := findClass_of_methodNamed B.named
  have hlocks := B.notSynchronized
  have hin : meth.name = "<init>" := (name_of_methodNamed B.named B.method).1
  subst hsz
  have hD := hD0.self (sz := s.heap.size)
  generalize hAe : va_A [(mo, .inr (3, [.int 0, .int 0, .int 0, .int 0, .null, .null, .int 0, .null, .int 0, .null, .null, .int 0]))] s.heap.size = A at hD ⊢
  have hA : ∀ q : Nat, s.heap.size ≤ q → A q := fun q h => by rw [← hAe]; exact Or.inr h
  have hS : va_S A s.heap s.heap [] := va_S.rf
  have hl := lv_entry ([.ref mo, .int aw, .int ah]) (n := 3) (Nat.le_of_ble_eq_true rfl)
  rw [lg_entry_eq]
  generalize (lg_sl ([.ref mo, .int aw, .int ah]) ++ List.replicate (3 - (lg_sl ([.ref mo, .int aw, .int ah])).length) Slot.unset).toArray = ls at hl ⊢
  have hl : lv_has ls 3 [(0, .ref mo), (1, .int aw), (2, .int ah)] := hl
  have hP : va_P (dC, dI) cls4 [(mo, .inr (3, [.int 0, .int 0, .int 0, .int 0, .null, .null, .int 0, .null, .int 0, .null, .null, .int 0]))] s.heap := hP
  refine lv_aload_n hx hb d_Mo_init_0 rfl (lv_at hl 0 rfl) ?_
  refine W.objInit hx hb hown (hts _ (mw wd_236)) (hts _ (mw wd_44)) (hts _ (mw wd_45)) rfl (by rw [hml]; exact hl.1) rfl d_Mo_init_1 (Nat.le_of_ble_eq_true rfl) (Nat.le_of_ble_eq_true rfl) ?_
  refine W.eq (g2 := F0 m 4 ls []) rfl ?_
  refine lv_aload_n hx hb d_Mo_init_4 rfl (lv_at hl 0 rfl) ?_
  refine lv_bipush (v := 32) hx hb d_Mo_init_5 (by decide) ?_
  refine va_put (D := (dC, dI)) (ci := 3) (v := .int 32) (ty := .int) (C := R_Mo) (T := F_Mo) (N := 12) hx hb hts (fun w h => mw (i_Mo w h)) t_Mo t_Mo_ok n_Mo hown hK hP hD hS 0 rfl rfl 3 (by decide) (hts _ (mw wd_240)) (fun _ h9 => h9) rfl (by decide +kernel) rfl rfl (Nat.le_of_ble_eq_true rfl) d_Mo_init_7 (fun H locs hP hD hS => ?_)
  have hP : va_P (dC, dI) cls4 [(mo, .inr (3, [.int 0, .int 0, .int 0, .int 32, .null, .null, .int 0, .null, .int 0, .null, .null, .int 0]))] H := hP
  have hD : va_D A [(mo, .inr (3, [.int 0, .int 0, .int 0, .int 32, .null, .null, .int 0, .null, .int 0, .null, .null, .int 0]))] := hD
  refine lv_aload_n hx hb d_Mo_init_10 rfl (lv_at hl 0 rfl) ?_
  refine lv_bipush (v := 18) hx hb d_Mo_init_11 (by decide) ?_
  refine va_newa (atype := .long) hx hb (hts _ (mw wd_64)) (ty := .long) rfl hK hP hD hS hA (a0 := (18, .inr (.inl (fun _ => 0)))) (fun _ => rfl) (by decide) rfl (by decide) (Nat.le_of_ble_eq_true rfl) (Nat.le_of_ble_eq_true rfl) d_Mo_init_13 (fun q_1 cA H hK2 hP hD hS => ?_)
  have ecA := in_J hK hK2
  subst ecA
  have hP : va_P (dC, dI) cls4 [(mo, .inr (3, [.int 0, .int 0, .int 0, .int 32, .null, .null, .int 0, .null, .int 0, .null, .null, .int 0])), (q_1, .inl (cJ, 18, .inr (.inl (fun _ => 0))))] H := hP
  have hD : va_D A [(mo, .inr (3, [.int 0, .int 0, .int 0, .int 32, .null, .null, .int 0, .null, .int 0, .null, .null, .int 0])), (q_1, .inl (cJ, 18, .inr (.inl (fun _ => 0))))] := hD
  refine va_putF (D := (dC, dI)) (ci := 3) (v := .ref q_1) (ty := (.array .long)) (C := R_Mo) (T := F_Mo) (N := 12) hx hb hts (fun w h => mw (i_Mo w h)) t_Mo t_Mo_ok n_Mo hown hK hP hD hS 0 rfl rfl 4 (by decide) (hts _ (mw wd_241)) (fun _ h9 => h9) rfl hin rfl (by decide +kernel) rfl rfl (Nat.le_of_ble_eq_true rfl) d_Mo_init_15 (fun H locs hP hD hS => ?_)
  have hP : va_P (dC, dI) cls4 [(mo, .inr (3, [.int 0, .int 0, .int 0, .int 32, .ref q_1, .null, .int 0, .null, .int 0, .null, .null, .int 0])), (q_1, .inl (cJ, 18, .inr (.inl (fun _ => 0))))] H := hP
  have hD : va_D A [(mo, .inr (3, [.int 0, .int 0, .int 0, .int 32, .ref q_1, .null, .int 0, .null, .int 0, .null, .null, .int 0])), (q_1, .inl (cJ, 18, .inr (.inl (fun _ => 0))))] := hD
  refine lv_aload_n hx hb d_Mo_init_18 rfl (lv_at hl 0 rfl) ?_
  refine lv_bipush (v := 120) hx hb d_Mo_init_19 (by decide) ?_
  refine va_newa (atype := .long) hx hb (hts _ (mw wd_64)) (ty := .long) rfl hK hP hD hS hA (a0 := (120, .inr (.inl (fun _ => 0)))) (fun _ => rfl) (by decide) rfl (by decide) (Nat.le_of_ble_eq_true rfl) (Nat.le_of_ble_eq_true rfl) d_Mo_init_21 (fun q_2 cA H hK2 hP hD hS => ?_)
  have ecA := in_J hK hK2
  subst ecA
  have hP : va_P (dC, dI) cls4 [(mo, .inr (3, [.int 0, .int 0, .int 0, .int 32, .ref q_1, .null, .int 0, .null, .int 0, .null, .null, .int 0])), (q_1, .inl (cJ, 18, .inr (.inl (fun _ => 0)))), (q_2, .inl (cJ, 120, .inr (.inl (fun _ => 0))))] H := hP
  have hD : va_D A [(mo, .inr (3, [.int 0, .int 0, .int 0, .int 32, .ref q_1, .null, .int 0, .null, .int 0, .null, .null, .int 0])), (q_1, .inl (cJ, 18, .inr (.inl (fun _ => 0)))), (q_2, .inl (cJ, 120, .inr (.inl (fun _ => 0))))] := hD
  refine va_put (D := (dC, dI)) (ci := 3) (v := .ref q_2) (ty := (.array .long)) (C := R_Mo) (T := F_Mo) (N := 12) hx hb hts (fun w h => mw (i_Mo w h)) t_Mo t_Mo_ok n_Mo hown hK hP hD hS 0 rfl rfl 5 (by decide) (hts _ (mw wd_242)) (fun _ h9 => h9) rfl (by decide +kernel) rfl rfl (Nat.le_of_ble_eq_true rfl) d_Mo_init_23 (fun H locs hP hD hS => ?_)
  have hP : va_P (dC, dI) cls4 [(mo, .inr (3, [.int 0, .int 0, .int 0, .int 32, .ref q_1, .ref q_2, .int 0, .null, .int 0, .null, .null, .int 0])), (q_1, .inl (cJ, 18, .inr (.inl (fun _ => 0)))), (q_2, .inl (cJ, 120, .inr (.inl (fun _ => 0))))] H := hP
  have hD : va_D A [(mo, .inr (3, [.int 0, .int 0, .int 0, .int 32, .ref q_1, .ref q_2, .int 0, .null, .int 0, .null, .null, .int 0])), (q_1, .inl (cJ, 18, .inr (.inl (fun _ => 0)))), (q_2, .inl (cJ, 120, .inr (.inl (fun _ => 0))))] := hD
  refine lv_aload_n hx hb d_Mo_init_26 rfl (lv_at hl 0 rfl) ?_
  refine lv_bipush (v := 120) hx hb d_Mo_init_27 (by decide) ?_
  refine va_newa (atype := .long) hx hb (hts _ (mw wd_64)) (ty := .long) rfl hK hP hD hS hA (a0 := (120, .inr (.inl (fun _ => 0)))) (fun _ => rfl) (by decide) rfl (by decide) (Nat.le_of_ble_eq_true rfl) (Nat.le_of_ble_eq_true rfl) d_Mo_init_29 (fun q_3 cA H hK2 hP hD hS => ?_)
  have ecA := in_J hK hK2
  subst ecA
  have hP : va_P (dC, dI) cls4 [(mo, .inr (3, [.int 0, .int 0, .int 0, .int 32, .ref q_1, .ref q_2, .int 0, .null, .int 0, .null, .null, .int 0])), (q_1, .inl (cJ, 18, .inr (.inl (fun _ => 0)))), (q_2, .inl (cJ, 120, .inr (.inl (fun _ => 0)))), (q_3, .inl (cJ, 120, .inr (.inl (fun _ => 0))))] H := hP
  have hD : va_D A [(mo, .inr (3, [.int 0, .int 0, .int 0, .int 32, .ref q_1, .ref q_2, .int 0, .null, .int 0, .null, .null, .int 0])), (q_1, .inl (cJ, 18, .inr (.inl (fun _ => 0)))), (q_2, .inl (cJ, 120, .inr (.inl (fun _ => 0)))), (q_3, .inl (cJ, 120, .inr (.inl (fun _ => 0))))] := hD
  refine va_put (D := (dC, dI)) (ci := 3) (v := .ref q_3) (ty := (.array .long)) (C := R_Mo) (T := F_Mo) (N := 12) hx hb hts (fun w h => mw (i_Mo w h)) t_Mo t_Mo_ok n_Mo hown hK hP hD hS 0 rfl rfl 7 (by decide) (hts _ (mw wd_244)) (fun _ h9 => h9) rfl (by decide +kernel) rfl rfl (Nat.le_of_ble_eq_true rfl) d_Mo_init_31 (fun H locs hP hD hS => ?_)
  have hP : va_P (dC, dI) cls4 [(mo, .inr (3, [.int 0, .int 0, .int 0, .int 32, .ref q_1, .ref q_2, .int 0, .ref q_3, .int 0, .null, .null, .int 0])), (q_1, .inl (cJ, 18, .inr (.inl (fun _ => 0)))), (q_2, .inl (cJ, 120, .inr (.inl (fun _ => 0)))), (q_3, .inl (cJ, 120, .inr (.inl (fun _ => 0))))] H := hP
  have hD : va_D A [(mo, .inr (3, [.int 0, .int 0, .int 0, .int 32, .ref q_1, .ref q_2, .int 0, .ref q_3, .int 0, .null, .null, .int 0])), (q_1, .inl (cJ, 18, .inr (.inl (fun _ => 0)))), (q_2, .inl (cJ, 120, .inr (.inl (fun _ => 0)))), (q_3, .inl (cJ, 120, .inr (.inl (fun _ => 0))))] := hD
  refine lv_aload_n hx hb d_Mo_init_34 rfl (lv_at hl 0 rfl) ?_
  refine lv_sipush (v := 324) hx hb d_Mo_init_35 (by decide) ?_
  refine va_newa (atype := .long) hx hb (hts _ (mw wd_64)) (ty := .long) rfl hK hP hD hS hA (a0 := (324, .inr (.inl (fun _ => 0)))) (fun _ => rfl) (by decide) rfl (by decide) (Nat.le_of_ble_eq_true rfl) (Nat.le_of_ble_eq_true rfl) d_Mo_init_38 (fun q_4 cA H hK2 hP hD hS => ?_)
  have ecA := in_J hK hK2
  subst ecA
  have hP : va_P (dC, dI) cls4 [(mo, .inr (3, [.int 0, .int 0, .int 0, .int 32, .ref q_1, .ref q_2, .int 0, .ref q_3, .int 0, .null, .null, .int 0])), (q_1, .inl (cJ, 18, .inr (.inl (fun _ => 0)))), (q_2, .inl (cJ, 120, .inr (.inl (fun _ => 0)))), (q_3, .inl (cJ, 120, .inr (.inl (fun _ => 0)))), (q_4, .inl (cJ, 324, .inr (.inl (fun _ => 0))))] H := hP
  have hD : va_D A [(mo, .inr (3, [.int 0, .int 0, .int 0, .int 32, .ref q_1, .ref q_2, .int 0, .ref q_3, .int 0, .null, .null, .int 0])), (q_1, .inl (cJ, 18, .inr (.inl (fun _ => 0)))), (q_2, .inl (cJ, 120, .inr (.inl (fun _ => 0)))), (q_3, .inl (cJ, 120, .inr (.inl (fun _ => 0)))), (q_4, .inl (cJ, 324, .inr (.inl (fun _ => 0))))] := hD
  refine va_putF (D := (dC, dI)) (ci := 3) (v := .ref q_4) (ty := (.array .long)) (C := R_Mo) (T := F_Mo) (N := 12) hx hb hts (fun w h => mw (i_Mo w h)) t_Mo t_Mo_ok n_Mo hown hK hP hD hS 0 rfl rfl 9 (by decide) (hts _ (mw wd_246)) (fun _ h9 => h9) rfl hin rfl (by decide +kernel) rfl rfl (Nat.le_of_ble_eq_true rfl) d_Mo_init_40 (fun H locs hP hD hS => ?_)
  have hP : va_P (dC, dI) cls4 [(mo, .inr (3, [.int 0, .int 0, .int 0, .int 32, .ref q_1, .ref q_2, .int 0, .ref q_3, .int 0, .ref q_4, .null, .int 0])), (q_1, .inl (cJ, 18, .inr (.inl (fun _ => 0)))), (q_2, .inl (cJ, 120, .inr (.inl (fun _ => 0)))), (q_3, .inl (cJ, 120, .inr (.inl (fun _ => 0)))), (q_4, .inl (cJ, 324, .inr (.inl (fun _ => 0))))] H := hP
  have hD : va_D A [(mo, .inr (3, [.int 0, .int 0, .int 0, .int 32, .ref q_1, .ref q_2, .int 0, .ref q_3, .int 0, .ref q_4, .null, .int 0])), (q_1, .inl (cJ, 18, .inr (.inl (fun _ => 0)))), (q_2, .inl (cJ, 120, .inr (.inl (fun _ => 0)))), (q_3, .inl (cJ, 120, .inr (.inl (fun _ => 0)))), (q_4, .inl (cJ, 324, .inr (.inl (fun _ => 0))))] := hD
  refine lv_aload_n hx hb d_Mo_init_43 rfl (lv_at hl 0 rfl) ?_
  refine lv_bipush (v := 18) hx hb d_Mo_init_44 (by decide) ?_
  refine va_newa (atype := .long) hx hb (hts _ (mw wd_64)) (ty := .long) rfl hK hP hD hS hA (a0 := (18, .inr (.inl (fun _ => 0)))) (fun _ => rfl) (by decide) rfl (by decide) (Nat.le_of_ble_eq_true rfl) (Nat.le_of_ble_eq_true rfl) d_Mo_init_46 (fun q_5 cA H hK2 hP hD hS => ?_)
  have ecA := in_J hK hK2
  subst ecA
  have hP : va_P (dC, dI) cls4 [(mo, .inr (3, [.int 0, .int 0, .int 0, .int 32, .ref q_1, .ref q_2, .int 0, .ref q_3, .int 0, .ref q_4, .null, .int 0])), (q_1, .inl (cJ, 18, .inr (.inl (fun _ => 0)))), (q_2, .inl (cJ, 120, .inr (.inl (fun _ => 0)))), (q_3, .inl (cJ, 120, .inr (.inl (fun _ => 0)))), (q_4, .inl (cJ, 324, .inr (.inl (fun _ => 0)))), (q_5, .inl (cJ, 18, .inr (.inl (fun _ => 0))))] H := hP
  have hD : va_D A [(mo, .inr (3, [.int 0, .int 0, .int 0, .int 32, .ref q_1, .ref q_2, .int 0, .ref q_3, .int 0, .ref q_4, .null, .int 0])), (q_1, .inl (cJ, 18, .inr (.inl (fun _ => 0)))), (q_2, .inl (cJ, 120, .inr (.inl (fun _ => 0)))), (q_3, .inl (cJ, 120, .inr (.inl (fun _ => 0)))), (q_4, .inl (cJ, 324, .inr (.inl (fun _ => 0)))), (q_5, .inl (cJ, 18, .inr (.inl (fun _ => 0))))] := hD
  refine va_putF (D := (dC, dI)) (ci := 3) (v := .ref q_5) (ty := (.array .long)) (C := R_Mo) (T := F_Mo) (N := 12) hx hb hts (fun w h => mw (i_Mo w h)) t_Mo t_Mo_ok n_Mo hown hK hP hD hS 0 rfl rfl 10 (by decide) (hts _ (mw wd_247)) (fun _ h9 => h9) rfl hin rfl (by decide +kernel) rfl rfl (Nat.le_of_ble_eq_true rfl) d_Mo_init_48 (fun H locs hP hD hS => ?_)
  have hP : va_P (dC, dI) cls4 [(mo, .inr (3, [.int 0, .int 0, .int 0, .int 32, .ref q_1, .ref q_2, .int 0, .ref q_3, .int 0, .ref q_4, .ref q_5, .int 0])), (q_1, .inl (cJ, 18, .inr (.inl (fun _ => 0)))), (q_2, .inl (cJ, 120, .inr (.inl (fun _ => 0)))), (q_3, .inl (cJ, 120, .inr (.inl (fun _ => 0)))), (q_4, .inl (cJ, 324, .inr (.inl (fun _ => 0)))), (q_5, .inl (cJ, 18, .inr (.inl (fun _ => 0))))] H := hP
  have hD : va_D A [(mo, .inr (3, [.int 0, .int 0, .int 0, .int 32, .ref q_1, .ref q_2, .int 0, .ref q_3, .int 0, .ref q_4, .ref q_5, .int 0])), (q_1, .inl (cJ, 18, .inr (.inl (fun _ => 0)))), (q_2, .inl (cJ, 120, .inr (.inl (fun _ => 0)))), (q_3, .inl (cJ, 120, .inr (.inl (fun _ => 0)))), (q_4, .inl (cJ, 324, .inr (.inl (fun _ => 0)))), (q_5, .inl (cJ, 18, .inr (.inl (fun _ => 0))))] := hD
  refine lv_aload_n hx hb d_Mo_init_51 rfl (lv_at hl 0 rfl) ?_
  refine lv_iload_n hx hb d_Mo_init_52 rfl (lv_at hl 1 rfl) ?_
  refine lv_bipush (v := 8) hx hb d_Mo_init_53 (by decide) ?_
  refine lv_icmp_ge (tgt := 63) hx hb d_Mo_init_55 (by decide) (fun c_6 => ?_) (fun c_6 => ?_)
  · have c_6 : 8 ≤ aw := c_6
    refine lv_iload_n hx hb d_Mo_init_63 rfl (lv_at hl 1 rfl) ?_
    refine lv_bipush (v := 48) hx hb d_Mo_init_64 (by decide) ?_
    refine lv_icmp_le (tgt := 74) hx hb d_Mo_init_66 (by decide) (fun c_7 => ?_) (fun c_7 => ?_)
    · have c_7 : aw ≤ 48 := c_7
      refine lv_iload_n hx hb d_Mo_init_74 rfl (lv_at hl 1 rfl) ?_
      refine va_putF (D := (dC, dI)) (ci := 3) (v := .int aw) (ty := .int) (C := R_Mo) (T := F_Mo) (N := 12) hx hb hts (fun w h => mw (i_Mo w h)) t_Mo t_Mo_ok n_Mo hown hK hP hD hS 0 rfl rfl 1 (by decide) (hts _ (mw wd_238)) (fun _ h9 => h9) rfl hin rfl (by decide +kernel) rfl rfl (Nat.le_of_ble_eq_true rfl) d_Mo_init_75 (fun H locs hP hD hS => ?_)
      have hP : va_P (dC, dI) cls4 [(mo, .inr (3, [.int 0, .int aw, .int 0, .int 32, .ref q_1, .ref q_2, .int 0, .ref q_3, .int 0, .ref q_4, .ref q_5, .int 0])), (q_1, .inl (cJ, 18, .inr (.inl (fun _ => 0)))), (q_2, .inl (cJ, 120, .inr (.inl (fun _ => 0)))), (q_3, .inl (cJ, 120, .inr (.inl (fun _ => 0)))), (q_4, .inl (cJ, 324, .inr (.inl (fun _ => 0)))), (q_5, .inl (cJ, 18, .inr (.inl (fun _ => 0))))] H := hP
      have hD : va_D A [(mo, .inr (3, [.int 0, .int aw, .int 0, .int 32, .ref q_1, .ref q_2, .int 0, .ref q_3, .int 0, .ref q_4, .ref q_5, .int 0])), (q_1, .inl (cJ, 18, .inr (.inl (fun _ => 0)))), (q_2, .inl (cJ, 120, .inr (.inl (fun _ => 0)))), (q_3, .inl (cJ, 120, .inr (.inl (fun _ => 0)))), (q_4, .inl (cJ, 324, .inr (.inl (fun _ => 0)))), (q_5, .inl (cJ, 18, .inr (.inl (fun _ => 0))))] := hD
      refine lv_aload_n hx hb d_Mo_init_78 rfl (lv_at hl 0 rfl) ?_
      refine lv_iload_n hx hb d_Mo_init_79 rfl (lv_at hl 2 rfl) ?_
      refine lv_bipush (v := 8) hx hb d_Mo_init_80 (by decide) ?_
      refine lv_icmp_ge (tgt := 90) hx hb d_Mo_init_82 (by decide) (fun c_8 => ?_) (fun c_8 => ?_)
      · have c_8 : 8 ≤ ah := c_8
        refine lv_iload_n hx hb d_Mo_init_90 rfl (lv_at hl 2 rfl) ?_
        refine lv_bipush (v := 48) hx hb d_Mo_init_91 (by decide) ?_
        refine lv_icmp_le (tgt := 101) hx hb d_Mo_init_93 (by decide) (fun c_9 => ?_) (fun c_9 => ?_)
        · have c_9 : ah ≤ 48 := c_9
          refine lv_iload_n hx hb d_Mo_init_101 rfl (lv_at hl 2 rfl) ?_
          refine va_putF (D := (dC, dI)) (ci := 3) (v := .int ah) (ty := .int) (C := R_Mo) (T := F_Mo) (N := 12) hx hb hts (fun w h => mw (i_Mo w h)) t_Mo t_Mo_ok n_Mo hown hK hP hD hS 0 rfl rfl 2 (by decide) (hts _ (mw wd_239)) (fun _ h9 => h9) rfl hin rfl (by decide +kernel) rfl rfl (Nat.le_of_ble_eq_true rfl) d_Mo_init_102 (fun H locs hP hD hS => ?_)
          have hP : va_P (dC, dI) cls4 [(mo, .inr (3, [.int 0, .int aw, .int ah, .int 32, .ref q_1, .ref q_2, .int 0, .ref q_3, .int 0, .ref q_4, .ref q_5, .int 0])), (q_1, .inl (cJ, 18, .inr (.inl (fun _ => 0)))), (q_2, .inl (cJ, 120, .inr (.inl (fun _ => 0)))), (q_3, .inl (cJ, 120, .inr (.inl (fun _ => 0)))), (q_4, .inl (cJ, 324, .inr (.inl (fun _ => 0)))), (q_5, .inl (cJ, 18, .inr (.inl (fun _ => 0))))] H := hP
          have hD : va_D A [(mo, .inr (3, [.int 0, .int aw, .int ah, .int 32, .ref q_1, .ref q_2, .int 0, .ref q_3, .int 0, .ref q_4, .ref q_5, .int 0])), (q_1, .inl (cJ, 18, .inr (.inl (fun _ => 0)))), (q_2, .inl (cJ, 120, .inr (.inl (fun _ => 0)))), (q_3, .inl (cJ, 120, .inr (.inl (fun _ => 0)))), (q_4, .inl (cJ, 324, .inr (.inl (fun _ => 0)))), (q_5, .inl (cJ, 18, .inr (.inl (fun _ => 0))))] := hD
          have ewaw : mo_clamp aw = aw := by unfold mo_clamp; rw [if_pos c_6, if_pos c_7]
          have ewah : mo_clamp ah = ah := by unfold mo_clamp; rw [if_pos c_8, if_pos c_9]
          exact W.vret hx hb hr (fun t ht hW => ⟨⟨(), rfl, trivial, _, _, _, _, _, by rw [ht, ewaw, ewah]; exact hP, by rw [ewaw, ewah]; exact hD, trivial⟩, hS.F ht⟩) hS.2.2 d_Mo_init_105
        · have c_9 : ¬ (ah ≤ 48) := c_9
          refine lv_bipush (v := 48) hx hb d_Mo_init_96 (by decide) ?_
          refine lv_goto (tgt := 102) hx hb d_Mo_init_98 (by decide) ?_
          refine va_putF (D := (dC, dI)) (ci := 3) (v := .int 48) (ty := .int) (C := R_Mo) (T := F_Mo) (N := 12) hx hb hts (fun w h => mw (i_Mo w h)) t_Mo t_Mo_ok n_Mo hown hK hP hD hS 0 rfl rfl 2 (by decide) (hts _ (mw wd_239)) (fun _ h9 => h9) rfl hin rfl (by decide +kernel) rfl rfl (Nat.le_of_ble_eq_true rfl) d_Mo_init_102 (fun H locs hP hD hS => ?_)
          have hP : va_P (dC, dI) cls4 [(mo, .inr (3, [.int 0, .int aw, .int 48, .int 32, .ref q_1, .ref q_2, .int 0, .ref q_3, .int 0, .ref q_4, .ref q_5, .int 0])), (q_1, .inl (cJ, 18, .inr (.inl (fun _ => 0)))), (q_2, .inl (cJ, 120, .inr (.inl (fun _ => 0)))), (q_3, .inl (cJ, 120, .inr (.inl (fun _ => 0)))), (q_4, .inl (cJ, 324, .inr (.inl (fun _ => 0)))), (q_5, .inl (cJ, 18, .inr (.inl (fun _ => 0))))] H := hP
          have hD : va_D A [(mo, .inr (3, [.int 0, .int aw, .int 48, .int 32, .ref q_1, .ref q_2, .int 0, .ref q_3, .int 0, .ref q_4, .ref q_5, .int 0])), (q_1, .inl (cJ, 18, .inr (.inl (fun _ => 0)))), (q_2, .inl (cJ, 120, .inr (.inl (fun _ => 0)))), (q_3, .inl (cJ, 120, .inr (.inl (fun _ => 0)))), (q_4, .inl (cJ, 324, .inr (.inl (fun _ => 0)))), (q_5, .inl (cJ, 18, .inr (.inl (fun _ => 0))))] := hD
          have ewaw : mo_clamp aw = aw := by unfold mo_clamp; rw [if_pos c_6, if_pos c_7]
          have ewah : mo_clamp ah = 48 := by unfold mo_clamp; rw [if_pos c_8, if_neg c_9]
          exact W.vret hx hb hr (fun t ht hW => ⟨⟨(), rfl, trivial, _, _, _, _, _, by rw [ht, ewaw, ewah]; exact hP, by rw [ewaw, ewah]; exact hD, trivial⟩, hS.F ht⟩) hS.2.2 d_Mo_init_105
      · have c_8 : ¬ (8 ≤ ah) := c_8
        refine lv_bipush (v := 8) hx hb d_Mo_init_85 (by decide) ?_
        refine lv_goto (tgt := 102) hx hb d_Mo_init_87 (by decide) ?_
        refine va_putF (D := (dC, dI)) (ci := 3) (v := .int 8) (ty := .int) (C := R_Mo) (T := F_Mo) (N := 12) hx hb hts (fun w h => mw (i_Mo w h)) t_Mo t_Mo_ok n_Mo hown hK hP hD hS 0 rfl rfl 2 (by decide) (hts _ (mw wd_239)) (fun _ h9 => h9) rfl hin rfl (by decide +kernel) rfl rfl (Nat.le_of_ble_eq_true rfl) d_Mo_init_102 (fun H locs hP hD hS => ?_)
        have hP : va_P (dC, dI) cls4 [(mo, .inr (3, [.int 0, .int aw, .int 8, .int 32, .ref q_1, .ref q_2, .int 0, .ref q_3, .int 0, .ref q_4, .ref q_5, .int 0])), (q_1, .inl (cJ, 18, .inr (.inl (fun _ => 0)))), (q_2, .inl (cJ, 120, .inr (.inl (fun _ => 0)))), (q_3, .inl (cJ, 120, .inr (.inl (fun _ => 0)))), (q_4, .inl (cJ, 324, .inr (.inl (fun _ => 0)))), (q_5, .inl (cJ, 18, .inr (.inl (fun _ => 0))))] H := hP
        have hD : va_D A [(mo, .inr (3, [.int 0, .int aw, .int 8, .int 32, .ref q_1, .ref q_2, .int 0, .ref q_3, .int 0, .ref q_4, .ref q_5, .int 0])), (q_1, .inl (cJ, 18, .inr (.inl (fun _ => 0)))), (q_2, .inl (cJ, 120, .inr (.inl (fun _ => 0)))), (q_3, .inl (cJ, 120, .inr (.inl (fun _ => 0)))), (q_4, .inl (cJ, 324, .inr (.inl (fun _ => 0)))), (q_5, .inl (cJ, 18, .inr (.inl (fun _ => 0))))] := hD
        have ewaw : mo_clamp aw = aw := by unfold mo_clamp; rw [if_pos c_6, if_pos c_7]
        have ewah : mo_clamp ah = 8 := by unfold mo_clamp; rw [if_neg c_8]
        exact W.vret hx hb hr (fun t ht hW => ⟨⟨(), rfl, trivial, _, _, _, _, _, by rw [ht, ewaw, ewah]; exact hP, by rw [ewaw, ewah]; exact hD, trivial⟩, hS.F ht⟩) hS.2.2 d_Mo_init_105
    · have c_7 : ¬ (aw ≤ 48) := c_7
      refine lv_bipush (v := 48) hx hb d_Mo_init_69 (by decide) ?_
      refine lv_goto (tgt := 75) hx hb d_Mo_init_71 (by decide) ?_
      refine va_putF (D := (dC, dI)) (ci := 3) (v := .int 48) (ty := .int) (C := R_Mo) (T := F_Mo) (N := 12) hx hb hts (fun w h => mw (i_Mo w h)) t_Mo t_Mo_ok n_Mo hown hK hP hD hS 0 rfl rfl 1 (by decide) (hts _ (mw wd_238)) (fun _ h9 => h9) rfl hin rfl (by decide +kernel) rfl rfl (Nat.le_of_ble_eq_true rfl) d_Mo_init_75 (fun H locs hP hD hS => ?_)
      have hP : va_P (dC, dI) cls4 [(mo, .inr (3, [.int 0, .int 48, .int 0, .int 32, .ref q_1, .ref q_2, .int 0, .ref q_3, .int 0, .ref q_4, .ref q_5, .int 0])), (q_1, .inl (cJ, 18, .inr (.inl (fun _ => 0)))), (q_2, .inl (cJ, 120, .inr (.inl (fun _ => 0)))), (q_3, .inl (cJ, 120, .inr (.inl (fun _ => 0)))), (q_4, .inl (cJ, 324, .inr (.inl (fun _ => 0)))), (q_5, .inl (cJ, 18, .inr (.inl (fun _ => 0))))] H := hP
      have hD : va_D A [(mo, .inr (3, [.int 0, .int 48, .int 0, .int 32, .ref q_1, .ref q_2, .int 0, .ref q_3, .int 0, .ref q_4, .ref q_5, .int 0])), (q_1, .inl (cJ, 18, .inr (.inl (fun _ => 0)))), (q_2, .inl (cJ, 120, .inr (.inl (fun _ => 0)))), (q_3, .inl (cJ, 120, .inr (.inl (fun _ => 0)))), (q_4, .inl (cJ, 324, .inr (.inl (fun _ => 0)))), (q_5, .inl (cJ, 18, .inr (.inl (fun _ => 0))))] := hD
      refine lv_aload_n hx hb d_Mo_init_78 rfl (lv_at hl 0 rfl) ?_
      refine lv_iload_n hx hb d_Mo_init_79 rfl (lv_at hl 2 rfl) ?_
      refine lv_bipush (v := 8) hx hb d_Mo_init_80 (by decide) ?_
      refine lv_icmp_ge (tgt := 90) hx hb d_Mo_init_82 (by decide) (fun c_10 => ?_) (fun c_10 => ?_)
      · have c_10 : 8 ≤ ah := c_10
        refine lv_iload_n hx hb d_Mo_init_90 rfl (lv_at hl 2 rfl) ?_
        refine lv_bipush (v := 48) hx hb d_Mo_init_91 (by decide) ?_
        refine lv_icmp_le (tgt := 101) hx hb d_Mo_init_93 (by decide) (fun c_11 => ?_) (fun c_11 => ?_)
        · have c_11 : ah ≤ 48 := c_11
          refine lv_iload_n hx hb d_Mo_init_101 rfl (lv_at hl 2 rfl) ?_
          refine va_putF (D := (dC, dI)) (ci := 3) (v := .int ah) (ty := .int) (C := R_Mo) (T := F_Mo) (N := 12) hx hb hts (fun w h => mw (i_Mo w h)) t_Mo t_Mo_ok n_Mo hown hK hP hD hS 0 rfl rfl 2 (by decide) (hts _ (mw wd_239)) (fun _ h9 => h9) rfl hin rfl (by decide +kernel) rfl rfl (Nat.le_of_ble_eq_true rfl) d_Mo_init_102 (fun H locs hP hD hS => ?_)
          have hP : va_P (dC, dI) cls4 [(mo, .inr (3, [.int 0, .int 48, .int ah, .int 32, .ref q_1, .ref q_2, .int 0, .ref q_3, .int 0, .ref q_4, .ref q_5, .int 0])), (q_1, .inl (cJ, 18, .inr (.inl (fun _ => 0)))), (q_2, .inl (cJ, 120, .inr (.inl (fun _ => 0)))), (q_3, .inl (cJ, 120, .inr (.inl (fun _ => 0)))), (q_4, .inl (cJ, 324, .inr (.inl (fun _ => 0)))), (q_5, .inl (cJ, 18, .inr (.inl (fun _ => 0))))] H := hP
          have hD : va_D A [(mo, .inr (3, [.int 0, .int 48, .int ah, .int 32, .ref q_1, .ref q_2, .int 0, .ref q_3, .int 0, .ref q_4, .ref q_5, .int 0])), (q_1, .inl (cJ, 18, .inr (.inl (fun _ => 0)))), (q_2, .inl (cJ, 120, .inr (.inl (fun _ => 0)))), (q_3, .inl (cJ, 120, .inr (.inl (fun _ => 0)))), (q_4, .inl (cJ, 324, .inr (.inl (fun _ => 0)))), (q_5, .inl (cJ, 18, .inr (.inl (fun _ => 0))))] := hD
          have ewaw : mo_clamp aw = 48 := by unfold mo_clamp; rw [if_pos c_6, if_neg c_7]
          have ewah : mo_clamp ah = ah := by unfold mo_clamp; rw [if_pos c_10, if_pos c_11]
          exact W.vret hx hb hr (fun t ht hW => ⟨⟨(), rfl, trivial, _, _, _, _, _, by rw [ht, ewaw, ewah]; exact hP, by rw [ewaw, ewah]; exact hD, trivial⟩, hS.F ht⟩) hS.2.2 d_Mo_init_105
        · have c_11 : ¬ (ah ≤ 48) := c_11
          refine lv_bipush (v := 48) hx hb d_Mo_init_96 (by decide) ?_
          refine lv_goto (tgt := 102) hx hb d_Mo_init_98 (by decide) ?_
          refine va_putF (D := (dC, dI)) (ci := 3) (v := .int 48) (ty := .int) (C := R_Mo) (T := F_Mo) (N := 12) hx hb hts (fun w h => mw (i_Mo w h)) t_Mo t_Mo_ok n_Mo hown hK hP hD hS 0 rfl rfl 2 (by decide) (hts _ (mw wd_239)) (fun _ h9 => h9) rfl hin rfl (by decide +kernel) rfl rfl (Nat.le_of_ble_eq_true rfl) d_Mo_init_102 (fun H locs hP hD hS => ?_)
          have hP : va_P (dC, dI) cls4 [(mo, .inr (3, [.int 0, .int 48, .int 48, .int 32, .ref q_1, .ref q_2, .int 0, .ref q_3, .int 0, .ref q_4, .ref q_5, .int 0])), (q_1, .inl (cJ, 18, .inr (.inl (fun _ => 0)))), (q_2, .inl (cJ, 120, .inr (.inl (fun _ => 0)))), (q_3, .inl (cJ, 120, .inr (.inl (fun _ => 0)))), (q_4, .inl (cJ, 324, .inr (.inl (fun _ => 0)))), (q_5, .inl (cJ, 18, .inr (.inl (fun _ => 0))))] H := hP
          have hD : va_D A [(mo, .inr (3, [.int 0, .int 48, .int 48, .int 32, .ref q_1, .ref q_2, .int 0, .ref q_3, .int 0, .ref q_4, .ref q_5, .int 0])), (q_1, .inl (cJ, 18, .inr (.inl (fun _ => 0)))), (q_2, .inl (cJ, 120, .inr (.inl (fun _ => 0)))), (q_3, .inl (cJ, 120, .inr (.inl (fun _ => 0)))), (q_4, .inl (cJ, 324, .inr (.inl (fun _ => 0)))), (q_5, .inl (cJ, 18, .inr (.inl (fun _ => 0))))] := hD
          have ewaw : mo_clamp aw = 48 := by unfold mo_clamp; rw [if_pos c_6, if_neg c_7]
          have ewah : mo_clamp ah = 48 := by unfold mo_clamp; rw [if_pos c_10, if_neg c_11]
          exact W.vret hx hb hr (fun t ht hW => ⟨⟨(), rfl, trivial, _, _, _, _, _, by rw [ht, ewaw, ewah]; exact hP, by rw [ewaw, ewah]; exact hD, trivial⟩, hS.F ht⟩) hS.2.2 d_Mo_init_105
      · have c_10 : ¬ (8 ≤ ah) := c_10
        refine lv_bipush (v := 8) hx hb d_Mo_init_85 (by decide) ?_
        refine lv_goto (tgt := 102) hx hb d_Mo_init_87 (by decide) ?_
        refine va_putF (D := (dC, dI)) (ci := 3) (v := .int 8) (ty := .int) (C := R_Mo) (T := F_Mo) (N := 12) hx hb hts (fun w h => mw (i_Mo w h)) t_Mo t_Mo_ok n_Mo hown hK hP hD hS 0 rfl rfl 2 (by decide) (hts _ (mw wd_239)) (fun _ h9 => h9) rfl hin rfl (by decide +kernel) rfl rfl (Nat.le_of_ble_eq_true rfl) d_Mo_init_102 (fun H locs hP hD hS => ?_)
        have hP : va_P (dC, dI) cls4 [(mo, .inr (3, [.int 0, .int 48, .int 8, .int 32, .ref q_1, .ref q_2, .int 0, .ref q_3, .int 0, .ref q_4, .ref q_5, .int 0])), (q_1, .inl (cJ, 18, .inr (.inl (fun _ => 0)))), (q_2, .inl (cJ, 120, .inr (.inl (fun _ => 0)))), (q_3, .inl (cJ, 120, .inr (.inl (fun _ => 0)))), (q_4, .inl (cJ, 324, .inr (.inl (fun _ => 0)))), (q_5, .inl (cJ, 18, .inr (.inl (fun _ => 0))))] H := hP
        have hD : va_D A [(mo, .inr (3, [.int 0, .int 48, .int 8, .int 32, .ref q_1, .ref q_2, .int 0, .ref q_3, .int 0, .ref q_4, .ref q_5, .int 0])), (q_1, .inl (cJ, 18, .inr (.inl (fun _ => 0)))), (q_2, .inl (cJ, 120, .inr (.inl (fun _ => 0)))), (q_3, .inl (cJ, 120, .inr (.inl (fun _ => 0)))), (q_4, .inl (cJ, 324, .inr (.inl (fun _ => 0)))), (q_5, .inl (cJ, 18, .inr (.inl (fun _ => 0))))] := hD
        have ewaw : mo_clamp aw = 48 := by unfold mo_clamp; rw [if_pos c_6, if_neg c_7]
        have ewah : mo_clamp ah = 8 := by unfold mo_clamp; rw [if_neg c_10]
        exact W.vret hx hb hr (fun t ht hW => ⟨⟨(), rfl, trivial, _, _, _, _, _, by rw [ht, ewaw, ewah]; exact hP, by rw [ewaw, ewah]; exact hD, trivial⟩, hS.F ht⟩) hS.2.2 d_Mo_init_105
  · have c_6 : ¬ (8 ≤ aw) := c_6
    refine lv_bipush (v := 8) hx hb d_Mo_init_58 (by decide) ?_
    refine lv_goto (tgt := 75) hx hb d_Mo_init_60 (by decide) ?_
    refine va_putF (D := (dC, dI)) (ci := 3) (v := .int 8) (ty := .int) (C := R_Mo) (T := F_Mo) (N := 12) hx hb hts (fun w h => mw (i_Mo w h)) t_Mo t_Mo_ok n_Mo hown hK hP hD hS 0 rfl rfl 1 (by decide) (hts _ (mw wd_238)) (fun _ h9 => h9) rfl hin rfl (by decide +kernel) rfl rfl (Nat.le_of_ble_eq_true rfl) d_Mo_init_75 (fun H locs hP hD hS => ?_)
    have hP : va_P (dC, dI) cls4 [(mo, .inr (3, [.int 0, .int 8, .int 0, .int 32, .ref q_1, .ref q_2, .int 0, .ref q_3, .int 0, .ref q_4, .ref q_5, .int 0])), (q_1, .inl (cJ, 18, .inr (.inl (fun _ => 0)))), (q_2, .inl (cJ, 120, .inr (.inl (fun _ => 0)))), (q_3, .inl (cJ, 120, .inr (.inl (fun _ => 0)))), (q_4, .inl (cJ, 324, .inr (.inl (fun _ => 0)))), (q_5, .inl (cJ, 18, .inr (.inl (fun _ => 0))))] H := hP
    have hD : va_D A [(mo, .inr (3, [.int 0, .int 8, .int 0, .int 32, .ref q_1, .ref q_2, .int 0, .ref q_3, .int 0, .ref q_4, .ref q_5, .int 0])), (q_1, .inl (cJ, 18, .inr (.inl (fun _ => 0)))), (q_2, .inl (cJ, 120, .inr (.inl (fun _ => 0)))), (q_3, .inl (cJ, 120, .inr (.inl (fun _ => 0)))), (q_4, .inl (cJ, 324, .inr (.inl (fun _ => 0)))), (q_5, .inl (cJ, 18, .inr (.inl (fun _ => 0))))] := hD
    refine lv_aload_n hx hb d_Mo_init_78 rfl (lv_at hl 0 rfl) ?_
    refine lv_iload_n hx hb d_Mo_init_79 rfl (lv_at hl 2 rfl) ?_
    refine lv_bipush (v := 8) hx hb d_Mo_init_80 (by decide) ?_
    refine lv_icmp_ge (tgt := 90) hx hb d_Mo_init_82 (by decide) (fun c_12 => ?_) (fun c_12 => ?_)
    · have c_12 : 8 ≤ ah := c_12
      refine lv_iload_n hx hb d_Mo_init_90 rfl (lv_at hl 2 rfl) ?_
      refine lv_bipush (v := 48) hx hb d_Mo_init_91 (by decide) ?_
      refine lv_icmp_le (tgt := 101) hx hb d_Mo_init_93 (by decide) (fun c_13 => ?_) (fun c_13 => ?_)
      · have c_13 : ah ≤ 48 := c_13
        refine lv_iload_n hx hb d_Mo_init_101 rfl (lv_at hl 2 rfl) ?_
        refine va_putF (D := (dC, dI)) (ci := 3) (v := .int ah) (ty := .int) (C := R_Mo) (T := F_Mo) (N := 12) hx hb hts (fun w h => mw (i_Mo w h)) t_Mo t_Mo_ok n_Mo hown hK hP hD hS 0 rfl rfl 2 (by decide) (hts _ (mw wd_239)) (fun _ h9 => h9) rfl hin rfl (by decide +kernel) rfl rfl (Nat.le_of_ble_eq_true rfl) d_Mo_init_102 (fun H locs hP hD hS => ?_)
        have hP : va_P (dC, dI) cls4 [(mo, .inr (3, [.int 0, .int 8, .int ah, .int 32, .ref q_1, .ref q_2, .int 0, .ref q_3, .int 0, .ref q_4, .ref q_5, .int 0])), (q_1, .inl (cJ, 18, .inr (.inl (fun _ => 0)))), (q_2, .inl (cJ, 120, .inr (.inl (fun _ => 0)))), (q_3, .inl (cJ, 120, .inr (.inl (fun _ => 0)))), (q_4, .inl (cJ, 324, .inr (.inl (fun _ => 0)))), (q_5, .inl (cJ, 18, .inr (.inl (fun _ => 0))))] H := hP
        have hD : va_D A [(mo, .inr (3, [.int 0, .int 8, .int ah, .int 32, .ref q_1, .ref q_2, .int 0, .ref q_3, .int 0, .ref q_4, .ref q_5, .int 0])), (q_1, .inl (cJ, 18, .inr (.inl (fun _ => 0)))), (q_2, .inl (cJ, 120, .inr (.inl (fun _ => 0)))), (q_3, .inl (cJ, 120, .inr (.inl (fun _ => 0)))), (q_4, .inl (cJ, 324, .inr (.inl (fun _ => 0)))), (q_5, .inl (cJ, 18, .inr (.inl (fun _ => 0))))] := hD
        have ewaw : mo_clamp aw = 8 := by unfold mo_clamp; rw [if_neg c_6]
        have ewah : mo_clamp ah = ah := by unfold mo_clamp; rw [if_pos c_12, if_pos c_13]
        exact W.vret hx hb hr (fun t ht hW => ⟨⟨(), rfl, trivial, _, _, _, _, _, by rw [ht, ewaw, ewah]; exact hP, by rw [ewaw, ewah]; exact hD, trivial⟩, hS.F ht⟩) hS.2.2 d_Mo_init_105
      · have c_13 : ¬ (ah ≤ 48) := c_13
        refine lv_bipush (v := 48) hx hb d_Mo_init_96 (by decide) ?_
        refine lv_goto (tgt := 102) hx hb d_Mo_init_98 (by decide) ?_
        refine va_putF (D := (dC, dI)) (ci := 3) (v := .int 48) (ty := .int) (C := R_Mo) (T := F_Mo) (N := 12) hx hb hts (fun w h => mw (i_Mo w h)) t_Mo t_Mo_ok n_Mo hown hK hP hD hS 0 rfl rfl 2 (by decide) (hts _ (mw wd_239)) (fun _ h9 => h9) rfl hin rfl (by decide +kernel) rfl rfl (Nat.le_of_ble_eq_true rfl) d_Mo_init_102 (fun H locs hP hD hS => ?_)
        have hP : va_P (dC, dI) cls4 [(mo, .inr (3, [.int 0, .int 8, .int 48, .int 32, .ref q_1, .ref q_2, .int 0, .ref q_3, .int 0, .ref q_4, .ref q_5, .int 0])), (q_1, .inl (cJ, 18, .inr (.inl (fun _ => 0)))), (q_2, .inl (cJ, 120, .inr (.inl (fun _ => 0)))), (q_3, .inl (cJ, 120, .inr (.inl (fun _ => 0)))), (q_4, .inl (cJ, 324, .inr (.inl (fun _ => 0)))), (q_5, .inl (cJ, 18, .inr (.inl (fun _ => 0))))] H := hP
        have hD : va_D A [(mo, .inr (3, [.int 0, .int 8, .int 48, .int 32, .ref q_1, .ref q_2, .int 0, .ref q_3, .int 0, .ref q_4, .ref q_5, .int 0])), (q_1, .inl (cJ, 18, .inr (.inl (fun _ => 0)))), (q_2, .inl (cJ, 120, .inr (.inl (fun _ => 0)))), (q_3, .inl (cJ, 120, .inr (.inl (fun _ => 0)))), (q_4, .inl (cJ, 324, .inr (.inl (fun _ => 0)))), (q_5, .inl (cJ, 18, .inr (.inl (fun _ => 0))))] := hD
        have ewaw : mo_clamp aw = 8 := by unfold mo_clamp; rw [if_neg c_6]
        have ewah : mo_clamp ah = 48 := by unfold mo_clamp; rw [if_pos c_12, if_neg c_13]
        exact W.vret hx hb hr (fun t ht hW => ⟨⟨(), rfl, trivial, _, _, _, _, _, by rw [ht, ewaw, ewah]; exact hP, by rw [ewaw, ewah]; exact hD, trivial⟩, hS.F ht⟩) hS.2.2 d_Mo_init_105
    · have c_12 : ¬ (8 ≤ ah) := c_12
      refine lv_bipush (v := 8) hx hb d_Mo_init_85 (by decide) ?_
      refine lv_goto (tgt := 102) hx hb d_Mo_init_87 (by decide) ?_
      refine va_putF (D := (dC, dI)) (ci := 3) (v := .int 8) (ty := .int) (C := R_Mo) (T := F_Mo) (N := 12) hx hb hts (fun w h => mw (i_Mo w h)) t_Mo t_Mo_ok n_Mo hown hK hP hD hS 0 rfl rfl 2 (by decide) (hts _ (mw wd_239)) (fun _ h9 => h9) rfl hin rfl (by decide +kernel) rfl rfl (Nat.le_of_ble_eq_true rfl) d_Mo_init_102 (fun H locs hP hD hS => ?_)
      have hP : va_P (dC, dI) cls4 [(mo, .inr (3, [.int 0, .int 8, .int 8, .int 32, .ref q_1, .ref q_2, .int 0, .ref q_3, .int 0, .ref q_4, .ref q_5, .int 0])), (q_1, .inl (cJ, 18, .inr (.inl (fun _ => 0)))), (q_2, .inl (cJ, 120, .inr (.inl (fun _ => 0)))), (q_3, .inl (cJ, 120, .inr (.inl (fun _ => 0)))), (q_4, .inl (cJ, 324, .inr (.inl (fun _ => 0)))), (q_5, .inl (cJ, 18, .inr (.inl (fun _ => 0))))] H := hP
      have hD : va_D A [(mo, .inr (3, [.int 0, .int 8, .int 8, .int 32, .ref q_1, .ref q_2, .int 0, .ref q_3, .int 0, .ref q_4, .ref q_5, .int 0])), (q_1, .inl (cJ, 18, .inr (.inl (fun _ => 0)))), (q_2, .inl (cJ, 120, .inr (.inl (fun _ => 0)))), (q_3, .inl (cJ, 120, .inr (.inl (fun _ => 0)))), (q_4, .inl (cJ, 324, .inr (.inl (fun _ => 0)))), (q_5, .inl (cJ, 18, .inr (.inl (fun _ => 0))))] := hD
      have ewaw : mo_clamp aw = 8 := by unfold mo_clamp; rw [if_neg c_6]
      have ewah : mo_clamp ah = 8 := by unfold mo_clamp; rw [if_neg c_12]
      exact W.vret hx hb hr (fun t ht hW => ⟨⟨(), rfl, trivial, _, _, _, _, _, by rw [ht, ewaw, ewah]; exact hP, by rw [ewaw, ewah]; exact hD, trivial⟩, hS.F ht⟩) hS.2.2 d_Mo_init_105
