noncomputable def f_Mo_nearI_r (wi : Int32) (hi : Int32) (ct : Nat) (mpf : Nat → Int64) (mqf : Nat → Int64) (S : Nat → Nat) (T : Nat → Nat) (P : Nat → Int64) (ix : Nat) (xx : Int32) (yy : Int32) : Int32 := if (qc wi hi ct S T P (nI ix) xx yy) = 0 then (-1) else ((f_Mo_div (((f_Mo_weight mpf ix 0 xx yy) + (f_Mo_weight mpf ix 1 xx yy)) + (f_Mo_weight mpf ix 2 xx yy)) (mqf (ix))).toInt32)
set_option maxHeartbeats 4000000 in
set_option maxRecDepth 100000 in
theorem c_Mo_nearI (l : Launch) (dC : Nat → ClassId) (dI : Nat → Nat → Nat) (cJ cI : ClassId) (sz : Nat) (mo : Nat) (wi : Int32) (hi : Int32) (fo : Int32) (mt : Nat) (mr : Nat) (ma : Int32) (mx : Nat) (mn : Int32) (mp : Nat) (mq : Nat) (ct : Nat) (mtf : Nat → Int64) (mrf : Nat → Int64) (mxf : Nat → Int64) (mpf : Nat → Int64) (mqf : Nat → Int64) (pn : Nat) (S : Nat → Nat) (T : Nat → Nat) (P : Nat → Int64) (ix : Nat) (xx : Int32) (yy : Int32) (hr9 : mo_rel mpf mqf ct pn S T P) (hp9 : mo_wh wi hi) (hx9 : ix < 18) (hz9 : ¬ mqf ix = 0) : Met l y_Mo_near w_Mo_near ({ frames := 3, cells := 0, slots := 0, locals := 79 } : Room) (rq_rw (dC, dI) cJ cI sz [.ref mo, .int (nI ix), .int xx, .int yy] [(mo, .inr (3, [.int 0, .int wi, .int hi, .int fo, .ref mt, .ref mr, .int ma, .ref mx, .int mn, .ref mp, .ref mq, .int (nI ct)])), (mt, .inl (cJ, 18, .inr (.inl mtf))), (mr, .inl (cJ, 120, .inr (.inl mrf))), (mx, .inl (cJ, 120, .inr (.inl mxf))), (mp, .inl (cJ, 324, .inr (.inl mpf))), (mq, .inl (cJ, 18, .inr (.inl mqf)))]) (va_Qi (fun (r : Int32) (_ : Unit) => r = f_Mo_nearI_r wi hi ct mpf mqf S T P ix xx yy) (rz (dC, dI) (va_A [(mo, .inr (3, [.int 0, .int wi, .int hi, .int fo, .ref mt, .ref mr, .int ma, .ref mx, .int mn, .ref mp, .ref mq, .int (nI ct)])), (mt, .inl (cJ, 18, .inr (.inl mtf))), (mr, .inl (cJ, 120, .inr (.inl mrf))), (mx, .inl (cJ, 120, .inr (.inl mxf))), (mp, .inl (cJ, 324, .inr (.inl mpf))), (mq, .inl (cJ, 18, .inr (.inl mqf)))] sz) [(mo, .inr (3, [.int 0, .int wi, .int hi, .int fo, .ref mt, .ref mr, .int ma, .ref mx, .int mn, .ref mp, .ref mq, .int (nI ct)])), (mt, .inl (cJ, 18, .inr (.inl mtf))), (mr, .inl (cJ, 120, .inr (.inl mrf))), (mx, .inl (cJ, 120, .inr (.inl mxf))), (mp, .inl (cJ, 324, .inr (.inl mpf))), (mq, .inl (cJ, 18, .inr (.inl mqf)))]) (va_A [(mo, .inr (3, [.int 0, .int wi, .int hi, .int fo, .ref mt, .ref mr, .int ma, .ref mx, .int mn, .ref mp, .ref mq, .int (nI ct)])), (mt, .inl (cJ, 18, .inr (.inl mtf))), (mr, .inl (cJ, 120, .inr (.inl mrf))), (mx, .inl (cJ, 120, .inr (.inl mxf))), (mp, .inl (cJ, 324, .inr (.inl mpf))), (mq, .inl (cJ, 18, .inr (.inl mqf)))] sz)) 0 0 (va_A [(mo, .inr (3, [.int 0, .int wi, .int hi, .int fo, .ref mt, .ref mr, .int ma, .ref mx, .int mn, .ref mp, .ref mq, .int (nI ct)])), (mt, .inl (cJ, 18, .inr (.inl mtf))), (mr, .inl (cJ, 120, .inr (.inl mrf))), (mx, .inl (cJ, 120, .inr (.inl mxf))), (mp, .inl (cJ, 324, .inr (.inl mpf))), (mq, .inl (cJ, 18, .inr (.inl mqf)))] sz) := by
  refine Met.ofW (cc := b_Mo_near) (maxL := 4) (ret := (some .int)) (by decide) rfl ?_
  intro p e s m args below meth c s₁ B hml hv
  obtain ⟨rfl, hsz, hP, hK, hN, hD0⟩ := hv
  have hx := B.exec
  have hb := B.bytes
  have hr := B.returns
  have hts := atoms_spec (ws := w_Mo_near) B.pre
  have hown : s.vm.findClass R_Mo = some m.cls := findClass_of_methodNamed B.named
  have hlocks := B.notSynchronized
  subst hsz
  have hD := hD0.self (sz := s.heap.size)
  generalize hAe : va_A [(mo, .inr (3, [.int 0, .int wi, .int hi, .int fo, .ref mt, .ref mr, .int ma, .ref mx, .int mn, .ref mp, .ref mq, .int (nI ct)])), (mt, .inl (cJ, 18, .inr (.inl mtf))), (mr, .inl (cJ, 120, .inr (.inl mrf))), (mx, .inl (cJ, 120, .inr (.inl mxf))), (mp, .inl (cJ, 324, .inr (.inl mpf))), (mq, .inl (cJ, 18, .inr (.inl mqf)))] s.heap.size = A at hD ⊢
  have hA : ∀ q : Nat, s.heap.size ≤ q → A q := fun q h => by rw [← hAe]; exact Or.inr h
  have hS : va_S A s.heap s.heap [] := va_S.rf
  have hl := lv_entry ([.ref mo, .int (nI ix), .int xx, .int yy]) (n := 4) (Nat.le_of_ble_eq_true rfl)
  rw [lg_entry_eq]
  generalize (lg_sl ([.ref mo, .int (nI ix), .int xx, .int yy]) ++ List.replicate (4 - (lg_sl ([.ref mo, .int (nI ix), .int xx, .int yy])).length) Slot.unset).toArray = ls at hl ⊢
  have hl : lv_has ls 4 [(0, .ref mo), (1, .int (nI ix)), (2, .int xx), (3, .int yy)] := hl
  have hP : va_P (dC, dI) cls4 [(mo, .inr (3, [.int 0, .int wi, .int hi, .int fo, .ref mt, .ref mr, .int ma, .ref mx, .int mn, .ref mp, .ref mq, .int (nI ct)])), (mt, .inl (cJ, 18, .inr (.inl mtf))), (mr, .inl (cJ, 120, .inr (.inl mrf))), (mx, .inl (cJ, 120, .inr (.inl mxf))), (mp, .inl (cJ, 324, .inr (.inl mpf))), (mq, .inl (cJ, 18, .inr (.inl mqf)))] s.heap := hP
  refine lv_aload_n hx hb d_Mo_near_0 rfl (lv_at hl 0 rfl) ?_
  refine lv_iconst (v := 0) hx hb d_Mo_near_1 (by decide) ?_
  refine va_put (D := (dC, dI)) (ci := 3) (v := .int 0) (ty := .int) (C := R_Mo) (T := F_Mo) (N := 12) hx hb hts (fun w h => mw (i_Mo w h)) t_Mo t_Mo_ok n_Mo hown hK hP hD hS 0 rfl rfl 0 (by decide) (hts _ (mw wd_237)) (fun _ h9 => h9) rfl (by decide +kernel) rfl rfl (Nat.le_of_ble_eq_true rfl) d_Mo_near_2 (fun H locs hP hD hS => ?_)
  have hP : va_P (dC, dI) cls4 [(mo, .inr (3, [.int 0, .int wi, .int hi, .int fo, .ref mt, .ref mr, .int ma, .ref mx, .int mn, .ref mp, .ref mq, .int (nI ct)])), (mt, .inl (cJ, 18, .inr (.inl mtf))), (mr, .inl (cJ, 120, .inr (.inl mrf))), (mx, .inl (cJ, 120, .inr (.inl mxf))), (mp, .inl (cJ, 324, .inr (.inl mpf))), (mq, .inl (cJ, 18, .inr (.inl mqf)))] H := hP
  have hD : va_D A [(mo, .inr (3, [.int 0, .int wi, .int hi, .int fo, .ref mt, .ref mr, .int ma, .ref mx, .int mn, .ref mp, .ref mq, .int (nI ct)])), (mt, .inl (cJ, 18, .inr (.inl mtf))), (mr, .inl (cJ, 120, .inr (.inl mrf))), (mx, .inl (cJ, 120, .inr (.inl mxf))), (mp, .inl (cJ, 324, .inr (.inl mpf))), (mq, .inl (cJ, 18, .inr (.inl mqf)))] := hD
  refine lv_aload_n hx hb d_Mo_near_5 rfl (lv_at hl 0 rfl) ?_
  refine lv_iload_n hx hb d_Mo_near_6 rfl (lv_at hl 1 rfl) ?_
  refine lv_iload_n hx hb d_Mo_near_7 rfl (lv_at hl 2 rfl) ?_
  refine lv_iload_n hx hb d_Mo_near_8 rfl (lv_at hl 3 rfl) ?_
  have hPc := hP
  refine vp_callSi (va_Run.run (va_runV (As := [.int (nI ix), .int xx, .int yy]) (rest := []) ⟨hx, hb, hml, hown, hts⟩ (k_Mo_covers l dC dI cJ cI mo wi hi fo mt mr ma mx mn mp mq ct mtf mrf mxf mpf mqf pn S T P (nI ix) xx yy hr9 hp9) (cwV 3 hts (gd_V wd_322 wd_323 wd_27 wd_37 wd_324) rfl rfl rfl (by decide +kernel) ⟨Nat.le_of_ble_eq_true rfl, Nat.le_of_ble_eq_true rfl⟩) ⟨fb_ro, va_recv hK hPc (ci := 3) (q0 := 0) rfl rfl, pre_ro hK hN hPc⟩ rfl rfl hl.1 rfl (lv_room (Nat.le_of_ble_eq_true rfl)) d_Mo_near_9 ⟨Nat.le_of_ble_eq_true rfl, Nat.le_of_ble_eq_true rfl⟩)) (fun r_1 er_1 => ?_)
  have er_1 : r_1 = qc wi hi ct S T P (nI ix) xx yy := er_1
  refine lv_if_eq (tgt := 54) hx hb d_Mo_near_12 (by decide) (fun c_2 => ?_) (fun c_2 => ?_)
  · have c_2 : r_1 = 0 := c_2
    refine lv_iconst (v := (-1)) hx hb d_Mo_near_54 (by decide) ?_
    subst er_1
    have ew_3 : f_Mo_nearI_r wi hi ct mpf mqf S T P ix xx yy = (-1) := by rw [f_Mo_nearI_r, if_pos c_2]
    exact W.iret (v := (-1)) hx hb hr (fun t ht hW => ⟨⟨_, (), rfl, by rw [f_Mo_nearI_r, if_pos c_2], by rw [ht]; exact hP, by exact hD⟩, hS.F ht⟩) hS.2.2 d_Mo_near_55
  · have c_2 : ¬ (r_1 = 0) := c_2
    refine lv_aload_n hx hb d_Mo_near_15 rfl (lv_at hl 0 rfl) ?_
    refine lv_iload_n hx hb d_Mo_near_16 rfl (lv_at hl 1 rfl) ?_
    refine lv_iconst (v := 0) hx hb d_Mo_near_17 (by decide) ?_
    refine lv_iload_n hx hb d_Mo_near_18 rfl (lv_at hl 2 rfl) ?_
    refine lv_iload_n hx hb d_Mo_near_19 rfl (lv_at hl 3 rfl) ?_
    have hPc := hP
    refine vp_callSl (va_Run.run (va_runV (As := [.int (nI ix), .int (nI 0), .int xx, .int yy]) (rest := []) ⟨hx, hb, hml, hown, hts⟩ (c_Mo_weight l dC dI cJ cI mo wi hi fo mt mr ma mx mn mp mq ct mtf mrf mxf mpf mqf ix 0 xx yy (by omega) (by omega)) (cwV 4 hts (gd_V wd_342 wd_343 wd_31 wd_37 wd_344) rfl rfl rfl (by decide +kernel) ⟨Nat.le_of_ble_eq_true rfl, Nat.le_of_ble_eq_true rfl⟩) ⟨fb_ro, va_recv hK hPc (ci := 3) (q0 := 0) rfl rfl, pre_ro hK hN hPc⟩ rfl rfl hl.1 rfl (lv_room (Nat.le_of_ble_eq_true rfl)) d_Mo_near_20 ⟨Nat.le_of_ble_eq_true rfl, Nat.le_of_ble_eq_true rfl⟩)) (fun r_4 er_4 => ?_)
    have er_4 : r_4 = f_Mo_weight mpf ix 0 xx yy := er_4
    refine lv_aload_n hx hb d_Mo_near_23 rfl (lv_at hl 0 rfl) ?_
    refine lv_iload_n hx hb d_Mo_near_24 rfl (lv_at hl 1 rfl) ?_
    refine lv_iconst (v := 1) hx hb d_Mo_near_25 (by decide) ?_
    refine lv_iload_n hx hb d_Mo_near_26 rfl (lv_at hl 2 rfl) ?_
    refine lv_iload_n hx hb d_Mo_near_27 rfl (lv_at hl 3 rfl) ?_
    have hPc := hP
    refine vp_callSl (va_Run.run (va_runV (As := [.int (nI ix), .int (nI 1), .int xx, .int yy]) (rest := [.long r_4]) ⟨hx, hb, hml, hown, hts⟩ (c_Mo_weight l dC dI cJ cI mo wi hi fo mt mr ma mx mn mp mq ct mtf mrf mxf mpf mqf ix 1 xx yy (by omega) (by omega)) (cwV 4 hts (gd_V wd_342 wd_343 wd_31 wd_37 wd_344) rfl rfl rfl (by decide +kernel) ⟨Nat.le_of_ble_eq_true rfl, Nat.le_of_ble_eq_true rfl⟩) ⟨fb_ro, va_recv hK hPc (ci := 3) (q0 := 0) rfl rfl, pre_ro hK hN hPc⟩ rfl rfl hl.1 rfl (lv_room (Nat.le_of_ble_eq_true rfl)) d_Mo_near_28 ⟨Nat.le_of_ble_eq_true rfl, Nat.le_of_ble_eq_true rfl⟩)) (fun r_5 er_5 => ?_)
    have er_5 : r_5 = f_Mo_weight mpf ix 1 xx yy := er_5
    refine lv_ladd hx hb d_Mo_near_31 ?_
    refine lv_aload_n hx hb d_Mo_near_32 rfl (lv_at hl 0 rfl) ?_
    refine lv_iload_n hx hb d_Mo_near_33 rfl (lv_at hl 1 rfl) ?_
    refine lv_iconst (v := 2) hx hb d_Mo_near_34 (by decide) ?_
    refine lv_iload_n hx hb d_Mo_near_35 rfl (lv_at hl 2 rfl) ?_
    refine lv_iload_n hx hb d_Mo_near_36 rfl (lv_at hl 3 rfl) ?_
    have hPc := hP
    refine vp_callSl (va_Run.run (va_runV (As := [.int (nI ix), .int (nI 2), .int xx, .int yy]) (rest := [.long (r_4 + r_5)]) ⟨hx, hb, hml, hown, hts⟩ (c_Mo_weight l dC dI cJ cI mo wi hi fo mt mr ma mx mn mp mq ct mtf mrf mxf mpf mqf ix 2 xx yy (by omega) (by omega)) (cwV 4 hts (gd_V wd_342 wd_343 wd_31 wd_37 wd_344) rfl rfl rfl (by decide +kernel) ⟨Nat.le_of_ble_eq_true rfl, Nat.le_of_ble_eq_true rfl⟩) ⟨fb_ro, va_recv hK hPc (ci := 3) (q0 := 0) rfl rfl, pre_ro hK hN hPc⟩ rfl rfl hl.1 rfl (lv_room (Nat.le_of_ble_eq_true rfl)) d_Mo_near_37 ⟨Nat.le_of_ble_eq_true rfl, Nat.le_of_ble_eq_true rfl⟩)) (fun r_6 er_6 => ?_)
    have er_6 : r_6 = f_Mo_weight mpf ix 2 xx yy := er_6
    refine lv_ladd hx hb d_Mo_near_40 ?_
    refine lv_aload_n hx hb d_Mo_near_41 rfl (lv_at hl 0 rfl) ?_
    refine va_get (D := (dC, dI)) (ci := 3) (v := .ref mq) (C := R_Mo) (T := F_Mo) (N := 12) hx hb hts (fun w h => mw (i_Mo w h)) hown hK hP 0 rfl rfl 10 (by decide) (hts _ (mw wd_247)) (fun _ h9 => h9) rfl d_Mo_near_42 ?_
    refine lv_iload_n hx hb d_Mo_near_45 rfl (lv_at hl 1 rfl) ?_
    have hq_7 : nI ix = nI (ix) := by first | rfl | (simp only [nk_set_0, nk_set_1, nk_set_2, nk_set_3, nk_set_4, nk_set_5, nk_set_6, nk_set_7, nk_set_12, nk_set_13, nk_set_18, pk_mul, nI_add]; done) | (simp only [nk_set_0, nk_set_1, nk_set_2, nk_set_3, nk_set_4, nk_set_5, nk_set_6, nk_set_7, nk_set_12, nk_set_13, nk_set_18, pk_mul, nI_add]; exact congrArg nI (by omega))
    have hi_8 : vp_in (nI ix) 18 := by rw [hq_7]; exact vp_in_nI (by omega) (by decide)
    refine va_lald hx hb hK hP 5 0 rfl rfl hi_8 d_Mo_near_46 ?_
    refine lv_topl (fun y_9 ey_9 => ?_)
    rw [hq_7, nI_clamp (by omega)] at ey_9
    refine vp_callSl (va_Run.run (va_runS (As := [.long ((r_4 + r_5) + r_6), .long y_9]) (rest := []) ⟨hx, hb, hml, hown, hts⟩ (c_Mo_div l dC dI cJ cI ((r_4 + r_5) + r_6) y_9 (by subst er_1; subst er_4; subst er_5; subst er_6; subst ey_9; exact hz9)) (va_cwS 2 hts (gd_S wd_298 wd_299 wd_37 wd_300) rfl rfl rfl (by decide +kernel) ⟨Nat.le_of_ble_eq_true rfl, Nat.le_of_ble_eq_true rfl⟩) ⟨fb_ro, pre_ro hK hN va_nil⟩ rfl rfl hl.1 rfl (lv_room (Nat.le_of_ble_eq_true rfl)) d_Mo_near_47 ⟨Nat.le_of_ble_eq_true rfl, Nat.le_of_ble_eq_true rfl⟩)) (fun r_10 er_10 => ?_)
    have er_10 : r_10 = f_Mo_div ((r_4 + r_5) + r_6) y_9 := er_10
    refine lv_l2i hx hb d_Mo_near_50 rfl ?_
    refine lv_goto (tgt := 55) hx hb d_Mo_near_51 (by decide) ?_
    subst er_1
    subst er_4
    subst er_5
    subst er_6
    subst ey_9
    subst er_10
    have ew_11 : f_Mo_nearI_r wi hi ct mpf mqf S T P ix xx yy = (f_Mo_div (((f_Mo_weight mpf ix 0 xx yy) + (f_Mo_weight mpf ix 1 xx yy)) + (f_Mo_weight mpf ix 2 xx yy)) (mqf (ix))).toInt32 := by rw [f_Mo_nearI_r, if_neg c_2]
    exact W.iret (v := (f_Mo_div (((f_Mo_weight mpf ix 0 xx yy) + (f_Mo_weight mpf ix 1 xx yy)) + (f_Mo_weight mpf ix 2 xx yy)) (mqf (ix))).toInt32) hx hb hr (fun t ht hW => ⟨⟨_, (), rfl, by rw [f_Mo_nearI_r, if_neg c_2], by rw [ht]; exact hP, by exact hD⟩, hS.F ht⟩) hS.2.2 d_Mo_near_55
set_option maxHeartbeats 4000000 in
set_option maxRecDepth 100000 in
theorem c_Mo_nearO (l : Launch) (dC : Nat → ClassId) (dI : Nat → Nat → Nat) (cJ cI : ClassId) (sz : Nat) (mo : Nat) (wi : Int32) (hi : Int32) (fo : Int32) (mt : Nat) (mr : Nat) (ma : Int32) (mx : Nat) (mn : Int32) (mp : Nat) (mq : Nat) (ct : Nat) (mtf : Nat → Int64) (mrf : Nat → Int64) (mxf : Nat → Int64) (mpf : Nat → Int64) (mqf : Nat → Int64) (pn : Nat) (S : Nat → Nat) (T : Nat → Nat) (P : Nat → Int64) (ix : Int32) (xx : Int32) (yy : Int32) (hr9 : mo_rel mpf mqf ct pn S T P) (hp9 : mo_wh wi hi) (ho9 : qc wi hi ct S T P ix xx yy = 0) : Met l y_Mo_near w_Mo_near ({ frames := 3, cells := 0, slots := 0, locals := 79 } : Room) (rq_rw (dC, dI) cJ cI sz [.ref mo, .int ix, .int xx, .int yy] [(mo, .inr (3, [.int 0, .int wi, .int hi, .int fo, .ref mt, .ref mr, .int ma, .ref mx, .int mn, .ref mp, .ref mq, .int (nI ct)])), (mt, .inl (cJ, 18, .inr (.inl mtf))), (mr, .inl (cJ, 120, .inr (.inl mrf))), (mx, .inl (cJ, 120, .inr (.inl mxf))), (mp, .inl (cJ, 324, .inr (.inl mpf))), (mq, .inl (cJ, 18, .inr (.inl mqf)))]) (va_Qi (fun (r : Int32) (_ : Unit) => r = (-1)) (rz (dC, dI) (va_A [(mo, .inr (3, [.int 0, .int wi, .int hi, .int fo, .ref mt, .ref mr, .int ma, .ref mx, .int mn, .ref mp, .ref mq, .int (nI ct)])), (mt, .inl (cJ, 18, .inr (.inl mtf))), (mr, .inl (cJ, 120, .inr (.inl mrf))), (mx, .inl (cJ, 120, .inr (.inl mxf))), (mp, .inl (cJ, 324, .inr (.inl mpf))), (mq, .inl (cJ, 18, .inr (.inl mqf)))] sz) [(mo, .inr (3, [.int 0, .int wi, .int hi, .int fo, .ref mt, .ref mr, .int ma, .ref mx, .int mn, .ref mp, .ref mq, .int (nI ct)])), (mt, .inl (cJ, 18, .inr (.inl mtf))), (mr, .inl (cJ, 120, .inr (.inl mrf))), (mx, .inl (cJ, 120, .inr (.inl mxf))), (mp, .inl (cJ, 324, .inr (.inl mpf))), (mq, .inl (cJ, 18, .inr (.inl mqf)))]) (va_A [(mo, .inr (3, [.int 0, .int wi, .int hi, .int fo, .ref mt, .ref mr, .int ma, .ref mx, .int mn, .ref mp, .ref mq, .int (nI ct)])), (mt, .inl (cJ, 18, .inr (.inl mtf))), (mr, .inl (cJ, 120, .inr (.inl mrf))), (mx, .inl (cJ, 120, .inr (.inl mxf))), (mp, .inl (cJ, 324, .inr (.inl mpf))), (mq, .inl (cJ, 18, .inr (.inl mqf)))] sz)) 0 0 (va_A [(mo, .inr (3, [.int 0, .int wi, .int hi, .int fo, .ref mt, .ref mr, .int ma, .ref mx, .int mn, .ref mp, .ref mq, .int (nI ct)])), (mt, .inl (cJ, 18, .inr (.inl mtf))), (mr, .inl (cJ, 120, .inr (.inl mrf))), (mx, .inl (cJ, 120, .inr (.inl mxf))), (mp, .inl (cJ, 324, .inr (.inl mpf))), (mq, .inl (cJ, 18, .inr (.inl mqf)))] sz) := by
  refine Met.ofW (cc := b_Mo_near) (maxL := 4) (ret := (some .int)) (by decide) rfl ?_
  intro p e s m args below meth c s₁ B hml hv
  obtain ⟨rfl, hsz, hP, hK, hN, hD0⟩ := hv
  have hx := B.exec
  have hb := B.bytes
  have hr := B.returns
  have hts := atoms_spec (ws := w_Mo_near) B.pre
  have hown : s.vm.findClass R_Mo = some m.cls := findClass_of_methodNamed B.named
  have hlocks := B.notSynchronized
  subst hsz
  have hD := hD0.self (sz := s.heap.size)
  generalize hAe : va_A [(mo, .inr (3, [.int 0, .int wi, .int hi, .int fo, .ref mt, .ref mr, .int ma, .ref mx, .int mn, .ref mp, .ref mq, .int (nI ct)])), (mt, .inl (cJ, 18, .inr (.inl mtf))), (mr, .inl (cJ, 120, .inr (.inl mrf))), (mx, .inl (cJ, 120, .inr (.inl mxf))), (mp, .inl (cJ, 324, .inr (.inl mpf))), (mq, .inl (cJ, 18, .inr (.inl mqf)))] s.heap.size = A at hD ⊢
  have hA : ∀ q : Nat, s.heap.size ≤ q → A q := fun q h => by rw [← hAe]; exact Or.inr h
  have hS : va_S A s.heap s.heap [] := va_S.rf
  have hl := lv_entry ([.ref mo, .int ix, .int xx, .int yy]) (n := 4) (Nat.le_of_ble_eq_true rfl)
  rw [lg_entry_eq]
  generalize (lg_sl ([.ref mo, .int ix, .int xx, .int yy]) ++ List.replicate (4 - (lg_sl ([.ref mo, .int ix, .int xx, .int yy])).length) Slot.unset).toArray = ls at hl ⊢
  have hl : lv_has ls 4 [(0, .ref mo), (1, .int ix), (2, .int xx), (3, .int yy)] := hl
  have hP : va_P (dC, dI) cls4 [(mo, .inr (3, [.int 0, .int wi, .int hi, .int fo, .ref mt, .ref mr, .int ma, .ref mx, .int mn, .ref mp, .ref mq, .int (nI ct)])), (mt, .inl (cJ, 18, .inr (.inl mtf))), (mr, .inl (cJ, 120, .inr (.inl mrf))), (mx, .inl (cJ, 120, .inr (.inl mxf))), (mp, .inl (cJ, 324, .inr (.inl mpf))), (mq, .inl (cJ, 18, .inr (.inl mqf)))] s.heap := hP
  refine lv_aload_n hx hb d_Mo_near_0 rfl (lv_at hl 0 rfl) ?_
  refine lv_iconst (v := 0) hx hb d_Mo_near_1 (by decide) ?_
  refine va_put (D := (dC, dI)) (ci := 3) (v := .int 0) (ty := .int) (C := R_Mo) (T := F_Mo) (N := 12) hx hb hts (fun w h => mw (i_Mo w h)) t_Mo t_Mo_ok n_Mo hown hK hP hD hS 0 rfl rfl 0 (by decide) (hts _ (mw wd_237)) (fun _ h9 => h9) rfl (by decide +kernel) rfl rfl (Nat.le_of_ble_eq_true rfl) d_Mo_near_2 (fun H locs hP hD hS => ?_)
  have hP : va_P (dC, dI) cls4 [(mo, .inr (3, [.int 0, .int wi, .int hi, .int fo, .ref mt, .ref mr, .int ma, .ref mx, .int mn, .ref mp, .ref mq, .int (nI ct)])), (mt, .inl (cJ, 18, .inr (.inl mtf))), (mr, .inl (cJ, 120, .inr (.inl mrf))), (mx, .inl (cJ, 120, .inr (.inl mxf))), (mp, .inl (cJ, 324, .inr (.inl mpf))), (mq, .inl (cJ, 18, .inr (.inl mqf)))] H := hP
  have hD : va_D A [(mo, .inr (3, [.int 0, .int wi, .int hi, .int fo, .ref mt, .ref mr, .int ma, .ref mx, .int mn, .ref mp, .ref mq, .int (nI ct)])), (mt, .inl (cJ, 18, .inr (.inl mtf))), (mr, .inl (cJ, 120, .inr (.inl mrf))), (mx, .inl (cJ, 120, .inr (.inl mxf))), (mp, .inl (cJ, 324, .inr (.inl mpf))), (mq, .inl (cJ, 18, .inr (.inl mqf)))] := hD
  refine lv_aload_n hx hb d_Mo_near_5 rfl (lv_at hl 0 rfl) ?_
  refine lv_iload_n hx hb d_Mo_near_6 rfl (lv_at hl 1 rfl) ?_
  refine lv_iload_n hx hb d_Mo_near_7 rfl (lv_at hl 2 rfl) ?_
  refine lv_iload_n hx hb d_Mo_near_8 rfl (lv_at hl 3 rfl) ?_
  have hPc := hP
  refine vp_callSi (va_Run.run (va_runV (As := [.int ix, .int xx, .int yy]) (rest := []) ⟨hx, hb, hml, hown, hts⟩ (k_Mo_covers l dC dI cJ cI mo wi hi fo mt mr ma mx mn mp mq ct mtf mrf mxf mpf mqf pn S T P ix xx yy hr9 hp9) (cwV 3 hts (gd_V wd_322 wd_323 wd_27 wd_37 wd_324) rfl rfl rfl (by decide +kernel) ⟨Nat.le_of_ble_eq_true rfl, Nat.le_of_ble_eq_true rfl⟩) ⟨fb_ro, va_recv hK hPc (ci := 3) (q0 := 0) rfl rfl, pre_ro hK hN hPc⟩ rfl rfl hl.1 rfl (lv_room (Nat.le_of_ble_eq_true rfl)) d_Mo_near_9 ⟨Nat.le_of_ble_eq_true rfl, Nat.le_of_ble_eq_true rfl⟩)) (fun r_1 er_1 => ?_)
  have er_1 : r_1 = qc wi hi ct S T P ix xx yy := er_1
  refine lv_if_eq (tgt := 54) hx hb d_Mo_near_12 (by decide) (fun c_2 => ?_) (fun c_2 => absurd (by rw [er_1]; exact ho9) c_2)
  refine lv_iconst (v := (-1)) hx hb d_Mo_near_54 (by decide) ?_
  subst er_1
  exact W.iret (v := (-1)) hx hb hr (fun t ht hW => ⟨⟨_, (), rfl, rfl, by rw [ht]; exact hP, by exact hD⟩, hS.F ht⟩) hS.2.2 d_Mo_near_55
noncomputable def f_Mo_numberI_r (wi : Int32) (hi : Int32) (ct : Nat) (mpf : Nat → Int64) (S : Nat → Nat) (T : Nat → Nat) (P : Nat → Int64) (ix : Nat) (xx : Int32) (yy : Int32) (wh : Int32) : Int32 := if (qc wi hi ct S T P (nI ix) xx yy) = 0 then 0 else (if (f_Mo_within wh 0 2) = 0 then 0 else ((f_Mo_div (((0 + ((f_Mo_weight mpf ix 0 xx yy) * (mpf ((nI (18 * ix + (6 * 0) + 3)) + wh).toNatClampNeg))) + ((f_Mo_weight mpf ix 1 xx yy) * (mpf ((nI (18 * ix + (6 * 1) + 3)) + wh).toNatClampNeg))) + ((f_Mo_weight mpf ix 2 xx yy) * (mpf ((nI (18 * ix + (6 * 2) + 3)) + wh).toNatClampNeg))) (((0 + (f_Mo_weight mpf ix 0 xx yy)) + (f_Mo_weight mpf ix 1 xx yy)) + (f_Mo_weight mpf ix 2 xx yy))).toInt32))
set_option maxHeartbeats 4000000 in
set_option maxRecDepth 100000 in
theorem c_Mo_numberI (l : Launch) (dC : Nat → ClassId) (dI : Nat → Nat → Nat) (cJ cI : ClassId) (sz : Nat) (mo : Nat) (wi : Int32) (hi : Int32) (fo : Int32) (mt : Nat) (mr : Nat) (ma : Int32) (mx : Nat) (mn : Int32) (mp : Nat) (mq : Nat) (ct : Nat) (mtf : Nat → Int64) (mrf : Nat → Int64) (mxf : Nat → Int64) (mpf : Nat → Int64) (mqf : Nat → Int64) (pn : Nat) (S : Nat → Nat) (T : Nat → Nat) (P : Nat → Int64) (ix : Nat) (xx : Int32) (yy : Int32) (wh : Int32) (hr9 : mo_rel mpf mqf ct pn S T P) (hp9 : mo_wh wi hi) (hx9 : ix < 18) (hz9 : ¬ qc wi hi ct S T P (nI ix) xx yy = 0 → ¬ 0 + f_Mo_weight mpf ix 0 xx yy + f_Mo_weight mpf ix 1 xx yy + f_Mo_weight mpf ix 2 xx yy = 0) : Met l y_Mo_number w_Mo_number ({ frames := 3, cells := 0, slots := 0, locals := 79 } : Room) (rq_rw (dC, dI) cJ cI sz [.ref mo, .int (nI ix), .int xx, .int yy, .int wh] [(mo, .inr (3, [.int 0, .int wi, .int hi, .int fo, .ref mt, .ref mr, .int ma, .ref mx, .int mn, .ref mp, .ref mq, .int (nI ct)])), (mt, .inl (cJ, 18, .inr (.inl mtf))), (mr, .inl (cJ, 120, .inr (.inl mrf))), (mx, .inl (cJ, 120, .inr (.inl mxf))), (mp, .inl (cJ, 324, .inr (.inl mpf))), (mq, .inl (cJ, 18, .inr (.inl mqf)))]) (va_Qi (fun (r : Int32) (_ : Unit) => r = f_Mo_numberI_r wi hi ct mpf S T P ix xx yy wh) (rz (dC, dI) (va_A [(mo, .inr (3, [.int 0, .int wi, .int hi, .int fo, .ref mt, .ref mr, .int ma, .ref mx, .int mn, .ref mp, .ref mq, .int (nI ct)])), (mt, .inl (cJ, 18, .inr (.inl mtf))), (mr, .inl (cJ, 120, .inr (.inl mrf))), (mx, .inl (cJ, 120, .inr (.inl mxf))), (mp, .inl (cJ, 324, .inr (.inl mpf))), (mq, .inl (cJ, 18, .inr (.inl mqf)))] sz) [(mo, .inr (3, [.int 0, .int wi, .int hi, .int fo, .ref mt, .ref mr, .int ma, .ref mx, .int mn, .ref mp, .ref mq, .int (nI ct)])), (mt, .inl (cJ, 18, .inr (.inl mtf))), (mr, .inl (cJ, 120, .inr (.inl mrf))), (mx, .inl (cJ, 120, .inr (.inl mxf))), (mp, .inl (cJ, 324, .inr (.inl mpf))), (mq, .inl (cJ, 18, .inr (.inl mqf)))]) (va_A [(mo, .inr (3, [.int 0, .int wi, .int hi, .int fo, .ref mt, .ref mr, .int ma, .ref mx, .int mn, .ref mp, .ref mq, .int (nI ct)])), (mt, .inl (cJ, 18, .inr (.inl mtf))), (mr, .inl (cJ, 120, .inr (.inl mrf))), (mx, .inl (cJ, 120, .inr (.inl mxf))), (mp, .inl (cJ, 324, .inr (.inl mpf))), (mq, .inl (cJ, 18, .inr (.inl mqf)))] sz)) 0 0 (va_A [(mo, .inr (3, [.int 0, .int wi, .int hi, .int fo, .ref mt, .ref mr, .int ma, .ref mx, .int mn, .ref mp, .ref mq, .int (nI ct)])), (mt, .inl (cJ, 18, .inr (.inl mtf))), (mr, .inl (cJ, 120, .inr (.inl mrf))), (mx, .inl (cJ, 120, .inr (.inl mxf))), (mp, .inl (cJ, 324, .inr (.inl mpf))), (mq, .inl (cJ, 18, .inr (.inl mqf)))] sz) := by
  refine Met.ofW (cc := b_Mo_number) (maxL := 10) (ret := (some .int)) (by decide) rfl ?_
  intro p e s m args below meth c s₁ B hml hv
  obtain ⟨rfl, hsz, hP, hK, hN, hD0⟩ := hv
  have hx := B.exec
  have hb := B.bytes
  have hr := B.returns
  have hts := atoms_spec (ws := w_Mo_number) B.pre
  have hown : s.vm.findClass R_Mo = some m.cls := findClass_of_methodNamed B.named
  have hlocks := B.notSynchronized
  subst hsz
  have hD := hD0.self (sz := s.heap.size)
  generalize hAe : va_A [(mo, .inr (3, [.int 0, .int wi, .int hi, .int fo, .ref mt, .ref mr, .int ma, .ref mx, .int mn, .ref mp, .ref mq, .int (nI ct)])), (mt, .inl (cJ, 18, .inr (.inl mtf))), (mr, .inl (cJ, 120, .inr (.inl mrf))), (mx, .inl (cJ, 120, .inr (.inl mxf))), (mp, .inl (cJ, 324, .inr (.inl mpf))), (mq, .inl (cJ, 18, .inr (.inl mqf)))] s.heap.size = A at hD ⊢
  have hA : ∀ q : Nat, s.heap.size ≤ q → A q := fun q h => by rw [← hAe]; exact Or.inr h
  have hS : va_S A s.heap s.heap [] := va_S.rf
  have hl := lv_entry ([.ref mo, .int (nI ix), .int xx, .int yy, .int wh]) (n := 10) (Nat.le_of_ble_eq_true rfl)
  rw [lg_entry_eq]
  generalize (lg_sl ([.ref mo, .int (nI ix), .int xx, .int yy, .int wh]) ++ List.replicate (10 - (lg_sl ([.ref mo, .int (nI ix), .int xx, .int yy, .int wh])).length) Slot.unset).toArray = ls at hl ⊢
  have hl : lv_has ls 10 [(0, .ref mo), (1, .int (nI ix)), (2, .int xx), (3, .int yy), (4, .int wh)] := hl
  have hP : va_P (dC, dI) cls4 [(mo, .inr (3, [.int 0, .int wi, .int hi, .int fo, .ref mt, .ref mr, .int ma, .ref mx, .int mn, .ref mp, .ref mq, .int (nI ct)])), (mt, .inl (cJ, 18, .inr (.inl mtf))), (mr, .inl (cJ, 120, .inr (.inl mrf))), (mx, .inl (cJ, 120, .inr (.inl mxf))), (mp, .inl (cJ, 324, .inr (.inl mpf))), (mq, .inl (cJ, 18, .inr (.inl mqf)))] s.heap := hP
  refine lv_aload_n hx hb d_Mo_number_0 rfl (lv_at hl 0 rfl) ?_
  refine lv_iconst (v := 0) hx hb d_Mo_number_1 (by decide) ?_
  refine va_put (D := (dC, dI)) (ci := 3) (v := .int 0) (ty := .int) (C := R_Mo) (T := F_Mo) (N := 12) hx hb hts (fun w h => mw (i_Mo w h)) t_Mo t_Mo_ok n_Mo hown hK hP hD hS 0 rfl rfl 0 (by decide) (hts _ (mw wd_237)) (fun _ h9 => h9) rfl (by decide +kernel) rfl rfl (Nat.le_of_ble_eq_true rfl) d_Mo_number_2 (fun H locs hP hD hS => ?_)
  have hP : va_P (dC, dI) cls4 [(mo, .inr (3, [.int 0, .int wi, .int hi, .int fo, .ref mt, .ref mr, .int ma, .ref mx, .int mn, .ref mp, .ref mq, .int (nI ct)])), (mt, .inl (cJ, 18, .inr (.inl mtf))), (mr, .inl (cJ, 120, .inr (.inl mrf))), (mx, .inl (cJ, 120, .inr (.inl mxf))), (mp, .inl (cJ, 324, .inr (.inl mpf))), (mq, .inl (cJ, 18, .inr (.inl mqf)))] H := hP
  have hD : va_D A [(mo, .inr (3, [.int 0, .int wi, .int hi, .int fo, .ref mt, .ref mr, .int ma, .ref mx, .int mn, .ref mp, .ref mq, .int (nI ct)])), (mt, .inl (cJ, 18, .inr (.inl mtf))), (mr, .inl (cJ, 120, .inr (.inl mrf))), (mx, .inl (cJ, 120, .inr (.inl mxf))), (mp, .inl (cJ, 324, .inr (.inl mpf))), (mq, .inl (cJ, 18, .inr (.inl mqf)))] := hD
  refine lv_aload_n hx hb d_Mo_number_5 rfl (lv_at hl 0 rfl) ?_
  refine lv_iload_n hx hb d_Mo_number_6 rfl (lv_at hl 1 rfl) ?_
  refine lv_iload_n hx hb d_Mo_number_7 rfl (lv_at hl 2 rfl) ?_
  refine lv_iload_n hx hb d_Mo_number_8 rfl (lv_at hl 3 rfl) ?_
  have hPc := hP
  refine vp_callSi (va_Run.run (va_runV (As := [.int (nI ix), .int xx, .int yy]) (rest := []) ⟨hx, hb, hml, hown, hts⟩ (k_Mo_covers l dC dI cJ cI mo wi hi fo mt mr ma mx mn mp mq ct mtf mrf mxf mpf mqf pn S T P (nI ix) xx yy hr9 hp9) (cwV 3 hts (gd_V wd_322 wd_323 wd_27 wd_37 wd_324) rfl rfl rfl (by decide +kernel) ⟨Nat.le_of_ble_eq_true rfl, Nat.le_of_ble_eq_true rfl⟩) ⟨fb_ro, va_recv hK hPc (ci := 3) (q0 := 0) rfl rfl, pre_ro hK hN hPc⟩ rfl rfl hl.1 rfl (lv_room (Nat.le_of_ble_eq_true rfl)) d_Mo_number_9 ⟨Nat.le_of_ble_eq_true rfl, Nat.le_of_ble_eq_true rfl⟩)) (fun r_1 er_1 => ?_)
  have er_1 : r_1 = qc wi hi ct S T P (nI ix) xx yy := er_1
  refine lv_if_eq (tgt := 25) hx hb d_Mo_number_12 (by decide) (fun c_2 => ?_) (fun c_2 => ?_)
  · have c_2 : r_1 = 0 := c_2
    refine lv_iconst (v := 0) hx hb d_Mo_number_25 (by decide) ?_
    subst er_1
    have ew_3 : f_Mo_numberI_r wi hi ct mpf S T P ix xx yy wh = 0 := by rw [f_Mo_numberI_r, if_pos c_2]
    exact W.iret (v := 0) hx hb hr (fun t ht hW => ⟨⟨_, (), rfl, by rw [f_Mo_numberI_r, if_pos c_2], by rw [ht]; exact hP, by exact hD⟩, hS.F ht⟩) hS.2.2 d_Mo_number_26
  · have c_2 : ¬ (r_1 = 0) := c_2
    refine lv_iload hx hb d_Mo_number_15 (lv_at hl 4 rfl) ?_
    refine lv_iconst (v := 0) hx hb d_Mo_number_17 (by decide) ?_
    refine lv_iconst (v := 2) hx hb d_Mo_number_18 (by decide) ?_
    refine vp_callSi (va_Run.run (va_runS (As := [.int wh, .int 0, .int 2]) (rest := []) ⟨hx, hb, hml, hown, hts⟩ (c_Mo_within l dC dI cJ cI wh 0 2) (va_cwS 3 hts (gd_S wd_265 wd_266 wd_37 wd_267) rfl rfl rfl (by decide +kernel) ⟨Nat.le_of_ble_eq_true rfl, Nat.le_of_ble_eq_true rfl⟩) ⟨fb_ro, pre_ro hK hN va_nil⟩ rfl rfl hl.1 rfl (lv_room (Nat.le_of_ble_eq_true rfl)) d_Mo_number_19 ⟨Nat.le_of_ble_eq_true rfl, Nat.le_of_ble_eq_true rfl⟩)) (fun r_4 er_4 => ?_)
    have er_4 : r_4 = f_Mo_within wh 0 2 := er_4
    refine lv_if_ne (tgt := 27) hx hb d_Mo_number_22 (by decide) (fun c_5 => ?_) (fun c_5 => ?_)
    · have c_5 : ¬ (r_4 = 0) := c_5
      refine lv_lconst (v := 0) hx hb d_Mo_number_27 (by decide) ?_
      refine lv_lstore (lv' := [(5, .long 0), (0, .ref mo), (1, .int (nI ix)), (2, .int xx), (3, .int yy), (4, .int wh)]) hx hb d_Mo_number_28 hl (by decide) rfl (fun ls hl => ?_)
      refine lv_lconst (v := 0) hx hb d_Mo_number_30 (by decide) ?_
      refine lv_lstore (lv' := [(7, .long 0), (5, .long 0), (0, .ref mo), (1, .int (nI ix)), (2, .int xx), (3, .int yy), (4, .int wh)]) hx hb d_Mo_number_31 hl (by decide) rfl (fun ls hl => ?_)
      refine lv_iconst (v := 0) hx hb d_Mo_number_33 (by decide) ?_
      refine lv_istore (lv' := [(9, .int 0), (7, .long 0), (5, .long 0), (0, .ref mo), (1, .int (nI ix)), (2, .int xx), (3, .int yy), (4, .int wh)]) hx hb d_Mo_number_34 hl (by decide) rfl (fun ls hl => ?_)
      refine lv_iload hx hb d_Mo_number_36 (lv_at hl 0 rfl) ?_
      refine lv_iconst (v := 3) hx hb d_Mo_number_38 (by decide) ?_
      refine lv_icmp_ge (tgt := 97) hx hb d_Mo_number_39 (by decide) (fun c_6 => absurd c_6 (by decide)) (fun _ => ?_)
      refine lv_lload hx hb d_Mo_number_42 (lv_at hl 2 rfl) ?_
      refine lv_aload_n hx hb d_Mo_number_44 rfl (lv_at hl 3 rfl) ?_
      refine lv_iload_n hx hb d_Mo_number_45 rfl (lv_at hl 4 rfl) ?_
      refine lv_iload hx hb d_Mo_number_46 (lv_at hl 0 rfl) ?_
      refine lv_iload_n hx hb d_Mo_number_48 rfl (lv_at hl 5 rfl) ?_
      refine lv_iload_n hx hb d_Mo_number_49 rfl (lv_at hl 6 rfl) ?_
      have hPc := hP
      refine vp_callSl (va_Run.run (va_runV (As := [.int (nI ix), .int (nI 0), .int xx, .int yy]) (rest := [.long 0]) ⟨hx, hb, hml, hown, hts⟩ (c_Mo_weight l dC dI cJ cI mo wi hi fo mt mr ma mx mn mp mq ct mtf mrf mxf mpf mqf ix 0 xx yy (by omega) (by omega)) (cwV 4 hts (gd_V wd_342 wd_343 wd_31 wd_37 wd_344) rfl rfl rfl (by decide +kernel) ⟨Nat.le_of_ble_eq_true rfl, Nat.le_of_ble_eq_true rfl⟩) ⟨fb_ro, va_recv hK hPc (ci := 3) (q0 := 0) rfl rfl, pre_ro hK hN hPc⟩ rfl rfl hl.1 rfl (lv_room (Nat.le_of_ble_eq_true rfl)) d_Mo_number_50 ⟨Nat.le_of_ble_eq_true rfl, Nat.le_of_ble_eq_true rfl⟩)) (fun r_7 er_7 => ?_)
      have er_7 : r_7 = f_Mo_weight mpf ix 0 xx yy := er_7
      refine lv_aload_n hx hb d_Mo_number_53 rfl (lv_at hl 3 rfl) ?_
      refine va_get (D := (dC, dI)) (ci := 3) (v := .ref mp) (C := R_Mo) (T := F_Mo) (N := 12) hx hb hts (fun w h => mw (i_Mo w h)) hown hK hP 0 rfl rfl 9 (by decide) (hts _ (mw wd_246)) (fun _ h9 => h9) rfl d_Mo_number_54 ?_
      refine lv_bipush (v := 18) hx hb d_Mo_number_57 (by decide) ?_
      refine lv_iload_n hx hb d_Mo_number_59 rfl (lv_at hl 4 rfl) ?_
      refine lv_imul hx hb d_Mo_number_60 ?_
      refine lv_topi (fun y_8 ey_8 => ?_)
      have ey_8 : y_8 = nI (18 * ix) := by rw [ey_8]; first | rfl | (simp only [nk_set_0, nk_set_1, nk_set_2, nk_set_3, nk_set_4, nk_set_5, nk_set_6, nk_set_7, nk_set_12, nk_set_13, nk_set_18, pk_mul, nI_add]; done) | (simp only [nk_set_0, nk_set_1, nk_set_2, nk_set_3, nk_set_4, nk_set_5, nk_set_6, nk_set_7, nk_set_12, nk_set_13, nk_set_18, pk_mul, nI_add]; exact congrArg nI (by omega))
      subst ey_8
      refine lv_bipush (v := 6) hx hb d_Mo_number_61 (by decide) ?_
      refine lv_iload hx hb d_Mo_number_63 (lv_at hl 0 rfl) ?_
      refine lv_imul hx hb d_Mo_number_65 ?_
      refine lv_topi (fun y_9 ey_9 => ?_)
      have ey_9 : y_9 = nI (6 * 0) := by rw [ey_9]; first | rfl | (simp only [nk_set_0, nk_set_1, nk_set_2, nk_set_3, nk_set_4, nk_set_5, nk_set_6, nk_set_7, nk_set_12, nk_set_13, nk_set_18, pk_mul, nI_add]; done) | (simp only [nk_set_0, nk_set_1, nk_set_2, nk_set_3, nk_set_4, nk_set_5, nk_set_6, nk_set_7, nk_set_12, nk_set_13, nk_set_18, pk_mul, nI_add]; exact congrArg nI (by omega))
      subst ey_9
      refine lv_iadd hx hb d_Mo_number_66 ?_
      refine lv_topi (fun y_10 ey_10 => ?_)
      have ey_10 : y_10 = nI (18 * ix + (6 * 0)) := by rw [ey_10]; first | rfl | (simp only [nk_set_0, nk_set_1, nk_set_2, nk_set_3, nk_set_4, nk_set_5, nk_set_6, nk_set_7, nk_set_12, nk_set_13, nk_set_18, pk_mul, nI_add]; done) | (simp only [nk_set_0, nk_set_1, nk_set_2, nk_set_3, nk_set_4, nk_set_5, nk_set_6, nk_set_7, nk_set_12, nk_set_13, nk_set_18, pk_mul, nI_add]; exact congrArg nI (by omega))
      subst ey_10
      refine lv_iconst (v := 3) hx hb d_Mo_number_67 (by decide) ?_
      refine lv_iadd hx hb d_Mo_number_68 ?_
      refine lv_topi (fun y_11 ey_11 => ?_)
      have ey_11 : y_11 = nI (18 * ix + (6 * 0) + 3) := by rw [ey_11]; first | rfl | (simp only [nk_set_0, nk_set_1, nk_set_2, nk_set_3, nk_set_4, nk_set_5, nk_set_6, nk_set_7, nk_set_12, nk_set_13, nk_set_18, pk_mul, nI_add]; done) | (simp only [nk_set_0, nk_set_1, nk_set_2, nk_set_3, nk_set_4, nk_set_5, nk_set_6, nk_set_7, nk_set_12, nk_set_13, nk_set_18, pk_mul, nI_add]; exact congrArg nI (by omega))
      subst ey_11
      refine lv_iload hx hb d_Mo_number_69 (lv_at hl 7 rfl) ?_
      refine lv_iadd hx hb d_Mo_number_71 ?_
      have hi_13 : vp_in ((nI (18 * ix + (6 * 0) + 3)) + wh) 324 := mo_nin (by omega) (by rw [← er_4]; exact c_5)
      refine va_lald hx hb hK hP 4 0 rfl rfl hi_13 d_Mo_number_72 ?_
      refine lv_topl (fun y_14 ey_14 => ?_)
      refine lv_lmul hx hb d_Mo_number_73 ?_
      refine lv_ladd hx hb d_Mo_number_74 ?_
      refine lv_topl (fun y_15 ey_15 => ?_)
      refine lv_lstore (lv' := [(5, .long y_15), (9, .int 0), (7, .long 0), (0, .ref mo), (1, .int (nI ix)), (2, .int xx), (3, .int yy), (4, .int wh)]) hx hb d_Mo_number_75 hl (by decide) rfl (fun ls hl => ?_)
      refine lv_lload hx hb d_Mo_number_77 (lv_at hl 2 rfl) ?_
      refine lv_aload_n hx hb d_Mo_number_79 rfl (lv_at hl 3 rfl) ?_
      refine lv_iload_n hx hb d_Mo_number_80 rfl (lv_at hl 4 rfl) ?_
      refine lv_iload hx hb d_Mo_number_81 (lv_at hl 1 rfl) ?_
      refine lv_iload_n hx hb d_Mo_number_83 rfl (lv_at hl 5 rfl) ?_
      refine lv_iload_n hx hb d_Mo_number_84 rfl (lv_at hl 6 rfl) ?_
      have hPc := hP
      refine vp_callSl (va_Run.run (va_runV (As := [.int (nI ix), .int (nI 0), .int xx, .int yy]) (rest := [.long 0]) ⟨hx, hb, hml, hown, hts⟩ (c_Mo_weight l dC dI cJ cI mo wi hi fo mt mr ma mx mn mp mq ct mtf mrf mxf mpf mqf ix 0 xx yy (by omega) (by omega)) (cwV 4 hts (gd_V wd_342 wd_343 wd_31 wd_37 wd_344) rfl rfl rfl (by decide +kernel) ⟨Nat.le_of_ble_eq_true rfl, Nat.le_of_ble_eq_true rfl⟩) ⟨fb_ro, va_recv hK hPc (ci := 3) (q0 := 0) rfl rfl, pre_ro hK hN hPc⟩ rfl rfl hl.1 rfl (lv_room (Nat.le_of_ble_eq_true rfl)) d_Mo_number_85 ⟨Nat.le_of_ble_eq_true rfl, Nat.le_of_ble_eq_true rfl⟩)) (fun r_16 er_16 => ?_)
      have er_16 : r_16 = f_Mo_weight mpf ix 0 xx yy := er_16
      refine lv_ladd hx hb d_Mo_number_88 ?_
      refine lv_topl (fun y_17 ey_17 => ?_)
      refine lv_lstore (lv' := [(7, .long y_17), (5, .long y_15), (9, .int 0), (0, .ref mo), (1, .int (nI ix)), (2, .int xx), (3, .int yy), (4, .int wh)]) hx hb d_Mo_number_89 hl (by decide) rfl (fun ls hl => ?_)
      refine lv_iinc (v := 1) (lv' := [(9, .int 1), (7, .long y_17), (5, .long y_15), (0, .ref mo), (1, .int (nI ix)), (2, .int xx), (3, .int yy), (4, .int wh)]) hx hb d_Mo_number_91 hl (k := 2) rfl (by decide) (by decide) rfl (fun ls hl => ?_)
      refine lv_goto (tgt := 36) hx hb d_Mo_number_94 (by decide) ?_
      refine lv_iload hx hb d_Mo_number_36 (lv_at hl 0 rfl) ?_
      refine lv_iconst (v := 3) hx hb d_Mo_number_38 (by decide) ?_
      refine lv_icmp_ge (tgt := 97) hx hb d_Mo_number_39 (by decide) (fun c_18 => absurd c_18 (by decide)) (fun _ => ?_)
      refine lv_lload hx hb d_Mo_number_42 (lv_at hl 2 rfl) ?_
      refine lv_aload_n hx hb d_Mo_number_44 rfl (lv_at hl 3 rfl) ?_
      refine lv_iload_n hx hb d_Mo_number_45 rfl (lv_at hl 4 rfl) ?_
      refine lv_iload hx hb d_Mo_number_46 (lv_at hl 0 rfl) ?_
      refine lv_iload_n hx hb d_Mo_number_48 rfl (lv_at hl 5 rfl) ?_
      refine lv_iload_n hx hb d_Mo_number_49 rfl (lv_at hl 6 rfl) ?_
      have hPc := hP
      refine vp_callSl (va_Run.run (va_runV (As := [.int (nI ix), .int (nI 1), .int xx, .int yy]) (rest := [.long y_15]) ⟨hx, hb, hml, hown, hts⟩ (c_Mo_weight l dC dI cJ cI mo wi hi fo mt mr ma mx mn mp mq ct mtf mrf mxf mpf mqf ix 1 xx yy (by omega) (by omega)) (cwV 4 hts (gd_V wd_342 wd_343 wd_31 wd_37 wd_344) rfl rfl rfl (by decide +kernel) ⟨Nat.le_of_ble_eq_true rfl, Nat.le_of_ble_eq_true rfl⟩) ⟨fb_ro, va_recv hK hPc (ci := 3) (q0 := 0) rfl rfl, pre_ro hK hN hPc⟩ rfl rfl hl.1 rfl (lv_room (Nat.le_of_ble_eq_true rfl)) d_Mo_number_50 ⟨Nat.le_of_ble_eq_true rfl, Nat.le_of_ble_eq_true rfl⟩)) (fun r_19 er_19 => ?_)
      have er_19 : r_19 = f_Mo_weight mpf ix 1 xx yy := er_19
      refine lv_aload_n hx hb d_Mo_number_53 rfl (lv_at hl 3 rfl) ?_
      refine va_get (D := (dC, dI)) (ci := 3) (v := .ref mp) (C := R_Mo) (T := F_Mo) (N := 12) hx hb hts (fun w h => mw (i_Mo w h)) hown hK hP 0 rfl rfl 9 (by decide) (hts _ (mw wd_246)) (fun _ h9 => h9) rfl d_Mo_number_54 ?_
      refine lv_bipush (v := 18) hx hb d_Mo_number_57 (by decide) ?_
      refine lv_iload_n hx hb d_Mo_number_59 rfl (lv_at hl 4 rfl) ?_
      refine lv_imul hx hb d_Mo_number_60 ?_
      refine lv_topi (fun y_20 ey_20 => ?_)
      have ey_20 : y_20 = nI (18 * ix) := by rw [ey_20]; first | rfl | (simp only [nk_set_0, nk_set_1, nk_set_2, nk_set_3, nk_set_4, nk_set_5, nk_set_6, nk_set_7, nk_set_12, nk_set_13, nk_set_18, pk_mul, nI_add]; done) | (simp only [nk_set_0, nk_set_1, nk_set_2, nk_set_3, nk_set_4, nk_set_5, nk_set_6, nk_set_7, nk_set_12, nk_set_13, nk_set_18, pk_mul, nI_add]; exact congrArg nI (by omega))
      subst ey_20
      refine lv_bipush (v := 6) hx hb d_Mo_number_61 (by decide) ?_
      refine lv_iload hx hb d_Mo_number_63 (lv_at hl 0 rfl) ?_
      refine lv_imul hx hb d_Mo_number_65 ?_
      refine lv_topi (fun y_21 ey_21 => ?_)
      have ey_21 : y_21 = nI (6 * 1) := by rw [ey_21]; first | rfl | (simp only [nk_set_0, nk_set_1, nk_set_2, nk_set_3, nk_set_4, nk_set_5, nk_set_6, nk_set_7, nk_set_12, nk_set_13, nk_set_18, pk_mul, nI_add]; done) | (simp only [nk_set_0, nk_set_1, nk_set_2, nk_set_3, nk_set_4, nk_set_5, nk_set_6, nk_set_7, nk_set_12, nk_set_13, nk_set_18, pk_mul, nI_add]; exact congrArg nI (by omega))
      subst ey_21
      refine lv_iadd hx hb d_Mo_number_66 ?_
      refine lv_topi (fun y_22 ey_22 => ?_)
      have ey_22 : y_22 = nI (18 * ix + (6 * 1)) := by rw [ey_22]; first | rfl | (simp only [nk_set_0, nk_set_1, nk_set_2, nk_set_3, nk_set_4, nk_set_5, nk_set_6, nk_set_7, nk_set_12, nk_set_13, nk_set_18, pk_mul, nI_add]; done) | (simp only [nk_set_0, nk_set_1, nk_set_2, nk_set_3, nk_set_4, nk_set_5, nk_set_6, nk_set_7, nk_set_12, nk_set_13, nk_set_18, pk_mul, nI_add]; exact congrArg nI (by omega))
      subst ey_22
      refine lv_iconst (v := 3) hx hb d_Mo_number_67 (by decide) ?_
      refine lv_iadd hx hb d_Mo_number_68 ?_
      refine lv_topi (fun y_23 ey_23 => ?_)
      have ey_23 : y_23 = nI (18 * ix + (6 * 1) + 3) := by rw [ey_23]; first | rfl | (simp only [nk_set_0, nk_set_1, nk_set_2, nk_set_3, nk_set_4, nk_set_5, nk_set_6, nk_set_7, nk_set_12, nk_set_13, nk_set_18, pk_mul, nI_add]; done) | (simp only [nk_set_0, nk_set_1, nk_set_2, nk_set_3, nk_set_4, nk_set_5, nk_set_6, nk_set_7, nk_set_12, nk_set_13, nk_set_18, pk_mul, nI_add]; exact congrArg nI (by omega))
      subst ey_23
      refine lv_iload hx hb d_Mo_number_69 (lv_at hl 7 rfl) ?_
      refine lv_iadd hx hb d_Mo_number_71 ?_
      have hi_25 : vp_in ((nI (18 * ix + (6 * 1) + 3)) + wh) 324 := mo_nin (by omega) (by rw [← er_4]; exact c_5)
      refine va_lald hx hb hK hP 4 0 rfl rfl hi_25 d_Mo_number_72 ?_
      refine lv_topl (fun y_26 ey_26 => ?_)
      refine lv_lmul hx hb d_Mo_number_73 ?_
      refine lv_ladd hx hb d_Mo_number_74 ?_
      refine lv_topl (fun y_27 ey_27 => ?_)
      refine lv_lstore (lv' := [(5, .long y_27), (9, .int 1), (7, .long y_17), (0, .ref mo), (1, .int (nI ix)), (2, .int xx), (3, .int yy), (4, .int wh)]) hx hb d_Mo_number_75 hl (by decide) rfl (fun ls hl => ?_)
      refine lv_lload hx hb d_Mo_number_77 (lv_at hl 2 rfl) ?_
      refine lv_aload_n hx hb d_Mo_number_79 rfl (lv_at hl 3 rfl) ?_
      refine lv_iload_n hx hb d_Mo_number_80 rfl (lv_at hl 4 rfl) ?_
      refine lv_iload hx hb d_Mo_number_81 (lv_at hl 1 rfl) ?_
      refine lv_iload_n hx hb d_Mo_number_83 rfl (lv_at hl 5 rfl) ?_
      refine lv_iload_n hx hb d_Mo_number_84 rfl (lv_at hl 6 rfl) ?_
      have hPc := hP
      refine vp_callSl (va_Run.run (va_runV (As := [.int (nI ix), .int (nI 1), .int xx, .int yy]) (rest := [.long y_17]) ⟨hx, hb, hml, hown, hts⟩ (c_Mo_weight l dC dI cJ cI mo wi hi fo mt mr ma mx mn mp mq ct mtf mrf mxf mpf mqf ix 1 xx yy (by omega) (by omega)) (cwV 4 hts (gd_V wd_342 wd_343 wd_31 wd_37 wd_344) rfl rfl rfl (by decide +kernel) ⟨Nat.le_of_ble_eq_true rfl, Nat.le_of_ble_eq_true rfl⟩) ⟨fb_ro, va_recv hK hPc (ci := 3) (q0 := 0) rfl rfl, pre_ro hK hN hPc⟩ rfl rfl hl.1 rfl (lv_room (Nat.le_of_ble_eq_true rfl)) d_Mo_number_85 ⟨Nat.le_of_ble_eq_true rfl, Nat.le_of_ble_eq_true rfl⟩)) (fun r_28 er_28 => ?_)
      have er_28 : r_28 = f_Mo_weight mpf ix 1 xx yy := er_28
      refine lv_ladd hx hb d_Mo_number_88 ?_
      refine lv_topl (fun y_29 ey_29 => ?_)
      refine lv_lstore (lv' := [(7, .long y_29), (5, .long y_27), (9, .int 1), (0, .ref mo), (1, .int (nI ix)), (2, .int xx), (3, .int yy), (4, .int wh)]) hx hb d_Mo_number_89 hl (by decide) rfl (fun ls hl => ?_)
      refine lv_iinc (v := 2) (lv' := [(9, .int 2), (7, .long y_29), (5, .long y_27), (0, .ref mo), (1, .int (nI ix)), (2, .int xx), (3, .int yy), (4, .int wh)]) hx hb d_Mo_number_91 hl (k := 2) rfl (by decide) (by decide) rfl (fun ls hl => ?_)
      refine lv_goto (tgt := 36) hx hb d_Mo_number_94 (by decide) ?_
      refine lv_iload hx hb d_Mo_number_36 (lv_at hl 0 rfl) ?_
      refine lv_iconst (v := 3) hx hb d_Mo_number_38 (by decide) ?_
      refine lv_icmp_ge (tgt := 97) hx hb d_Mo_number_39 (by decide) (fun c_30 => absurd c_30 (by decide)) (fun _ => ?_)
      refine lv_lload hx hb d_Mo_number_42 (lv_at hl 2 rfl) ?_
      refine lv_aload_n hx hb d_Mo_number_44 rfl (lv_at hl 3 rfl) ?_
      refine lv_iload_n hx hb d_Mo_number_45 rfl (lv_at hl 4 rfl) ?_
      refine lv_iload hx hb d_Mo_number_46 (lv_at hl 0 rfl) ?_
      refine lv_iload_n hx hb d_Mo_number_48 rfl (lv_at hl 5 rfl) ?_
      refine lv_iload_n hx hb d_Mo_number_49 rfl (lv_at hl 6 rfl) ?_
      have hPc := hP
      refine vp_callSl (va_Run.run (va_runV (As := [.int (nI ix), .int (nI 2), .int xx, .int yy]) (rest := [.long y_27]) ⟨hx, hb, hml, hown, hts⟩ (c_Mo_weight l dC dI cJ cI mo wi hi fo mt mr ma mx mn mp mq ct mtf mrf mxf mpf mqf ix 2 xx yy (by omega) (by omega)) (cwV 4 hts (gd_V wd_342 wd_343 wd_31 wd_37 wd_344) rfl rfl rfl (by decide +kernel) ⟨Nat.le_of_ble_eq_true rfl, Nat.le_of_ble_eq_true rfl⟩) ⟨fb_ro, va_recv hK hPc (ci := 3) (q0 := 0) rfl rfl, pre_ro hK hN hPc⟩ rfl rfl hl.1 rfl (lv_room (Nat.le_of_ble_eq_true rfl)) d_Mo_number_50 ⟨Nat.le_of_ble_eq_true rfl, Nat.le_of_ble_eq_true rfl⟩)) (fun r_31 er_31 => ?_)
      have er_31 : r_31 = f_Mo_weight mpf ix 2 xx yy := er_31
      refine lv_aload_n hx hb d_Mo_number_53 rfl (lv_at hl 3 rfl) ?_
      refine va_get (D := (dC, dI)) (ci := 3) (v := .ref mp) (C := R_Mo) (T := F_Mo) (N := 12) hx hb hts (fun w h => mw (i_Mo w h)) hown hK hP 0 rfl rfl 9 (by decide) (hts _ (mw wd_246)) (fun _ h9 => h9) rfl d_Mo_number_54 ?_
      refine lv_bipush (v := 18) hx hb d_Mo_number_57 (by decide) ?_
      refine lv_iload_n hx hb d_Mo_number_59 rfl (lv_at hl 4 rfl) ?_
      refine lv_imul hx hb d_Mo_number_60 ?_
      refine lv_topi (fun y_32 ey_32 => ?_)
      have ey_32 : y_32 = nI (18 * ix) := by rw [ey_32]; first | rfl | (simp only [nk_set_0, nk_set_1, nk_set_2, nk_set_3, nk_set_4, nk_set_5, nk_set_6, nk_set_7, nk_set_12, nk_set_13, nk_set_18, pk_mul, nI_add]; done) | (simp only [nk_set_0, nk_set_1, nk_set_2, nk_set_3, nk_set_4, nk_set_5, nk_set_6, nk_set_7, nk_set_12, nk_set_13, nk_set_18, pk_mul, nI_add]; exact congrArg nI (by omega))
      subst ey_32
      refine lv_bipush (v := 6) hx hb d_Mo_number_61 (by decide) ?_
      refine lv_iload hx hb d_Mo_number_63 (lv_at hl 0 rfl) ?_
      refine lv_imul hx hb d_Mo_number_65 ?_
      refine lv_topi (fun y_33 ey_33 => ?_)
      have ey_33 : y_33 = nI (6 * 2) := by rw [ey_33]; first | rfl | (simp only [nk_set_0, nk_set_1, nk_set_2, nk_set_3, nk_set_4, nk_set_5, nk_set_6, nk_set_7, nk_set_12, nk_set_13, nk_set_18, pk_mul, nI_add]; done) | (simp only [nk_set_0, nk_set_1, nk_set_2, nk_set_3, nk_set_4, nk_set_5, nk_set_6, nk_set_7, nk_set_12, nk_set_13, nk_set_18, pk_mul, nI_add]; exact congrArg nI (by omega))
      subst ey_33
      refine lv_iadd hx hb d_Mo_number_66 ?_
      refine lv_topi (fun y_34 ey_34 => ?_)
      have ey_34 : y_34 = nI (18 * ix + (6 * 2)) := by rw [ey_34]; first | rfl | (simp only [nk_set_0, nk_set_1, nk_set_2, nk_set_3, nk_set_4, nk_set_5, nk_set_6, nk_set_7, nk_set_12, nk_set_13, nk_set_18, pk_mul, nI_add]; done) | (simp only [nk_set_0, nk_set_1, nk_set_2, nk_set_3, nk_set_4, nk_set_5, nk_set_6, nk_set_7, nk_set_12, nk_set_13, nk_set_18, pk_mul, nI_add]; exact congrArg nI (by omega))
      subst ey_34
      refine lv_iconst (v := 3) hx hb d_Mo_number_67 (by decide) ?_
      refine lv_iadd hx hb d_Mo_number_68 ?_
      refine lv_topi (fun y_35 ey_35 => ?_)
      have ey_35 : y_35 = nI (18 * ix + (6 * 2) + 3) := by rw [ey_35]; first | rfl | (simp only [nk_set_0, nk_set_1, nk_set_2, nk_set_3, nk_set_4, nk_set_5, nk_set_6, nk_set_7, nk_set_12, nk_set_13, nk_set_18, pk_mul, nI_add]; done) | (simp only [nk_set_0, nk_set_1, nk_set_2, nk_set_3, nk_set_4, nk_set_5, nk_set_6, nk_set_7, nk_set_12, nk_set_13, nk_set_18, pk_mul, nI_add]; exact congrArg nI (by omega))
      subst ey_35
      refine lv_iload hx hb d_Mo_number_69 (lv_at hl 7 rfl) ?_
      refine lv_iadd hx hb d_Mo_number_71 ?_
      have hi_37 : vp_in ((nI (18 * ix + (6 * 2) + 3)) + wh) 324 := mo_nin (by omega) (by rw [← er_4]; exact c_5)
      refine va_lald hx hb hK hP 4 0 rfl rfl hi_37 d_Mo_number_72 ?_
      refine lv_topl (fun y_38 ey_38 => ?_)
      refine lv_lmul hx hb d_Mo_number_73 ?_
      refine lv_ladd hx hb d_Mo_number_74 ?_
      refine lv_topl (fun y_39 ey_39 => ?_)
      refine lv_lstore (lv' := [(5, .long y_39), (9, .int 2), (7, .long y_29), (0, .ref mo), (1, .int (nI ix)), (2, .int xx), (3, .int yy), (4, .int wh)]) hx hb d_Mo_number_75 hl (by decide) rfl (fun ls hl => ?_)
      refine lv_lload hx hb d_Mo_number_77 (lv_at hl 2 rfl) ?_
      refine lv_aload_n hx hb d_Mo_number_79 rfl (lv_at hl 3 rfl) ?_
      refine lv_iload_n hx hb d_Mo_number_80 rfl (lv_at hl 4 rfl) ?_
      refine lv_iload hx hb d_Mo_number_81 (lv_at hl 1 rfl) ?_
      refine lv_iload_n hx hb d_Mo_number_83 rfl (lv_at hl 5 rfl) ?_
      refine lv_iload_n hx hb d_Mo_number_84 rfl (lv_at hl 6 rfl) ?_
      have hPc := hP
      refine vp_callSl (va_Run.run (va_runV (As := [.int (nI ix), .int (nI 2), .int xx, .int yy]) (rest := [.long y_29]) ⟨hx, hb, hml, hown, hts⟩ (c_Mo_weight l dC dI cJ cI mo wi hi fo mt mr ma mx mn mp mq ct mtf mrf mxf mpf mqf ix 2 xx yy (by omega) (by omega)) (cwV 4 hts (gd_V wd_342 wd_343 wd_31 wd_37 wd_344) rfl rfl rfl (by decide +kernel) ⟨Nat.le_of_ble_eq_true rfl, Nat.le_of_ble_eq_true rfl⟩) ⟨fb_ro, va_recv hK hPc (ci := 3) (q0 := 0) rfl rfl, pre_ro hK hN hPc⟩ rfl rfl hl.1 rfl (lv_room (Nat.le_of_ble_eq_true rfl)) d_Mo_number_85 ⟨Nat.le_of_ble_eq_true rfl, Nat.le_of_ble_eq_true rfl⟩)) (fun r_40 er_40 => ?_)
      have er_40 : r_40 = f_Mo_weight mpf ix 2 xx yy := er_40
      refine lv_ladd hx hb d_Mo_number_88 ?_
      refine lv_topl (fun y_41 ey_41 => ?_)
      refine lv_lstore (lv' := [(7, .long y_41), (5, .long y_39), (9, .int 2), (0, .ref mo), (1, .int (nI ix)), (2, .int xx), (3, .int yy), (4, .int wh)]) hx hb d_Mo_number_89 hl (by decide) rfl (fun ls hl => ?_)
      refine lv_iinc (v := 3) (lv' := [(9, .int 3), (7, .long y_41), (5, .long y_39), (0, .ref mo), (1, .int (nI ix)), (2, .int xx), (3, .int yy), (4, .int wh)]) hx hb d_Mo_number_91 hl (k := 2) rfl (by decide) (by decide) rfl (fun ls hl => ?_)
      refine lv_goto (tgt := 36) hx hb d_Mo_number_94 (by decide) ?_
      refine lv_iload hx hb d_Mo_number_36 (lv_at hl 0 rfl) ?_
      refine lv_iconst (v := 3) hx hb d_Mo_number_38 (by decide) ?_
      refine lv_icmp_ge (tgt := 97) hx hb d_Mo_number_39 (by decide) (fun _ => ?_) (fun c_42 => absurd (by decide) c_42)
      refine lv_lload hx hb d_Mo_number_97 (lv_at hl 2 rfl) ?_
      refine lv_lload hx hb d_Mo_number_99 (lv_at hl 1 rfl) ?_
      refine vp_callSl (va_Run.run (va_runS (As := [.long y_39, .long y_41]) (rest := []) ⟨hx, hb, hml, hown, hts⟩ (c_Mo_div l dC dI cJ cI y_39 y_41 (by subst er_1; subst er_4; subst er_7; subst ey_14; subst ey_15; subst er_16; subst ey_17; subst er_19; subst ey_26; subst ey_27; subst er_28; subst ey_29; subst er_31; subst ey_38; subst ey_39; subst er_40; subst ey_41; exact hz9 c_2)) (va_cwS 2 hts (gd_S wd_298 wd_299 wd_37 wd_300) rfl rfl rfl (by decide +kernel) ⟨Nat.le_of_ble_eq_true rfl, Nat.le_of_ble_eq_true rfl⟩) ⟨fb_ro, pre_ro hK hN va_nil⟩ rfl rfl hl.1 rfl (lv_room (Nat.le_of_ble_eq_true rfl)) d_Mo_number_101 ⟨Nat.le_of_ble_eq_true rfl, Nat.le_of_ble_eq_true rfl⟩)) (fun r_43 er_43 => ?_)
      have er_43 : r_43 = f_Mo_div y_39 y_41 := er_43
      refine lv_l2i hx hb d_Mo_number_104 rfl ?_
      subst er_1
      subst er_4
      subst er_7
      subst ey_14
      subst ey_15
      subst er_16
      subst ey_17
      subst er_19
      subst ey_26
      subst ey_27
      subst er_28
      subst ey_29
      subst er_31
      subst ey_38
      subst ey_39
      subst er_40
      subst ey_41
      subst er_43
      have ew_44 : f_Mo_numberI_r wi hi ct mpf S T P ix xx yy wh = (f_Mo_div (((0 + ((f_Mo_weight mpf ix 0 xx yy) * (mpf ((nI (18 * ix + (6 * 0) + 3)) + wh).toNatClampNeg))) + ((f_Mo_weight mpf ix 1 xx yy) * (mpf ((nI (18 * ix + (6 * 1) + 3)) + wh).toNatClampNeg))) + ((f_Mo_weight mpf ix 2 xx yy) * (mpf ((nI (18 * ix + (6 * 2) + 3)) + wh).toNatClampNeg))) (((0 + (f_Mo_weight mpf ix 0 xx yy)) + (f_Mo_weight mpf ix 1 xx yy)) + (f_Mo_weight mpf ix 2 xx yy))).toInt32 := by rw [f_Mo_numberI_r, if_neg c_2, if_neg c_5]
      exact W.iret (v := (f_Mo_div (((0 + ((f_Mo_weight mpf ix 0 xx yy) * (mpf ((nI (18 * ix + (6 * 0) + 3)) + wh).toNatClampNeg))) + ((f_Mo_weight mpf ix 1 xx yy) * (mpf ((nI (18 * ix + (6 * 1) + 3)) + wh).toNatClampNeg))) + ((f_Mo_weight mpf ix 2 xx yy) * (mpf ((nI (18 * ix + (6 * 2) + 3)) + wh).toNatClampNeg))) (((0 + (f_Mo_weight mpf ix 0 xx yy)) + (f_Mo_weight mpf ix 1 xx yy)) + (f_Mo_weight mpf ix 2 xx yy))).toInt32) hx hb hr (fun t ht hW => ⟨⟨_, (), rfl, by rw [f_Mo_numberI_r, if_neg c_2, if_neg c_5], by rw [ht]; exact hP, by exact hD⟩, hS.F ht⟩) hS.2.2 d_Mo_number_105
    · have c_5 : r_4 = 0 := c_5
      refine lv_iconst (v := 0) hx hb d_Mo_number_25 (by decide) ?_
      subst er_1
      subst er_4
      have ew_45 : f_Mo_numberI_r wi hi ct mpf S T P ix xx yy wh = 0 := by rw [f_Mo_numberI_r, if_neg c_2, if_pos c_5]
      exact W.iret (v := 0) hx hb hr (fun t ht hW => ⟨⟨_, (), rfl, by rw [f_Mo_numberI_r, if_neg c_2, if_pos c_5], by rw [ht]; exact hP, by exact hD⟩, hS.F ht⟩) hS.2.2 d_Mo_number_26
set_option maxHeartbeats 4000000 in
set_option maxRecDepth 100000 in
theorem c_Mo_numberO (l : Launch) (dC : Nat → ClassId) (dI : Nat → Nat → Nat) (cJ cI : ClassId) (sz : Nat) (mo : Nat) (wi : Int32) (hi : Int32) (fo : Int32) (mt : Nat) (mr : Nat) (ma : Int32) (mx : Nat) (mn : Int32) (mp : Nat) (mq : Nat) (ct : Nat) (mtf : Nat → Int64) (mrf : Nat → Int64) (mxf : Nat → Int64) (mpf : Nat → Int64) (mqf : Nat → Int64) (pn : Nat) (S : Nat → Nat) (T : Nat → Nat) (P : Nat → Int64) (ix : Int32) (xx : Int32) (yy : Int32) (wh : Int32) (hr9 : mo_rel mpf mqf ct pn S T P) (hp9 : mo_wh wi hi) (ho9 : qc wi hi ct S T P ix xx yy = 0) : Met l y_Mo_number w_Mo_number ({ frames := 3, cells := 0, slots := 0, locals := 79 } : Room) (rq_rw (dC, dI) cJ cI sz [.ref mo, .int ix, .int xx, .int yy, .int wh] [(mo, .inr (3, [.int 0, .int wi, .int hi, .int fo, .ref mt, .ref mr, .int ma, .ref mx, .int mn, .ref mp, .ref mq, .int (nI ct)])), (mt, .inl (cJ, 18, .inr (.inl mtf))), (mr, .inl (cJ, 120, .inr (.inl mrf))), (mx, .inl (cJ, 120, .inr (.inl mxf))), (mp, .inl (cJ, 324, .inr (.inl mpf))), (mq, .inl (cJ, 18, .inr (.inl mqf)))]) (va_Qi (fun (r : Int32) (_ : Unit) => r = 0) (rz (dC, dI) (va_A [(mo, .inr (3, [.int 0, .int wi, .int hi, .int fo, .ref mt, .ref mr, .int ma, .ref mx, .int mn, .ref mp, .ref mq, .int (nI ct)])), (mt, .inl (cJ, 18, .inr (.inl mtf))), (mr, .inl (cJ, 120, .inr (.inl mrf))), (mx, .inl (cJ, 120, .inr (.inl mxf))), (mp, .inl (cJ, 324, .inr (.inl mpf))), (mq, .inl (cJ, 18, .inr (.inl mqf)))] sz) [(mo, .inr (3, [.int 0, .int wi, .int hi, .int fo, .ref mt, .ref mr, .int ma, .ref mx, .int mn, .ref mp, .ref mq, .int (nI ct)])), (mt, .inl (cJ, 18, .inr (.inl mtf))), (mr, .inl (cJ, 120, .inr (.inl mrf))), (mx, .inl (cJ, 120, .inr (.inl mxf))), (mp, .inl (cJ, 324, .inr (.inl mpf))), (mq, .inl (cJ, 18, .inr (.inl mqf)))]) (va_A [(mo, .inr (3, [.int 0, .int wi, .int hi, .int fo, .ref mt, .ref mr, .int ma, .ref mx, .int mn, .ref mp, .ref mq, .int (nI ct)])), (mt, .inl (cJ, 18, .inr (.inl mtf))), (mr, .inl (cJ, 120, .inr (.inl mrf))), (mx, .inl (cJ, 120, .inr (.inl mxf))), (mp, .inl (cJ, 324, .inr (.inl mpf))), (mq, .inl (cJ, 18, .inr (.inl mqf)))] sz)) 0 0 (va_A [(mo, .inr (3, [.int 0, .int wi, .int hi, .int fo, .ref mt, .ref mr, .int ma, .ref mx, .int mn, .ref mp, .ref mq, .int (nI ct)])), (mt, .inl (cJ, 18, .inr (.inl mtf))), (mr, .inl (cJ, 120, .inr (.inl mrf))), (mx, .inl (cJ, 120, .inr (.inl mxf))), (mp, .inl (cJ, 324, .inr (.inl mpf))), (mq, .inl (cJ, 18, .inr (.inl mqf)))] sz) := by
  refine Met.ofW (cc := b_Mo_number) (maxL := 10) (ret := (some .int)) (by decide) rfl ?_
  intro p e s m args below meth c s₁ B hml hv
  obtain ⟨rfl, hsz, hP, hK, hN, hD0⟩ := hv
  have hx := B.exec
  have hb := B.bytes
  have hr := B.returns
  have hts := atoms_spec (ws := w_Mo_number) B.pre
  have hown : s.vm.findClass R_Mo = some m.cls := findClass_of_methodNamed B.named
  have hlocks := B.notSynchronized
  subst hsz
  have hD := hD0.self (sz := s.heap.size)
  generalize hAe : va_A [(mo, .inr (3, [.int 0, .int wi, .int hi, .int fo, .ref mt, .ref mr, .int ma, .ref mx, .int mn, .ref mp, .ref mq, .int (nI ct)])), (mt, .inl (cJ, 18, .inr (.inl mtf))), (mr, .inl (cJ, 120, .inr (.inl mrf))), (mx, .inl (cJ, 120, .inr (.inl mxf))), (mp, .inl (cJ, 324, .inr (.inl mpf))), (mq, .inl (cJ, 18, .inr (.inl mqf)))] s.heap.size = A at hD ⊢
  have hA : ∀ q : Nat, s.heap.size ≤ q → A q := fun q h => by rw [← hAe]; exact Or.inr h
  have hS : va_S A s.heap s.heap [] := va_S.rf
  have hl := lv_entry ([.ref mo, .int ix, .int xx, .int yy, .int wh]) (n := 10) (Nat.le_of_ble_eq_true rfl)
  rw [lg_entry_eq]
  generalize (lg_sl ([.ref mo, .int ix, .int xx, .int yy, .int wh]) ++ List.replicate (10 - (lg_sl ([.ref mo, .int ix, .int xx, .int yy, .int wh])).length) Slot.unset).toArray = ls at hl ⊢
  have hl : lv_has ls 10 [(0, .ref mo), (1, .int ix), (2, .int xx), (3, .int yy), (4, .int wh)] := hl
  have hP : va_P (dC, dI) cls4 [(mo, .inr (3, [.int 0, .int wi, .int hi, .int fo, .ref mt, .ref mr, .int ma, .ref mx, .int mn, .ref mp, .ref mq, .int (nI ct)])), (mt, .inl (cJ, 18, .inr (.inl mtf))), (mr, .inl (cJ, 120, .inr (.inl mrf))), (mx, .inl (cJ, 120, .inr (.inl mxf))), (mp, .inl (cJ, 324, .inr (.inl mpf))), (mq, .inl (cJ, 18, .inr (.inl mqf)))] s.heap := hP
  refine lv_aload_n hx hb d_Mo_number_0 rfl (lv_at hl 0 rfl) ?_
  refine lv_iconst (v := 0) hx hb d_Mo_number_1 (by decide) ?_
  refine va_put (D := (dC, dI)) (ci := 3) (v := .int 0) (ty := .int) (C := R_Mo) (T := F_Mo) (N := 12) hx hb hts (fun w h => mw (i_Mo w h)) t_Mo t_Mo_ok n_Mo hown hK hP hD hS 0 rfl rfl 0 (by decide) (hts _ (mw wd_237)) (fun _ h9 => h9) rfl (by decide +kernel) rfl rfl (Nat.le_of_ble_eq_true rfl) d_Mo_number_2 (fun H locs hP hD hS => ?_)
  have hP : va_P (dC, dI) cls4 [(mo, .inr (3, [.int 0, .int wi, .int hi, .int fo, .ref mt, .ref mr, .int ma, .ref mx, .int mn, .ref mp, .ref mq, .int (nI ct)])), (mt, .inl (cJ, 18, .inr (.inl mtf))), (mr, .inl (cJ, 120, .inr (.inl mrf))), (mx, .inl (cJ, 120, .inr (.inl mxf))), (mp, .inl (cJ, 324, .inr (.inl mpf))), (mq, .inl (cJ, 18, .inr (.inl mqf)))] H := hP
  have hD : va_D A [(mo, .inr (3, [.int 0, .int wi, .int hi, .int fo, .ref mt, .ref mr, .int ma, .ref mx, .int mn, .ref mp, .ref mq, .int (nI ct)])), (mt, .inl (cJ, 18, .inr (.inl mtf))), (mr, .inl (cJ, 120, .inr (.inl mrf))), (mx, .inl (cJ, 120, .inr (.inl mxf))), (mp, .inl (cJ, 324, .inr (.inl mpf))), (mq, .inl (cJ, 18, .inr (.inl mqf)))] := hD
  refine lv_aload_n hx hb d_Mo_number_5 rfl (lv_at hl 0 rfl) ?_
  refine lv_iload_n hx hb d_Mo_number_6 rfl (lv_at hl 1 rfl) ?_
  refine lv_iload_n hx hb d_Mo_number_7 rfl (lv_at hl 2 rfl) ?_
  refine lv_iload_n hx hb d_Mo_number_8 rfl (lv_at hl 3 rfl) ?_
  have hPc := hP
  refine vp_callSi (va_Run.run (va_runV (As := [.int ix, .int xx, .int yy]) (rest := []) ⟨hx, hb, hml, hown, hts⟩ (k_Mo_covers l dC dI cJ cI mo wi hi fo mt mr ma mx mn mp mq ct mtf mrf mxf mpf mqf pn S T P ix xx yy hr9 hp9) (cwV 3 hts (gd_V wd_322 wd_323 wd_27 wd_37 wd_324) rfl rfl rfl (by decide +kernel) ⟨Nat.le_of_ble_eq_true rfl, Nat.le_of_ble_eq_true rfl⟩) ⟨fb_ro, va_recv hK hPc (ci := 3) (q0 := 0) rfl rfl, pre_ro hK hN hPc⟩ rfl rfl hl.1 rfl (lv_room (Nat.le_of_ble_eq_true rfl)) d_Mo_number_9 ⟨Nat.le_of_ble_eq_true rfl, Nat.le_of_ble_eq_true rfl⟩)) (fun r_1 er_1 => ?_)
  have er_1 : r_1 = qc wi hi ct S T P ix xx yy := er_1
  refine lv_if_eq (tgt := 25) hx hb d_Mo_number_12 (by decide) (fun c_2 => ?_) (fun c_2 => absurd (by rw [er_1]; exact ho9) c_2)
  refine lv_iconst (v := 0) hx hb d_Mo_number_25 (by decide) ?_
  subst er_1
  exact W.iret (v := 0) hx hb hr (fun t ht hW => ⟨⟨_, (), rfl, rfl, by rw [ht]; exact hP, by exact hD⟩, hS.F ht⟩) hS.2.2 d_Mo_number_26
