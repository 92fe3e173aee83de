def f_Mo_far (va : Int32) : Int32 := f_Mo_within va (-16777216) 16777216
set_option maxHeartbeats 4000000 in
set_option maxRecDepth 100000 in
theorem c_Mo_far (l : Launch) (dC : Nat → ClassId) (dI : Nat → Nat → Nat) (cJ cI : ClassId) (va : Int32) : Met l y_Mo_far w_Mo_far ({ frames := 1, cells := 0, slots := 0, locals := 22 } : Room) (rq_ro (dC, dI) cJ cI [.int va] []) (vp_Si (fun r => r = f_Mo_far va)) 0 0 (fun _ => False) := by
  refine Met.ofW (cc := b_Mo_far) (maxL := 1) (ret := (some .boolean)) (by decide) rfl ?_
  intro p e s m args below meth c s₁ B hml hv
  obtain ⟨rfl, hP, hK, hN⟩ := hv
  have hx := B.exec
  have hb := B.bytes
  have hr := B.returns
  have hts := atoms_spec (ws := w_Mo_far) B.pre
  have hown : s.vm.findClass R_Mo = some m.cls := findClass_of_methodNamed B.named
  have hlocks := B.notSynchronized
  have hl := lv_entry ([.int va]) (n := 1) (Nat.le_of_ble_eq_true rfl)
  rw [lg_entry_eq]
  generalize (lg_sl ([.int va]) ++ List.replicate (1 - (lg_sl ([.int va])).length) Slot.unset).toArray = ls at hl ⊢
  have hl : lv_has ls 1 [(0, .int va)] := hl
  refine lv_iload_n hx hb d_Mo_far_0 rfl (lv_at hl 0 rfl) ?_
  refine lv_ldc hx hb hown (hts _ (mw wd_275)) d_Mo_far_1 ?_
  refine lv_ldc hx hb hown (hts _ (mw wd_276)) d_Mo_far_3 ?_
  refine vp_callSi (va_Run.run (va_runS (As := [.int va, .int (-16777216), .int 16777216]) (rest := []) ⟨hx, hb, hml, hown, hts⟩ (c_Mo_within l dC dI cJ cI va (-16777216) 16777216) (va_cwS 3 hts (gd_S wd_265 wd_266 wd_37 wd_267) rfl rfl rfl (by decide +kernel) ⟨Nat.le_of_ble_eq_true rfl, Nat.le_of_ble_eq_true rfl⟩) ⟨fb_ro, pre_ro hK hN va_nil⟩ rfl rfl hl.1 rfl (lv_room (Nat.le_of_ble_eq_true rfl)) d_Mo_far_5 ⟨Nat.le_of_ble_eq_true rfl, Nat.le_of_ble_eq_true rfl⟩)) (fun r_1 er_1 => ?_)
  have er_1 : r_1 = f_Mo_within va (-16777216) 16777216 := er_1
  subst er_1
  exact W.zret (v := f_Mo_within va (-16777216) 16777216) hx hb hr (mo_zn _ _ _) (fun t ht hW => ⟨_, rfl, rfl, ht⟩) (fun q h => by cases h) d_Mo_far_8
def f_Mo_number2 (wi : Int32) (hi : Int32) (fo : Int32) (mrf : Nat → Int64) (sd : Int32) (ci : Nat) : Int64 := if sd = 0 then ((mrf (6 * ci + 2)) - 4096) else (if sd = 1 then ((fo.toInt64 * (mrf (6 * ci))) + (wi.toInt64 * (mrf (6 * ci + 2)))) else (if sd = 2 then ((wi.toInt64 * (mrf (6 * ci + 2))) - (fo.toInt64 * (mrf (6 * ci)))) else (if sd = 3 then ((fo.toInt64 * (mrf (6 * ci + 1))) + (hi.toInt64 * (mrf (6 * ci + 2)))) else ((hi.toInt64 * (mrf (6 * ci + 2))) - (fo.toInt64 * (mrf (6 * ci + 1)))))))
set_option maxHeartbeats 4000000 in
set_option maxRecDepth 100000 in
theorem c_Mo_number2 (l : Launch) (dC : Nat → ClassId) (dI : Nat → Nat → Nat) (cJ cI : ClassId) (mo : Nat) (wi : Int32) (hi : Int32) (fo : Int32) (mt : Nat) (mr : Nat) (ma : Int32) (mx : Nat) (mn : Int32) (mp : Nat) (mq : Nat) (ct : Nat) (mtf : Nat → Int64) (mrf : Nat → Int64) (mxf : Nat → Int64) (mpf : Nat → Int64) (mqf : Nat → Int64) (sd : Int32) (ci : Nat) (hc : ci < 20) : Met l y_Mo_number2 w_Mo_number2 ({ frames := 0, cells := 0, slots := 0, locals := 0 } : Room) (rq_ro (dC, dI) cJ cI [.ref mo, .int sd, .int (nI ci)] [(mo, .inr (3, [.int 0, .int wi, .int hi, .int fo, .ref mt, .ref mr, .int ma, .ref mx, .int mn, .ref mp, .ref mq, .int (nI ct)])), (mt, .inl (cJ, 18, .inr (.inl mtf))), (mr, .inl (cJ, 120, .inr (.inl mrf))), (mx, .inl (cJ, 120, .inr (.inl mxf))), (mp, .inl (cJ, 324, .inr (.inl mpf))), (mq, .inl (cJ, 18, .inr (.inl mqf)))]) (vp_Sl (fun r => r = f_Mo_number2 wi hi fo mrf sd ci)) 0 0 (fun _ => False) := by
  refine Met.ofW (cc := b_Mo_number2) (maxL := 9) (ret := (some .long)) (by decide) rfl ?_
  intro p e s m args below meth c s₁ B hml hv
  obtain ⟨rfl, hP, hK, hN⟩ := hv
  have hx := B.exec
  have hb := B.bytes
  have hr := B.returns
  have hts := atoms_spec (ws := w_Mo_number2) B.pre
  have hown : s.vm.findClass R_Mo = some m.cls := findClass_of_methodNamed B.named
  have hlocks := B.notSynchronized
  have hl := lv_entry ([.ref mo, .int sd, .int (nI ci)]) (n := 9) (Nat.le_of_ble_eq_true rfl)
  rw [lg_entry_eq]
  generalize (lg_sl ([.ref mo, .int sd, .int (nI ci)]) ++ List.replicate (9 - (lg_sl ([.ref mo, .int sd, .int (nI ci)])).length) Slot.unset).toArray = ls at hl ⊢
  have hl : lv_has ls 9 [(0, .ref mo), (1, .int sd), (2, .int (nI ci))] := hl
  refine lv_aload_n hx hb d_Mo_number2_0 rfl (lv_at hl 0 rfl) ?_
  refine va_get (D := (dC, dI)) (ci := 3) (v := .ref mr) (C := R_Mo) (T := F_Mo) (N := 12) hx hb hts (fun w h => mw (i_Mo w h)) hown hK hP 0 rfl rfl 5 (by decide) (hts _ (mw wd_242)) (fun _ h9 => h9) rfl d_Mo_number2_1 ?_
  refine lv_bipush (v := 6) hx hb d_Mo_number2_4 (by decide) ?_
  refine lv_iload_n hx hb d_Mo_number2_6 rfl (lv_at hl 2 rfl) ?_
  refine lv_imul hx hb d_Mo_number2_7 ?_
  refine lv_topi (fun y_1 ey_1 => ?_)
  have ey_1 : y_1 = nI (6 * ci) := by rw [ey_1]; first | rfl | (simp only [nk_set_0, nk_set_1, nk_set_2, nk_set_3, nk_set_4, nk_set_5, nk_set_6, nk_set_7, nk_set_12, nk_set_13, nk_set_18, pk_mul, nI_add]; done) | (simp only [nk_set_0, nk_set_1, nk_set_2, nk_set_3, nk_set_4, nk_set_5, nk_set_6, nk_set_7, nk_set_12, nk_set_13, nk_set_18, pk_mul, nI_add]; exact congrArg nI (by omega))
  subst ey_1
  have hq_2 : nI (6 * ci) = nI (6 * ci) := by first | rfl | (simp only [nk_set_0, nk_set_1, nk_set_2, nk_set_3, nk_set_4, nk_set_5, nk_set_6, nk_set_7, nk_set_12, nk_set_13, nk_set_18, pk_mul, nI_add]; done) | (simp only [nk_set_0, nk_set_1, nk_set_2, nk_set_3, nk_set_4, nk_set_5, nk_set_6, nk_set_7, nk_set_12, nk_set_13, nk_set_18, pk_mul, nI_add]; exact congrArg nI (by omega))
  have hi_3 : vp_in (nI (6 * ci)) 120 := by rw [hq_2]; exact vp_in_nI (by omega) (by decide)
  refine va_lald hx hb hK hP 2 0 rfl rfl hi_3 d_Mo_number2_8 ?_
  refine lv_topl (fun y_4 ey_4 => ?_)
  rw [hq_2, nI_clamp (by omega)] at ey_4
  refine lv_lstore_n (lv' := [(3, .long y_4), (0, .ref mo), (1, .int sd), (2, .int (nI ci))]) hx hb d_Mo_number2_9 rfl hl (by decide) rfl (fun ls hl => ?_)
  refine lv_aload_n hx hb d_Mo_number2_10 rfl (lv_at hl 1 rfl) ?_
  refine va_get (D := (dC, dI)) (ci := 3) (v := .ref mr) (C := R_Mo) (T := F_Mo) (N := 12) hx hb hts (fun w h => mw (i_Mo w h)) hown hK hP 0 rfl rfl 5 (by decide) (hts _ (mw wd_242)) (fun _ h9 => h9) rfl d_Mo_number2_11 ?_
  refine lv_bipush (v := 6) hx hb d_Mo_number2_14 (by decide) ?_
  refine lv_iload_n hx hb d_Mo_number2_16 rfl (lv_at hl 3 rfl) ?_
  refine lv_imul hx hb d_Mo_number2_17 ?_
  refine lv_topi (fun y_5 ey_5 => ?_)
  have ey_5 : y_5 = nI (6 * ci) := by rw [ey_5]; first | rfl | (simp only [nk_set_0, nk_set_1, nk_set_2, nk_set_3, nk_set_4, nk_set_5, nk_set_6, nk_set_7, nk_set_12, nk_set_13, nk_set_18, pk_mul, nI_add]; done) | (simp only [nk_set_0, nk_set_1, nk_set_2, nk_set_3, nk_set_4, nk_set_5, nk_set_6, nk_set_7, nk_set_12, nk_set_13, nk_set_18, pk_mul, nI_add]; exact congrArg nI (by omega))
  subst ey_5
  refine lv_iconst (v := 1) hx hb d_Mo_number2_18 (by decide) ?_
  refine lv_iadd hx hb d_Mo_number2_19 ?_
  refine lv_topi (fun y_6 ey_6 => ?_)
  have ey_6 : y_6 = nI (6 * ci + 1) := by rw [ey_6]; first | rfl | (simp only [nk_set_0, nk_set_1, nk_set_2, nk_set_3, nk_set_4, nk_set_5, nk_set_6, nk_set_7, nk_set_12, nk_set_13, nk_set_18, pk_mul, nI_add]; done) | (simp only [nk_set_0, nk_set_1, nk_set_2, nk_set_3, nk_set_4, nk_set_5, nk_set_6, nk_set_7, nk_set_12, nk_set_13, nk_set_18, pk_mul, nI_add]; exact congrArg nI (by omega))
  subst ey_6
  have hq_7 : nI (6 * ci + 1) = nI (6 * ci + 1) := by first | rfl | (simp only [nk_set_0, nk_set_1, nk_set_2, nk_set_3, nk_set_4, nk_set_5, nk_set_6, nk_set_7, nk_set_12, nk_set_13, nk_set_18, pk_mul, nI_add]; done) | (simp only [nk_set_0, nk_set_1, nk_set_2, nk_set_3, nk_set_4, nk_set_5, nk_set_6, nk_set_7, nk_set_12, nk_set_13, nk_set_18, pk_mul, nI_add]; exact congrArg nI (by omega))
  have hi_8 : vp_in (nI (6 * ci + 1)) 120 := by rw [hq_7]; exact vp_in_nI (by omega) (by decide)
  refine va_lald hx hb hK hP 2 0 rfl rfl hi_8 d_Mo_number2_20 ?_
  refine lv_topl (fun y_9 ey_9 => ?_)
  rw [hq_7, nI_clamp (by omega)] at ey_9
  refine lv_lstore (lv' := [(5, .long y_9), (3, .long y_4), (0, .ref mo), (1, .int sd), (2, .int (nI ci))]) hx hb d_Mo_number2_21 hl (by decide) rfl (fun ls hl => ?_)
  refine lv_aload_n hx hb d_Mo_number2_23 rfl (lv_at hl 2 rfl) ?_
  refine va_get (D := (dC, dI)) (ci := 3) (v := .ref mr) (C := R_Mo) (T := F_Mo) (N := 12) hx hb hts (fun w h => mw (i_Mo w h)) hown hK hP 0 rfl rfl 5 (by decide) (hts _ (mw wd_242)) (fun _ h9 => h9) rfl d_Mo_number2_24 ?_
  refine lv_bipush (v := 6) hx hb d_Mo_number2_27 (by decide) ?_
  refine lv_iload_n hx hb d_Mo_number2_29 rfl (lv_at hl 4 rfl) ?_
  refine lv_imul hx hb d_Mo_number2_30 ?_
  refine lv_topi (fun y_10 ey_10 => ?_)
  have ey_10 : y_10 = nI (6 * ci) := by rw [ey_10]; first | rfl | (simp only [nk_set_0, nk_set_1, nk_set_2, nk_set_3, nk_set_4, nk_set_5, nk_set_6, nk_set_7, nk_set_12, nk_set_13, nk_set_18, pk_mul, nI_add]; done) | (simp only [nk_set_0, nk_set_1, nk_set_2, nk_set_3, nk_set_4, nk_set_5, nk_set_6, nk_set_7, nk_set_12, nk_set_13, nk_set_18, pk_mul, nI_add]; exact congrArg nI (by omega))
  subst ey_10
  refine lv_iconst (v := 2) hx hb d_Mo_number2_31 (by decide) ?_
  refine lv_iadd hx hb d_Mo_number2_32 ?_
  refine lv_topi (fun y_11 ey_11 => ?_)
  have ey_11 : y_11 = nI (6 * ci + 2) := by rw [ey_11]; first | rfl | (simp only [nk_set_0, nk_set_1, nk_set_2, nk_set_3, nk_set_4, nk_set_5, nk_set_6, nk_set_7, nk_set_12, nk_set_13, nk_set_18, pk_mul, nI_add]; done) | (simp only [nk_set_0, nk_set_1, nk_set_2, nk_set_3, nk_set_4, nk_set_5, nk_set_6, nk_set_7, nk_set_12, nk_set_13, nk_set_18, pk_mul, nI_add]; exact congrArg nI (by omega))
  subst ey_11
  have hq_12 : nI (6 * ci + 2) = nI (6 * ci + 2) := by first | rfl | (simp only [nk_set_0, nk_set_1, nk_set_2, nk_set_3, nk_set_4, nk_set_5, nk_set_6, nk_set_7, nk_set_12, nk_set_13, nk_set_18, pk_mul, nI_add]; done) | (simp only [nk_set_0, nk_set_1, nk_set_2, nk_set_3, nk_set_4, nk_set_5, nk_set_6, nk_set_7, nk_set_12, nk_set_13, nk_set_18, pk_mul, nI_add]; exact congrArg nI (by omega))
  have hi_13 : vp_in (nI (6 * ci + 2)) 120 := by rw [hq_12]; exact vp_in_nI (by omega) (by decide)
  refine va_lald hx hb hK hP 2 0 rfl rfl hi_13 d_Mo_number2_33 ?_
  refine lv_topl (fun y_14 ey_14 => ?_)
  rw [hq_12, nI_clamp (by omega)] at ey_14
  refine lv_lstore (lv' := [(7, .long y_14), (5, .long y_9), (3, .long y_4), (0, .ref mo), (1, .int sd), (2, .int (nI ci))]) hx hb d_Mo_number2_34 hl (by decide) rfl (fun ls hl => ?_)
  refine lv_iload_n hx hb d_Mo_number2_36 rfl (lv_at hl 4 rfl) ?_
  by_cases c_15 : sd = 0
  · refine lv_tableIn (off := 31) (tgt := 68) hx hb d_Mo_number2_37 (by rw [c_15]; decide) (by rw [c_15]; decide) (by rw [c_15]; rfl) (by decide) ?_
    refine lv_lload hx hb d_Mo_number2_68 (lv_at hl 0 rfl) ?_
    refine lv_ldc2 hx hb hown (hts _ (mw wd_294)) d_Mo_number2_70 ?_
    refine lv_lsub hx hb d_Mo_number2_73 ?_
    subst ey_4
    subst ey_9
    subst ey_14
    exact W.lret (v := (mrf (6 * ci + 2)) - 4096) hx hb hr (fun t ht hW => ⟨_, rfl, by rw [f_Mo_number2, if_pos c_15], ht⟩) (fun q h => by cases h) d_Mo_number2_74
  by_cases c_16 : sd = 1
  · refine lv_tableIn (off := 38) (tgt := 75) hx hb d_Mo_number2_37 (by rw [c_16]; decide) (by rw [c_16]; decide) (by rw [c_16]; rfl) (by decide) ?_
    refine lv_aload_n hx hb d_Mo_number2_75 rfl (lv_at hl 3 rfl) ?_
    refine va_get (D := (dC, dI)) (ci := 3) (v := .int fo) (C := R_Mo) (T := F_Mo) (N := 12) hx hb hts (fun w h => mw (i_Mo w h)) hown hK hP 0 rfl rfl 3 (by decide) (hts _ (mw wd_240)) (fun _ h9 => h9) rfl d_Mo_number2_76 ?_
    refine lv_i2l hx hb d_Mo_number2_79 rfl ?_
    refine lv_lload_n hx hb d_Mo_number2_80 rfl (lv_at hl 2 rfl) ?_
    refine lv_lmul hx hb d_Mo_number2_81 ?_
    refine lv_aload_n hx hb d_Mo_number2_82 rfl (lv_at hl 3 rfl) ?_
    refine va_get (D := (dC, dI)) (ci := 3) (v := .int wi) (C := R_Mo) (T := F_Mo) (N := 12) hx hb hts (fun w h => mw (i_Mo w h)) hown hK hP 0 rfl rfl 1 (by decide) (hts _ (mw wd_238)) (fun _ h9 => h9) rfl d_Mo_number2_83 ?_
    refine lv_i2l hx hb d_Mo_number2_86 rfl ?_
    refine lv_lload hx hb d_Mo_number2_87 (lv_at hl 0 rfl) ?_
    refine lv_lmul hx hb d_Mo_number2_89 ?_
    refine lv_ladd hx hb d_Mo_number2_90 ?_
    subst ey_4
    subst ey_9
    subst ey_14
    exact W.lret (v := (fo.toInt64 * (mrf (6 * ci))) + (wi.toInt64 * (mrf (6 * ci + 2)))) hx hb hr (fun t ht hW => ⟨_, rfl, by rw [f_Mo_number2, if_neg c_15, if_pos c_16], ht⟩) (fun q h => by cases h) d_Mo_number2_91
  by_cases c_17 : sd = 2
  · refine lv_tableIn (off := 55) (tgt := 92) hx hb d_Mo_number2_37 (by rw [c_17]; decide) (by rw [c_17]; decide) (by rw [c_17]; rfl) (by decide) ?_
    refine lv_aload_n hx hb d_Mo_number2_92 rfl (lv_at hl 3 rfl) ?_
    refine va_get (D := (dC, dI)) (ci := 3) (v := .int wi) (C := R_Mo) (T := F_Mo) (N := 12) hx hb hts (fun w h => mw (i_Mo w h)) hown hK hP 0 rfl rfl 1 (by decide) (hts _ (mw wd_238)) (fun _ h9 => h9) rfl d_Mo_number2_93 ?_
    refine lv_i2l hx hb d_Mo_number2_96 rfl ?_
    refine lv_lload hx hb d_Mo_number2_97 (lv_at hl 0 rfl) ?_
    refine lv_lmul hx hb d_Mo_number2_99 ?_
    refine lv_aload_n hx hb d_Mo_number2_100 rfl (lv_at hl 3 rfl) ?_
    refine va_get (D := (dC, dI)) (ci := 3) (v := .int fo) (C := R_Mo) (T := F_Mo) (N := 12) hx hb hts (fun w h => mw (i_Mo w h)) hown hK hP 0 rfl rfl 3 (by decide) (hts _ (mw wd_240)) (fun _ h9 => h9) rfl d_Mo_number2_101 ?_
    refine lv_i2l hx hb d_Mo_number2_104 rfl ?_
    refine lv_lload_n hx hb d_Mo_number2_105 rfl (lv_at hl 2 rfl) ?_
    refine lv_lmul hx hb d_Mo_number2_106 ?_
    refine lv_lsub hx hb d_Mo_number2_107 ?_
    subst ey_4
    subst ey_9
    subst ey_14
    exact W.lret (v := (wi.toInt64 * (mrf (6 * ci + 2))) - (fo.toInt64 * (mrf (6 * ci)))) hx hb hr (fun t ht hW => ⟨_, rfl, by rw [f_Mo_number2, if_neg c_15, if_neg c_16, if_pos c_17], ht⟩) (fun q h => by cases h) d_Mo_number2_108
  by_cases c_18 : sd = 3
  · refine lv_tableIn (off := 72) (tgt := 109) hx hb d_Mo_number2_37 (by rw [c_18]; decide) (by rw [c_18]; decide) (by rw [c_18]; rfl) (by decide) ?_
    refine lv_aload_n hx hb d_Mo_number2_109 rfl (lv_at hl 3 rfl) ?_
    refine va_get (D := (dC, dI)) (ci := 3) (v := .int fo) (C := R_Mo) (T := F_Mo) (N := 12) hx hb hts (fun w h => mw (i_Mo w h)) hown hK hP 0 rfl rfl 3 (by decide) (hts _ (mw wd_240)) (fun _ h9 => h9) rfl d_Mo_number2_110 ?_
    refine lv_i2l hx hb d_Mo_number2_113 rfl ?_
    refine lv_lload hx hb d_Mo_number2_114 (lv_at hl 1 rfl) ?_
    refine lv_lmul hx hb d_Mo_number2_116 ?_
    refine lv_aload_n hx hb d_Mo_number2_117 rfl (lv_at hl 3 rfl) ?_
    refine va_get (D := (dC, dI)) (ci := 3) (v := .int hi) (C := R_Mo) (T := F_Mo) (N := 12) hx hb hts (fun w h => mw (i_Mo w h)) hown hK hP 0 rfl rfl 2 (by decide) (hts _ (mw wd_239)) (fun _ h9 => h9) rfl d_Mo_number2_118 ?_
    refine lv_i2l hx hb d_Mo_number2_121 rfl ?_
    refine lv_lload hx hb d_Mo_number2_122 (lv_at hl 0 rfl) ?_
    refine lv_lmul hx hb d_Mo_number2_124 ?_
    refine lv_ladd hx hb d_Mo_number2_125 ?_
    subst ey_4
    subst ey_9
    subst ey_14
    exact W.lret (v := (fo.toInt64 * (mrf (6 * ci + 1))) + (hi.toInt64 * (mrf (6 * ci + 2)))) hx hb hr (fun t ht hW => ⟨_, rfl, by rw [f_Mo_number2, if_neg c_15, if_neg c_16, if_neg c_17, if_pos c_18], ht⟩) (fun q h => by cases h) d_Mo_number2_126
  · have hsw : sd.toInt < 0 ∨ 3 < sd.toInt := sw_out0_3 c_15 c_16 c_17 c_18
    refine lv_tableOut (tgt := 127) hx hb d_Mo_number2_37 hsw (by decide) ?_
    refine lv_aload_n hx hb d_Mo_number2_127 rfl (lv_at hl 3 rfl) ?_
    refine va_get (D := (dC, dI)) (ci := 3) (v := .int hi) (C := R_Mo) (T := F_Mo) (N := 12) hx hb hts (fun w h => mw (i_Mo w h)) hown hK hP 0 rfl rfl 2 (by decide) (hts _ (mw wd_239)) (fun _ h9 => h9) rfl d_Mo_number2_128 ?_
    refine lv_i2l hx hb d_Mo_number2_131 rfl ?_
    refine lv_lload hx hb d_Mo_number2_132 (lv_at hl 0 rfl) ?_
    refine lv_lmul hx hb d_Mo_number2_134 ?_
    refine lv_aload_n hx hb d_Mo_number2_135 rfl (lv_at hl 3 rfl) ?_
    refine va_get (D := (dC, dI)) (ci := 3) (v := .int fo) (C := R_Mo) (T := F_Mo) (N := 12) hx hb hts (fun w h => mw (i_Mo w h)) hown hK hP 0 rfl rfl 3 (by decide) (hts _ (mw wd_240)) (fun _ h9 => h9) rfl d_Mo_number2_136 ?_
    refine lv_i2l hx hb d_Mo_number2_139 rfl ?_
    refine lv_lload hx hb d_Mo_number2_140 (lv_at hl 1 rfl) ?_
    refine lv_lmul hx hb d_Mo_number2_142 ?_
    refine lv_lsub hx hb d_Mo_number2_143 ?_
    subst ey_4
    subst ey_9
    subst ey_14
    exact W.lret (v := (hi.toInt64 * (mrf (6 * ci + 2))) - (fo.toInt64 * (mrf (6 * ci + 1)))) hx hb hr (fun t ht hW => ⟨_, rfl, by rw [f_Mo_number2, if_neg c_15, if_neg c_16, if_neg c_17, if_neg c_18], ht⟩) (fun q h => by cases h) d_Mo_number2_144
def f_Mo_areaOf (mpf : Nat → Int64) (ix : Nat) : Int64 := (((mpf (18 * ix + 6)) - (mpf (18 * ix))) * ((mpf (18 * ix + 13)) - (mpf (18 * ix + 1)))) - (((mpf (18 * ix + 12)) - (mpf (18 * ix))) * ((mpf (18 * ix + 7)) - (mpf (18 * ix + 1))))
set_option maxHeartbeats 4000000 in
set_option maxRecDepth 100000 in
theorem c_Mo_areaOf (l : Launch) (dC : Nat → ClassId) (dI : Nat → Nat → Nat) (cJ cI : ClassId) (mo : Nat) (wi : Int32) (hi : Int32) (fo : Int32) (mt : Nat) (mr : Nat) (ma : Int32) (mx : Nat) (mn : Int32) (mp : Nat) (mq : Nat) (ct : Nat) (mtf : Nat → Int64) (mrf : Nat → Int64) (mxf : Nat → Int64) (mpf : Nat → Int64) (mqf : Nat → Int64) (ix : Nat) (hx9 : ix < 18) : Met l y_Mo_areaOf w_Mo_areaOf ({ frames := 0, cells := 0, slots := 0, locals := 0 } : Room) (rq_ro (dC, dI) cJ cI [.ref mo, .int (nI ix)] [(mo, .inr (3, [.int 0, .int wi, .int hi, .int fo, .ref mt, .ref mr, .int ma, .ref mx, .int mn, .ref mp, .ref mq, .int (nI ct)])), (mt, .inl (cJ, 18, .inr (.inl mtf))), (mr, .inl (cJ, 120, .inr (.inl mrf))), (mx, .inl (cJ, 120, .inr (.inl mxf))), (mp, .inl (cJ, 324, .inr (.inl mpf))), (mq, .inl (cJ, 18, .inr (.inl mqf)))]) (vp_Sl (fun r => r = f_Mo_areaOf mpf ix)) 0 0 (fun _ => False) := by
  refine Met.ofW (cc := b_Mo_areaOf) (maxL := 3) (ret := (some .long)) (by decide) rfl ?_
  intro p e s m args below meth c s₁ B hml hv
  obtain ⟨rfl, hP, hK, hN⟩ := hv
  have hx := B.exec
  have hb := B.bytes
  have hr := B.returns
  have hts := atoms_spec (ws := w_Mo_areaOf) B.pre
  have hown : s.vm.findClass R_Mo = some m.cls := findClass_of_methodNamed B.named
  have hlocks := B.notSynchronized
  have hl := lv_entry ([.ref mo, .int (nI ix)]) (n := 3) (Nat.le_of_ble_eq_true rfl)
  rw [lg_entry_eq]
  generalize (lg_sl ([.ref mo, .int (nI ix)]) ++ List.replicate (3 - (lg_sl ([.ref mo, .int (nI ix)])).length) Slot.unset).toArray = ls at hl ⊢
  have hl : lv_has ls 3 [(0, .ref mo), (1, .int (nI ix))] := hl
  refine lv_bipush (v := 18) hx hb d_Mo_areaOf_0 (by decide) ?_
  refine lv_iload_n hx hb d_Mo_areaOf_2 rfl (lv_at hl 1 rfl) ?_
  refine lv_imul hx hb d_Mo_areaOf_3 ?_
  refine lv_topi (fun y_1 ey_1 => ?_)
  have ey_1 : y_1 = nI (18 * ix) := by rw [ey_1]; first | rfl | (simp only [nk_set_0, nk_set_1, nk_set_2, nk_set_3, nk_set_4, nk_set_5, nk_set_6, nk_set_7, nk_set_12, nk_set_13, nk_set_18, pk_mul, nI_add]; done) | (simp only [nk_set_0, nk_set_1, nk_set_2, nk_set_3, nk_set_4, nk_set_5, nk_set_6, nk_set_7, nk_set_12, nk_set_13, nk_set_18, pk_mul, nI_add]; exact congrArg nI (by omega))
  subst ey_1
  refine lv_istore_n (lv' := [(2, .int (nI (18 * ix))), (0, .ref mo), (1, .int (nI ix))]) hx hb d_Mo_areaOf_4 rfl hl (by decide) rfl (fun ls hl => ?_)
  refine lv_aload_n hx hb d_Mo_areaOf_5 rfl (lv_at hl 1 rfl) ?_
  refine va_get (D := (dC, dI)) (ci := 3) (v := .ref mp) (C := R_Mo) (T := F_Mo) (N := 12) hx hb hts (fun w h => mw (i_Mo w h)) hown hK hP 0 rfl rfl 9 (by decide) (hts _ (mw wd_246)) (fun _ h9 => h9) rfl d_Mo_areaOf_6 ?_
  refine lv_iload_n hx hb d_Mo_areaOf_9 rfl (lv_at hl 0 rfl) ?_
  refine lv_bipush (v := 6) hx hb d_Mo_areaOf_10 (by decide) ?_
  refine lv_iadd hx hb d_Mo_areaOf_12 ?_
  refine lv_topi (fun y_2 ey_2 => ?_)
  have ey_2 : y_2 = nI (18 * ix + 6) := by rw [ey_2]; first | rfl | (simp only [nk_set_0, nk_set_1, nk_set_2, nk_set_3, nk_set_4, nk_set_5, nk_set_6, nk_set_7, nk_set_12, nk_set_13, nk_set_18, pk_mul, nI_add]; done) | (simp only [nk_set_0, nk_set_1, nk_set_2, nk_set_3, nk_set_4, nk_set_5, nk_set_6, nk_set_7, nk_set_12, nk_set_13, nk_set_18, pk_mul, nI_add]; exact congrArg nI (by omega))
  subst ey_2
  have hq_3 : nI (18 * ix + 6) = nI (18 * ix + 6) := by first | rfl | (simp only [nk_set_0, nk_set_1, nk_set_2, nk_set_3, nk_set_4, nk_set_5, nk_set_6, nk_set_7, nk_set_12, nk_set_13, nk_set_18, pk_mul, nI_add]; done) | (simp only [nk_set_0, nk_set_1, nk_set_2, nk_set_3, nk_set_4, nk_set_5, nk_set_6, nk_set_7, nk_set_12, nk_set_13, nk_set_18, pk_mul, nI_add]; exact congrArg nI (by omega))
  have hi_4 : vp_in (nI (18 * ix + 6)) 324 := by rw [hq_3]; exact vp_in_nI (by omega) (by decide)
  refine va_lald hx hb hK hP 4 0 rfl rfl hi_4 d_Mo_areaOf_13 ?_
  refine lv_topl (fun y_5 ey_5 => ?_)
  rw [hq_3, nI_clamp (by omega)] at ey_5
  refine lv_aload_n hx hb d_Mo_areaOf_14 rfl (lv_at hl 1 rfl) ?_
  refine va_get (D := (dC, dI)) (ci := 3) (v := .ref mp) (C := R_Mo) (T := F_Mo) (N := 12) hx hb hts (fun w h => mw (i_Mo w h)) hown hK hP 0 rfl rfl 9 (by decide) (hts _ (mw wd_246)) (fun _ h9 => h9) rfl d_Mo_areaOf_15 ?_
  refine lv_iload_n hx hb d_Mo_areaOf_18 rfl (lv_at hl 0 rfl) ?_
  have hq_6 : nI (18 * ix) = nI (18 * ix) := by first | rfl | (simp only [nk_set_0, nk_set_1, nk_set_2, nk_set_3, nk_set_4, nk_set_5, nk_set_6, nk_set_7, nk_set_12, nk_set_13, nk_set_18, pk_mul, nI_add]; done) | (simp only [nk_set_0, nk_set_1, nk_set_2, nk_set_3, nk_set_4, nk_set_5, nk_set_6, nk_set_7, nk_set_12, nk_set_13, nk_set_18, pk_mul, nI_add]; exact congrArg nI (by omega))
  have hi_7 : vp_in (nI (18 * ix)) 324 := by rw [hq_6]; exact vp_in_nI (by omega) (by decide)
  refine va_lald hx hb hK hP 4 0 rfl rfl hi_7 d_Mo_areaOf_19 ?_
  refine lv_topl (fun y_8 ey_8 => ?_)
  rw [hq_6, nI_clamp (by omega)] at ey_8
  refine lv_lsub hx hb d_Mo_areaOf_20 ?_
  refine lv_aload_n hx hb d_Mo_areaOf_21 rfl (lv_at hl 1 rfl) ?_
  refine va_get (D := (dC, dI)) (ci := 3) (v := .ref mp) (C := R_Mo) (T := F_Mo) (N := 12) hx hb hts (fun w h => mw (i_Mo w h)) hown hK hP 0 rfl rfl 9 (by decide) (hts _ (mw wd_246)) (fun _ h9 => h9) rfl d_Mo_areaOf_22 ?_
  refine lv_iload_n hx hb d_Mo_areaOf_25 rfl (lv_at hl 0 rfl) ?_
  refine lv_bipush (v := 13) hx hb d_Mo_areaOf_26 (by decide) ?_
  refine lv_iadd hx hb d_Mo_areaOf_28 ?_
  refine lv_topi (fun y_9 ey_9 => ?_)
  have ey_9 : y_9 = nI (18 * ix + 13) := by rw [ey_9]; first | rfl | (simp only [nk_set_0, nk_set_1, nk_set_2, nk_set_3, nk_set_4, nk_set_5, nk_set_6, nk_set_7, nk_set_12, nk_set_13, nk_set_18, pk_mul, nI_add]; done) | (simp only [nk_set_0, nk_set_1, nk_set_2, nk_set_3, nk_set_4, nk_set_5, nk_set_6, nk_set_7, nk_set_12, nk_set_13, nk_set_18, pk_mul, nI_add]; exact congrArg nI (by omega))
  subst ey_9
  have hq_10 : nI (18 * ix + 13) = nI (18 * ix + 13) := by first | rfl | (simp only [nk_set_0, nk_set_1, nk_set_2, nk_set_3, nk_set_4, nk_set_5, nk_set_6, nk_set_7, nk_set_12, nk_set_13, nk_set_18, pk_mul, nI_add]; done) | (simp only [nk_set_0, nk_set_1, nk_set_2, nk_set_3, nk_set_4, nk_set_5, nk_set_6, nk_set_7, nk_set_12, nk_set_13, nk_set_18, pk_mul, nI_add]; exact congrArg nI (by omega))
  have hi_11 : vp_in (nI (18 * ix + 13)) 324 := by rw [hq_10]; exact vp_in_nI (by omega) (by decide)
  refine va_lald hx hb hK hP 4 0 rfl rfl hi_11 d_Mo_areaOf_29 ?_
  refine lv_topl (fun y_12 ey_12 => ?_)
  rw [hq_10, nI_clamp (by omega)] at ey_12
  refine lv_aload_n hx hb d_Mo_areaOf_30 rfl (lv_at hl 1 rfl) ?_
  refine va_get (D := (dC, dI)) (ci := 3) (v := .ref mp) (C := R_Mo) (T := F_Mo) (N := 12) hx hb hts (fun w h => mw (i_Mo w h)) hown hK hP 0 rfl rfl 9 (by decide) (hts _ (mw wd_246)) (fun _ h9 => h9) rfl d_Mo_areaOf_31 ?_
  refine lv_iload_n hx hb d_Mo_areaOf_34 rfl (lv_at hl 0 rfl) ?_
  refine lv_iconst (v := 1) hx hb d_Mo_areaOf_35 (by decide) ?_
  refine lv_iadd hx hb d_Mo_areaOf_36 ?_
  refine lv_topi (fun y_13 ey_13 => ?_)
  have ey_13 : y_13 = nI (18 * ix + 1) := by rw [ey_13]; first | rfl | (simp only [nk_set_0, nk_set_1, nk_set_2, nk_set_3, nk_set_4, nk_set_5, nk_set_6, nk_set_7, nk_set_12, nk_set_13, nk_set_18, pk_mul, nI_add]; done) | (simp only [nk_set_0, nk_set_1, nk_set_2, nk_set_3, nk_set_4, nk_set_5, nk_set_6, nk_set_7, nk_set_12, nk_set_13, nk_set_18, pk_mul, nI_add]; exact congrArg nI (by omega))
  subst ey_13
  have hq_14 : nI (18 * ix + 1) = nI (18 * ix + 1) := by first | rfl | (simp only [nk_set_0, nk_set_1, nk_set_2, nk_set_3, nk_set_4, nk_set_5, nk_set_6, nk_set_7, nk_set_12, nk_set_13, nk_set_18, pk_mul, nI_add]; done) | (simp only [nk_set_0, nk_set_1, nk_set_2, nk_set_3, nk_set_4, nk_set_5, nk_set_6, nk_set_7, nk_set_12, nk_set_13, nk_set_18, pk_mul, nI_add]; exact congrArg nI (by omega))
  have hi_15 : vp_in (nI (18 * ix + 1)) 324 := by rw [hq_14]; exact vp_in_nI (by omega) (by decide)
  refine va_lald hx hb hK hP 4 0 rfl rfl hi_15 d_Mo_areaOf_37 ?_
  refine lv_topl (fun y_16 ey_16 => ?_)
  rw [hq_14, nI_clamp (by omega)] at ey_16
  refine lv_lsub hx hb d_Mo_areaOf_38 ?_
  refine lv_lmul hx hb d_Mo_areaOf_39 ?_
  refine lv_aload_n hx hb d_Mo_areaOf_40 rfl (lv_at hl 1 rfl) ?_
  refine va_get (D := (dC, dI)) (ci := 3) (v := .ref mp) (C := R_Mo) (T := F_Mo) (N := 12) hx hb hts (fun w h => mw (i_Mo w h)) hown hK hP 0 rfl rfl 9 (by decide) (hts _ (mw wd_246)) (fun _ h9 => h9) rfl d_Mo_areaOf_41 ?_
  refine lv_iload_n hx hb d_Mo_areaOf_44 rfl (lv_at hl 0 rfl) ?_
  refine lv_bipush (v := 12) hx hb d_Mo_areaOf_45 (by decide) ?_
  refine lv_iadd hx hb d_Mo_areaOf_47 ?_
  refine lv_topi (fun y_17 ey_17 => ?_)
  have ey_17 : y_17 = nI (18 * ix + 12) := by rw [ey_17]; first | rfl | (simp only [nk_set_0, nk_set_1, nk_set_2, nk_set_3, nk_set_4, nk_set_5, nk_set_6, nk_set_7, nk_set_12, nk_set_13, nk_set_18, pk_mul, nI_add]; done) | (simp only [nk_set_0, nk_set_1, nk_set_2, nk_set_3, nk_set_4, nk_set_5, nk_set_6, nk_set_7, nk_set_12, nk_set_13, nk_set_18, pk_mul, nI_add]; exact congrArg nI (by omega))
  subst ey_17
  have hq_18 : nI (18 * ix + 12) = nI (18 * ix + 12) := by first | rfl | (simp only [nk_set_0, nk_set_1, nk_set_2, nk_set_3, nk_set_4, nk_set_5, nk_set_6, nk_set_7, nk_set_12, nk_set_13, nk_set_18, pk_mul, nI_add]; done) | (simp only [nk_set_0, nk_set_1, nk_set_2, nk_set_3, nk_set_4, nk_set_5, nk_set_6, nk_set_7, nk_set_12, nk_set_13, nk_set_18, pk_mul, nI_add]; exact congrArg nI (by omega))
  have hi_19 : vp_in (nI (18 * ix + 12)) 324 := by rw [hq_18]; exact vp_in_nI (by omega) (by decide)
  refine va_lald hx hb hK hP 4 0 rfl rfl hi_19 d_Mo_areaOf_48 ?_
  refine lv_topl (fun y_20 ey_20 => ?_)
  rw [hq_18, nI_clamp (by omega)] at ey_20
  refine lv_aload_n hx hb d_Mo_areaOf_49 rfl (lv_at hl 1 rfl) ?_
  refine va_get (D := (dC, dI)) (ci := 3) (v := .ref mp) (C := R_Mo) (T := F_Mo) (N := 12) hx hb hts (fun w h => mw (i_Mo w h)) hown hK hP 0 rfl rfl 9 (by decide) (hts _ (mw wd_246)) (fun _ h9 => h9) rfl d_Mo_areaOf_50 ?_
  refine lv_iload_n hx hb d_Mo_areaOf_53 rfl (lv_at hl 0 rfl) ?_
  have hq_21 : nI (18 * ix) = nI (18 * ix) := by first | rfl | (simp only [nk_set_0, nk_set_1, nk_set_2, nk_set_3, nk_set_4, nk_set_5, nk_set_6, nk_set_7, nk_set_12, nk_set_13, nk_set_18, pk_mul, nI_add]; done) | (simp only [nk_set_0, nk_set_1, nk_set_2, nk_set_3, nk_set_4, nk_set_5, nk_set_6, nk_set_7, nk_set_12, nk_set_13, nk_set_18, pk_mul, nI_add]; exact congrArg nI (by omega))
  have hi_22 : vp_in (nI (18 * ix)) 324 := by rw [hq_21]; exact vp_in_nI (by omega) (by decide)
  refine va_lald hx hb hK hP 4 0 rfl rfl hi_22 d_Mo_areaOf_54 ?_
  refine lv_topl (fun y_23 ey_23 => ?_)
  rw [hq_21, nI_clamp (by omega)] at ey_23
  refine lv_lsub hx hb d_Mo_areaOf_55 ?_
  refine lv_aload_n hx hb d_Mo_areaOf_56 rfl (lv_at hl 1 rfl) ?_
  refine va_get (D := (dC, dI)) (ci := 3) (v := .ref mp) (C := R_Mo) (T := F_Mo) (N := 12) hx hb hts (fun w h => mw (i_Mo w h)) hown hK hP 0 rfl rfl 9 (by decide) (hts _ (mw wd_246)) (fun _ h9 => h9) rfl d_Mo_areaOf_57 ?_
  refine lv_iload_n hx hb d_Mo_areaOf_60 rfl (lv_at hl 0 rfl) ?_
  refine lv_bipush (v := 7) hx hb d_Mo_areaOf_61 (by decide) ?_
  refine lv_iadd hx hb d_Mo_areaOf_63 ?_
  refine lv_topi (fun y_24 ey_24 => ?_)
  have ey_24 : y_24 = nI (18 * ix + 7) := by rw [ey_24]; first | rfl | (simp only [nk_set_0, nk_set_1, nk_set_2, nk_set_3, nk_set_4, nk_set_5, nk_set_6, nk_set_7, nk_set_12, nk_set_13, nk_set_18, pk_mul, nI_add]; done) | (simp only [nk_set_0, nk_set_1, nk_set_2, nk_set_3, nk_set_4, nk_set_5, nk_set_6, nk_set_7, nk_set_12, nk_set_13, nk_set_18, pk_mul, nI_add]; exact congrArg nI (by omega))
  subst ey_24
  have hq_25 : nI (18 * ix + 7) = nI (18 * ix + 7) := by first | rfl | (simp only [nk_set_0, nk_set_1, nk_set_2, nk_set_3, nk_set_4, nk_set_5, nk_set_6, nk_set_7, nk_set_12, nk_set_13, nk_set_18, pk_mul, nI_add]; done) | (simp only [nk_set_0, nk_set_1, nk_set_2, nk_set_3, nk_set_4, nk_set_5, nk_set_6, nk_set_7, nk_set_12, nk_set_13, nk_set_18, pk_mul, nI_add]; exact congrArg nI (by omega))
  have hi_26 : vp_in (nI (18 * ix + 7)) 324 := by rw [hq_25]; exact vp_in_nI (by omega) (by decide)
  refine va_lald hx hb hK hP 4 0 rfl rfl hi_26 d_Mo_areaOf_64 ?_
  refine lv_topl (fun y_27 ey_27 => ?_)
  rw [hq_25, nI_clamp (by omega)] at ey_27
  refine lv_aload_n hx hb d_Mo_areaOf_65 rfl (lv_at hl 1 rfl) ?_
  refine va_get (D := (dC, dI)) (ci := 3) (v := .ref mp) (C := R_Mo) (T := F_Mo) (N := 12) hx hb hts (fun w h => mw (i_Mo w h)) hown hK hP 0 rfl rfl 9 (by decide) (hts _ (mw wd_246)) (fun _ h9 => h9) rfl d_Mo_areaOf_66 ?_
  refine lv_iload_n hx hb d_Mo_areaOf_69 rfl (lv_at hl 0 rfl) ?_
  refine lv_iconst (v := 1) hx hb d_Mo_areaOf_70 (by decide) ?_
  refine lv_iadd hx hb d_Mo_areaOf_71 ?_
  refine lv_topi (fun y_28 ey_28 => ?_)
  have ey_28 : y_28 = nI (18 * ix + 1) := by rw [ey_28]; first | rfl | (simp only [nk_set_0, nk_set_1, nk_set_2, nk_set_3, nk_set_4, nk_set_5, nk_set_6, nk_set_7, nk_set_12, nk_set_13, nk_set_18, pk_mul, nI_add]; done) | (simp only [nk_set_0, nk_set_1, nk_set_2, nk_set_3, nk_set_4, nk_set_5, nk_set_6, nk_set_7, nk_set_12, nk_set_13, nk_set_18, pk_mul, nI_add]; exact congrArg nI (by omega))
  subst ey_28
  have hq_29 : nI (18 * ix + 1) = nI (18 * ix + 1) := by first | rfl | (simp only [nk_set_0, nk_set_1, nk_set_2, nk_set_3, nk_set_4, nk_set_5, nk_set_6, nk_set_7, nk_set_12, nk_set_13, nk_set_18, pk_mul, nI_add]; done) | (simp only [nk_set_0, nk_set_1, nk_set_2, nk_set_3, nk_set_4, nk_set_5, nk_set_6, nk_set_7, nk_set_12, nk_set_13, nk_set_18, pk_mul, nI_add]; exact congrArg nI (by omega))
  have hi_30 : vp_in (nI (18 * ix + 1)) 324 := by rw [hq_29]; exact vp_in_nI (by omega) (by decide)
  refine va_lald hx hb hK hP 4 0 rfl rfl hi_30 d_Mo_areaOf_72 ?_
  refine lv_topl (fun y_31 ey_31 => ?_)
  rw [hq_29, nI_clamp (by omega)] at ey_31
  refine lv_lsub hx hb d_Mo_areaOf_73 ?_
  refine lv_lmul hx hb d_Mo_areaOf_74 ?_
  refine lv_lsub hx hb d_Mo_areaOf_75 ?_
  subst ey_5
  subst ey_8
  subst ey_12
  subst ey_16
  subst ey_20
  subst ey_23
  subst ey_27
  subst ey_31
  exact W.lret (v := (((mpf (18 * ix + 6)) - (mpf (18 * ix))) * ((mpf (18 * ix + 13)) - (mpf (18 * ix + 1)))) - (((mpf (18 * ix + 12)) - (mpf (18 * ix))) * ((mpf (18 * ix + 7)) - (mpf (18 * ix + 1))))) hx hb hr (fun t ht hW => ⟨_, rfl, rfl, ht⟩) (fun q h => by cases h) d_Mo_areaOf_76
def f_Mo_edge (mpf : Nat → Int64) (ix : Nat) (aa : Nat) (bb : Nat) (xx : Int32) (yy : Int32) : Int64 := (((mpf (18 * ix + (6 * bb))) - (mpf (18 * ix + (6 * aa)))) * (((16 * yy.toInt64) + 8) - (mpf (18 * ix + (6 * aa) + 1)))) - (((mpf (18 * ix + (6 * bb) + 1)) - (mpf (18 * ix + (6 * aa) + 1))) * (((16 * xx.toInt64) + 8) - (mpf (18 * ix + (6 * aa)))))
set_option maxHeartbeats 4000000 in
set_option maxRecDepth 100000 in
theorem c_Mo_edge (l : Launch) (dC : Nat → ClassId) (dI : Nat → Nat → Nat) (cJ cI : ClassId) (mo : Nat) (wi : Int32) (hi : Int32) (fo : Int32) (mt : Nat) (mr : Nat) (ma : Int32) (mx : Nat) (mn : Int32) (mp : Nat) (mq : Nat) (ct : Nat) (mtf : Nat → Int64) (mrf : Nat → Int64) (mxf : Nat → Int64) (mpf : Nat → Int64) (mqf : Nat → Int64) (ix : Nat) (aa : Nat) (bb : Nat) (xx : Int32) (yy : Int32) (hx9 : ix < 18) (ha9 : aa < 3) (hb9 : bb < 3) : Met l y_Mo_edge w_Mo_edge ({ frames := 0, cells := 0, slots := 0, locals := 0 } : Room) (rq_ro (dC, dI) cJ cI [.ref mo, .int (nI ix), .int (nI aa), .int (nI bb), .int xx, .int yy] [(mo, .inr (3, [.int 0, .int wi, .int hi, .int fo, .ref mt, .ref mr, .int ma, .ref mx, .int mn, .ref mp, .ref mq, .int (nI ct)])), (mt, .inl (cJ, 18, .inr (.inl mtf))), (mr, .inl (cJ, 120, .inr (.inl mrf))), (mx, .inl (cJ, 120, .inr (.inl mxf))), (mp, .inl (cJ, 324, .inr (.inl mpf))), (mq, .inl (cJ, 18, .inr (.inl mqf)))]) (vp_Sl (fun r => r = f_Mo_edge mpf ix aa bb xx yy)) 0 0 (fun _ => False) := by
  refine Met.ofW (cc := b_Mo_edge) (maxL := 8) (ret := (some .long)) (by decide) rfl ?_
  intro p e s m args below meth c s₁ B hml hv
  obtain ⟨rfl, hP, hK, hN⟩ := hv
  have hx := B.exec
  have hb := B.bytes
  have hr := B.returns
  have hts := atoms_spec (ws := w_Mo_edge) B.pre
  have hown : s.vm.findClass R_Mo = some m.cls := findClass_of_methodNamed B.named
  have hlocks := B.notSynchronized
  have hl := lv_entry ([.ref mo, .int (nI ix), .int (nI aa), .int (nI bb), .int xx, .int yy]) (n := 8) (Nat.le_of_ble_eq_true rfl)
  rw [lg_entry_eq]
  generalize (lg_sl ([.ref mo, .int (nI ix), .int (nI aa), .int (nI bb), .int xx, .int yy]) ++ List.replicate (8 - (lg_sl ([.ref mo, .int (nI ix), .int (nI aa), .int (nI bb), .int xx, .int yy])).length) Slot.unset).toArray = ls at hl ⊢
  have hl : lv_has ls 8 [(0, .ref mo), (1, .int (nI ix)), (2, .int (nI aa)), (3, .int (nI bb)), (4, .int xx), (5, .int yy)] := hl
  refine lv_bipush (v := 18) hx hb d_Mo_edge_0 (by decide) ?_
  refine lv_iload_n hx hb d_Mo_edge_2 rfl (lv_at hl 1 rfl) ?_
  refine lv_imul hx hb d_Mo_edge_3 ?_
  refine lv_topi (fun y_1 ey_1 => ?_)
  have ey_1 : y_1 = nI (18 * ix) := by rw [ey_1]; first | rfl | (simp only [nk_set_0, nk_set_1, nk_set_2, nk_set_3, nk_set_4, nk_set_5, nk_set_6, nk_set_7, nk_set_12, nk_set_13, nk_set_18, pk_mul, nI_add]; done) | (simp only [nk_set_0, nk_set_1, nk_set_2, nk_set_3, nk_set_4, nk_set_5, nk_set_6, nk_set_7, nk_set_12, nk_set_13, nk_set_18, pk_mul, nI_add]; exact congrArg nI (by omega))
  subst ey_1
  refine lv_bipush (v := 6) hx hb d_Mo_edge_4 (by decide) ?_
  refine lv_iload_n hx hb d_Mo_edge_6 rfl (lv_at hl 2 rfl) ?_
  refine lv_imul hx hb d_Mo_edge_7 ?_
  refine lv_topi (fun y_2 ey_2 => ?_)
  have ey_2 : y_2 = nI (6 * aa) := by rw [ey_2]; first | rfl | (simp only [nk_set_0, nk_set_1, nk_set_2, nk_set_3, nk_set_4, nk_set_5, nk_set_6, nk_set_7, nk_set_12, nk_set_13, nk_set_18, pk_mul, nI_add]; done) | (simp only [nk_set_0, nk_set_1, nk_set_2, nk_set_3, nk_set_4, nk_set_5, nk_set_6, nk_set_7, nk_set_12, nk_set_13, nk_set_18, pk_mul, nI_add]; exact congrArg nI (by omega))
  subst ey_2
  refine lv_iadd hx hb d_Mo_edge_8 ?_
  refine lv_topi (fun y_3 ey_3 => ?_)
  have ey_3 : y_3 = nI (18 * ix + (6 * aa)) := by rw [ey_3]; first | rfl | (simp only [nk_set_0, nk_set_1, nk_set_2, nk_set_3, nk_set_4, nk_set_5, nk_set_6, nk_set_7, nk_set_12, nk_set_13, nk_set_18, pk_mul, nI_add]; done) | (simp only [nk_set_0, nk_set_1, nk_set_2, nk_set_3, nk_set_4, nk_set_5, nk_set_6, nk_set_7, nk_set_12, nk_set_13, nk_set_18, pk_mul, nI_add]; exact congrArg nI (by omega))
  subst ey_3
  refine lv_istore (lv' := [(6, .int (nI (18 * ix + (6 * aa)))), (0, .ref mo), (1, .int (nI ix)), (2, .int (nI aa)), (3, .int (nI bb)), (4, .int xx), (5, .int yy)]) hx hb d_Mo_edge_9 hl (by decide) rfl (fun ls hl => ?_)
  refine lv_bipush (v := 18) hx hb d_Mo_edge_11 (by decide) ?_
  refine lv_iload_n hx hb d_Mo_edge_13 rfl (lv_at hl 2 rfl) ?_
  refine lv_imul hx hb d_Mo_edge_14 ?_
  refine lv_topi (fun y_4 ey_4 => ?_)
  have ey_4 : y_4 = nI (18 * ix) := by rw [ey_4]; first | rfl | (simp only [nk_set_0, nk_set_1, nk_set_2, nk_set_3, nk_set_4, nk_set_5, nk_set_6, nk_set_7, nk_set_12, nk_set_13, nk_set_18, pk_mul, nI_add]; done) | (simp only [nk_set_0, nk_set_1, nk_set_2, nk_set_3, nk_set_4, nk_set_5, nk_set_6, nk_set_7, nk_set_12, nk_set_13, nk_set_18, pk_mul, nI_add]; exact congrArg nI (by omega))
  subst ey_4
  refine lv_bipush (v := 6) hx hb d_Mo_edge_15 (by decide) ?_
  refine lv_iload_n hx hb d_Mo_edge_17 rfl (lv_at hl 4 rfl) ?_
  refine lv_imul hx hb d_Mo_edge_18 ?_
  refine lv_topi (fun y_5 ey_5 => ?_)
  have ey_5 : y_5 = nI (6 * bb) := by rw [ey_5]; first | rfl | (simp only [nk_set_0, nk_set_1, nk_set_2, nk_set_3, nk_set_4, nk_set_5, nk_set_6, nk_set_7, nk_set_12, nk_set_13, nk_set_18, pk_mul, nI_add]; done) | (simp only [nk_set_0, nk_set_1, nk_set_2, nk_set_3, nk_set_4, nk_set_5, nk_set_6, nk_set_7, nk_set_12, nk_set_13, nk_set_18, pk_mul, nI_add]; exact congrArg nI (by omega))
  subst ey_5
  refine lv_iadd hx hb d_Mo_edge_19 ?_
  refine lv_topi (fun y_6 ey_6 => ?_)
  have ey_6 : y_6 = nI (18 * ix + (6 * bb)) := by rw [ey_6]; first | rfl | (simp only [nk_set_0, nk_set_1, nk_set_2, nk_set_3, nk_set_4, nk_set_5, nk_set_6, nk_set_7, nk_set_12, nk_set_13, nk_set_18, pk_mul, nI_add]; done) | (simp only [nk_set_0, nk_set_1, nk_set_2, nk_set_3, nk_set_4, nk_set_5, nk_set_6, nk_set_7, nk_set_12, nk_set_13, nk_set_18, pk_mul, nI_add]; exact congrArg nI (by omega))
  subst ey_6
  refine lv_istore (lv' := [(7, .int (nI (18 * ix + (6 * bb)))), (6, .int (nI (18 * ix + (6 * aa)))), (0, .ref mo), (1, .int (nI ix)), (2, .int (nI aa)), (3, .int (nI bb)), (4, .int xx), (5, .int yy)]) hx hb d_Mo_edge_20 hl (by decide) rfl (fun ls hl => ?_)
  refine lv_aload_n hx hb d_Mo_edge_22 rfl (lv_at hl 2 rfl) ?_
  refine va_get (D := (dC, dI)) (ci := 3) (v := .ref mp) (C := R_Mo) (T := F_Mo) (N := 12) hx hb hts (fun w h => mw (i_Mo w h)) hown hK hP 0 rfl rfl 9 (by decide) (hts _ (mw wd_246)) (fun _ h9 => h9) rfl d_Mo_edge_23 ?_
  refine lv_iload hx hb d_Mo_edge_26 (lv_at hl 0 rfl) ?_
  have hq_7 : nI (18 * ix + (6 * bb)) = nI (18 * ix + (6 * bb)) := by first | rfl | (simp only [nk_set_0, nk_set_1, nk_set_2, nk_set_3, nk_set_4, nk_set_5, nk_set_6, nk_set_7, nk_set_12, nk_set_13, nk_set_18, pk_mul, nI_add]; done) | (simp only [nk_set_0, nk_set_1, nk_set_2, nk_set_3, nk_set_4, nk_set_5, nk_set_6, nk_set_7, nk_set_12, nk_set_13, nk_set_18, pk_mul, nI_add]; exact congrArg nI (by omega))
  have hi_8 : vp_in (nI (18 * ix + (6 * bb))) 324 := by rw [hq_7]; exact vp_in_nI (by omega) (by decide)
  refine va_lald hx hb hK hP 4 0 rfl rfl hi_8 d_Mo_edge_28 ?_
  refine lv_topl (fun y_9 ey_9 => ?_)
  rw [hq_7, nI_clamp (by omega)] at ey_9
  refine lv_aload_n hx hb d_Mo_edge_29 rfl (lv_at hl 2 rfl) ?_
  refine va_get (D := (dC, dI)) (ci := 3) (v := .ref mp) (C := R_Mo) (T := F_Mo) (N := 12) hx hb hts (fun w h => mw (i_Mo w h)) hown hK hP 0 rfl rfl 9 (by decide) (hts _ (mw wd_246)) (fun _ h9 => h9) rfl d_Mo_edge_30 ?_
  refine lv_iload hx hb d_Mo_edge_33 (lv_at hl 1 rfl) ?_
  have hq_10 : nI (18 * ix + (6 * aa)) = nI (18 * ix + (6 * aa)) := by first | rfl | (simp only [nk_set_0, nk_set_1, nk_set_2, nk_set_3, nk_set_4, nk_set_5, nk_set_6, nk_set_7, nk_set_12, nk_set_13, nk_set_18, pk_mul, nI_add]; done) | (simp only [nk_set_0, nk_set_1, nk_set_2, nk_set_3, nk_set_4, nk_set_5, nk_set_6, nk_set_7, nk_set_12, nk_set_13, nk_set_18, pk_mul, nI_add]; exact congrArg nI (by omega))
  have hi_11 : vp_in (nI (18 * ix + (6 * aa))) 324 := by rw [hq_10]; exact vp_in_nI (by omega) (by decide)
  refine va_lald hx hb hK hP 4 0 rfl rfl hi_11 d_Mo_edge_35 ?_
  refine lv_topl (fun y_12 ey_12 => ?_)
  rw [hq_10, nI_clamp (by omega)] at ey_12
  refine lv_lsub hx hb d_Mo_edge_36 ?_
  refine lv_ldc2 hx hb hown (hts _ (mw wd_304)) d_Mo_edge_37 ?_
  refine lv_iload hx hb d_Mo_edge_40 (lv_at hl 7 rfl) ?_
  refine lv_i2l hx hb d_Mo_edge_42 rfl ?_
  refine lv_lmul hx hb d_Mo_edge_43 ?_
  refine lv_ldc2 hx hb hown (hts _ (mw wd_305)) d_Mo_edge_44 ?_
  refine lv_ladd hx hb d_Mo_edge_47 ?_
  refine lv_aload_n hx hb d_Mo_edge_48 rfl (lv_at hl 2 rfl) ?_
  refine va_get (D := (dC, dI)) (ci := 3) (v := .ref mp) (C := R_Mo) (T := F_Mo) (N := 12) hx hb hts (fun w h => mw (i_Mo w h)) hown hK hP 0 rfl rfl 9 (by decide) (hts _ (mw wd_246)) (fun _ h9 => h9) rfl d_Mo_edge_49 ?_
  refine lv_iload hx hb d_Mo_edge_52 (lv_at hl 1 rfl) ?_
  refine lv_iconst (v := 1) hx hb d_Mo_edge_54 (by decide) ?_
  refine lv_iadd hx hb d_Mo_edge_55 ?_
  refine lv_topi (fun y_13 ey_13 => ?_)
  have ey_13 : y_13 = nI (18 * ix + (6 * aa) + 1) := by rw [ey_13]; first | rfl | (simp only [nk_set_0, nk_set_1, nk_set_2, nk_set_3, nk_set_4, nk_set_5, nk_set_6, nk_set_7, nk_set_12, nk_set_13, nk_set_18, pk_mul, nI_add]; done) | (simp only [nk_set_0, nk_set_1, nk_set_2, nk_set_3, nk_set_4, nk_set_5, nk_set_6, nk_set_7, nk_set_12, nk_set_13, nk_set_18, pk_mul, nI_add]; exact congrArg nI (by omega))
  subst ey_13
  have hq_14 : nI (18 * ix + (6 * aa) + 1) = nI (18 * ix + (6 * aa) + 1) := by first | rfl | (simp only [nk_set_0, nk_set_1, nk_set_2, nk_set_3, nk_set_4, nk_set_5, nk_set_6, nk_set_7, nk_set_12, nk_set_13, nk_set_18, pk_mul, nI_add]; done) | (simp only [nk_set_0, nk_set_1, nk_set_2, nk_set_3, nk_set_4, nk_set_5, nk_set_6, nk_set_7, nk_set_12, nk_set_13, nk_set_18, pk_mul, nI_add]; exact congrArg nI (by omega))
  have hi_15 : vp_in (nI (18 * ix + (6 * aa) + 1)) 324 := by rw [hq_14]; exact vp_in_nI (by omega) (by decide)
  refine va_lald hx hb hK hP 4 0 rfl rfl hi_15 d_Mo_edge_56 ?_
  refine lv_topl (fun y_16 ey_16 => ?_)
  rw [hq_14, nI_clamp (by omega)] at ey_16
  refine lv_lsub hx hb d_Mo_edge_57 ?_
  refine lv_lmul hx hb d_Mo_edge_58 ?_
  refine lv_aload_n hx hb d_Mo_edge_59 rfl (lv_at hl 2 rfl) ?_
  refine va_get (D := (dC, dI)) (ci := 3) (v := .ref mp) (C := R_Mo) (T := F_Mo) (N := 12) hx hb hts (fun w h => mw (i_Mo w h)) hown hK hP 0 rfl rfl 9 (by decide) (hts _ (mw wd_246)) (fun _ h9 => h9) rfl d_Mo_edge_60 ?_
  refine lv_iload hx hb d_Mo_edge_63 (lv_at hl 0 rfl) ?_
  refine lv_iconst (v := 1) hx hb d_Mo_edge_65 (by decide) ?_
  refine lv_iadd hx hb d_Mo_edge_66 ?_
  refine lv_topi (fun y_17 ey_17 => ?_)
  have ey_17 : y_17 = nI (18 * ix + (6 * bb) + 1) := by rw [ey_17]; first | rfl | (simp only [nk_set_0, nk_set_1, nk_set_2, nk_set_3, nk_set_4, nk_set_5, nk_set_6, nk_set_7, nk_set_12, nk_set_13, nk_set_18, pk_mul, nI_add]; done) | (simp only [nk_set_0, nk_set_1, nk_set_2, nk_set_3, nk_set_4, nk_set_5, nk_set_6, nk_set_7, nk_set_12, nk_set_13, nk_set_18, pk_mul, nI_add]; exact congrArg nI (by omega))
  subst ey_17
  have hq_18 : nI (18 * ix + (6 * bb) + 1) = nI (18 * ix + (6 * bb) + 1) := by first | rfl | (simp only [nk_set_0, nk_set_1, nk_set_2, nk_set_3, nk_set_4, nk_set_5, nk_set_6, nk_set_7, nk_set_12, nk_set_13, nk_set_18, pk_mul, nI_add]; done) | (simp only [nk_set_0, nk_set_1, nk_set_2, nk_set_3, nk_set_4, nk_set_5, nk_set_6, nk_set_7, nk_set_12, nk_set_13, nk_set_18, pk_mul, nI_add]; exact congrArg nI (by omega))
  have hi_19 : vp_in (nI (18 * ix + (6 * bb) + 1)) 324 := by rw [hq_18]; exact vp_in_nI (by omega) (by decide)
  refine va_lald hx hb hK hP 4 0 rfl rfl hi_19 d_Mo_edge_67 ?_
  refine lv_topl (fun y_20 ey_20 => ?_)
  rw [hq_18, nI_clamp (by omega)] at ey_20
  refine lv_aload_n hx hb d_Mo_edge_68 rfl (lv_at hl 2 rfl) ?_
  refine va_get (D := (dC, dI)) (ci := 3) (v := .ref mp) (C := R_Mo) (T := F_Mo) (N := 12) hx hb hts (fun w h => mw (i_Mo w h)) hown hK hP 0 rfl rfl 9 (by decide) (hts _ (mw wd_246)) (fun _ h9 => h9) rfl d_Mo_edge_69 ?_
  refine lv_iload hx hb d_Mo_edge_72 (lv_at hl 1 rfl) ?_
  refine lv_iconst (v := 1) hx hb d_Mo_edge_74 (by decide) ?_
  refine lv_iadd hx hb d_Mo_edge_75 ?_
  refine lv_topi (fun y_21 ey_21 => ?_)
  have ey_21 : y_21 = nI (18 * ix + (6 * aa) + 1) := by rw [ey_21]; first | rfl | (simp only [nk_set_0, nk_set_1, nk_set_2, nk_set_3, nk_set_4, nk_set_5, nk_set_6, nk_set_7, nk_set_12, nk_set_13, nk_set_18, pk_mul, nI_add]; done) | (simp only [nk_set_0, nk_set_1, nk_set_2, nk_set_3, nk_set_4, nk_set_5, nk_set_6, nk_set_7, nk_set_12, nk_set_13, nk_set_18, pk_mul, nI_add]; exact congrArg nI (by omega))
  subst ey_21
  have hq_22 : nI (18 * ix + (6 * aa) + 1) = nI (18 * ix + (6 * aa) + 1) := by first | rfl | (simp only [nk_set_0, nk_set_1, nk_set_2, nk_set_3, nk_set_4, nk_set_5, nk_set_6, nk_set_7, nk_set_12, nk_set_13, nk_set_18, pk_mul, nI_add]; done) | (simp only [nk_set_0, nk_set_1, nk_set_2, nk_set_3, nk_set_4, nk_set_5, nk_set_6, nk_set_7, nk_set_12, nk_set_13, nk_set_18, pk_mul, nI_add]; exact congrArg nI (by omega))
  have hi_23 : vp_in (nI (18 * ix + (6 * aa) + 1)) 324 := by rw [hq_22]; exact vp_in_nI (by omega) (by decide)
  refine va_lald hx hb hK hP 4 0 rfl rfl hi_23 d_Mo_edge_76 ?_
  refine lv_topl (fun y_24 ey_24 => ?_)
  rw [hq_22, nI_clamp (by omega)] at ey_24
  refine lv_lsub hx hb d_Mo_edge_77 ?_
  refine lv_ldc2 hx hb hown (hts _ (mw wd_304)) d_Mo_edge_78 ?_
  refine lv_iload hx hb d_Mo_edge_81 (lv_at hl 6 rfl) ?_
  refine lv_i2l hx hb d_Mo_edge_83 rfl ?_
  refine lv_lmul hx hb d_Mo_edge_84 ?_
  refine lv_ldc2 hx hb hown (hts _ (mw wd_305)) d_Mo_edge_85 ?_
  refine lv_ladd hx hb d_Mo_edge_88 ?_
  refine lv_aload_n hx hb d_Mo_edge_89 rfl (lv_at hl 2 rfl) ?_
  refine va_get (D := (dC, dI)) (ci := 3) (v := .ref mp) (C := R_Mo) (T := F_Mo) (N := 12) hx hb hts (fun w h => mw (i_Mo w h)) hown hK hP 0 rfl rfl 9 (by decide) (hts _ (mw wd_246)) (fun _ h9 => h9) rfl d_Mo_edge_90 ?_
  refine lv_iload hx hb d_Mo_edge_93 (lv_at hl 1 rfl) ?_
  have hq_25 : nI (18 * ix + (6 * aa)) = nI (18 * ix + (6 * aa)) := by first | rfl | (simp only [nk_set_0, nk_set_1, nk_set_2, nk_set_3, nk_set_4, nk_set_5, nk_set_6, nk_set_7, nk_set_12, nk_set_13, nk_set_18, pk_mul, nI_add]; done) | (simp only [nk_set_0, nk_set_1, nk_set_2, nk_set_3, nk_set_4, nk_set_5, nk_set_6, nk_set_7, nk_set_12, nk_set_13, nk_set_18, pk_mul, nI_add]; exact congrArg nI (by omega))
  have hi_26 : vp_in (nI (18 * ix + (6 * aa))) 324 := by rw [hq_25]; exact vp_in_nI (by omega) (by decide)
  refine va_lald hx hb hK hP 4 0 rfl rfl hi_26 d_Mo_edge_95 ?_
  refine lv_topl (fun y_27 ey_27 => ?_)
  rw [hq_25, nI_clamp (by omega)] at ey_27
  refine lv_lsub hx hb d_Mo_edge_96 ?_
  refine lv_lmul hx hb d_Mo_edge_97 ?_
  refine lv_lsub hx hb d_Mo_edge_98 ?_
  subst ey_9
  subst ey_12
  subst ey_16
  subst ey_20
  subst ey_24
  subst ey_27
  exact W.lret (v := (((mpf (18 * ix + (6 * bb))) - (mpf (18 * ix + (6 * aa)))) * (((16 * yy.toInt64) + 8) - (mpf (18 * ix + (6 * aa) + 1)))) - (((mpf (18 * ix + (6 * bb) + 1)) - (mpf (18 * ix + (6 * aa) + 1))) * (((16 * xx.toInt64) + 8) - (mpf (18 * ix + (6 * aa)))))) hx hb hr (fun t ht hW => ⟨_, rfl, rfl, ht⟩) (fun q h => by cases h) d_Mo_edge_99
def f_Mo_owns (mpf : Nat → Int64) (ix : Nat) (aa : Nat) (bb : Nat) (xx : Int32) (yy : Int32) : Int32 := if 0 < (f_Mo_edge mpf ix aa bb xx yy) then 1 else (if (f_Mo_edge mpf ix aa bb xx yy) = 0 then (if (mpf (18 * ix + (6 * bb) + 1)) < (mpf (18 * ix + (6 * aa) + 1)) then 1 else (if (mpf (18 * ix + (6 * bb) + 1)) = (mpf (18 * ix + (6 * aa) + 1)) then (if (mpf (18 * ix + (6 * bb))) ≤ (mpf (18 * ix + (6 * aa))) then 0 else 1) else 0)) else 0)
set_option maxHeartbeats 4000000 in
set_option maxRecDepth 100000 in
theorem c_Mo_owns (l : Launch) (dC : Nat → ClassId) (dI : Nat → Nat → Nat) (cJ cI : ClassId) (mo : Nat) (wi : Int32) (hi : Int32) (fo : Int32) (mt : Nat) (mr : Nat) (ma : Int32) (mx : Nat) (mn : Int32) (mp : Nat) (mq : Nat) (ct : Nat) (mtf : Nat → Int64) (mrf : Nat → Int64) (mxf : Nat → Int64) (mpf : Nat → Int64) (mqf : Nat → Int64) (ix : Nat) (aa : Nat) (bb : Nat) (xx : Int32) (yy : Int32) (hx9 : ix < 18) (ha9 : aa < 3) (hb9 : bb < 3) : Met l y_Mo_owns w_Mo_owns ({ frames := 1, cells := 0, slots := 0, locals := 27 } : Room) (rq_ro (dC, dI) cJ cI [.ref mo, .int (nI ix), .int (nI aa), .int (nI bb), .int xx, .int yy] [(mo, .inr (3, [.int 0, .int wi, .int hi, .int fo, .ref mt, .ref mr, .int ma, .ref mx, .int mn, .ref mp, .ref mq, .int (nI ct)])), (mt, .inl (cJ, 18, .inr (.inl mtf))), (mr, .inl (cJ, 120, .inr (.inl mrf))), (mx, .inl (cJ, 120, .inr (.inl mxf))), (mp, .inl (cJ, 324, .inr (.inl mpf))), (mq, .inl (cJ, 18, .inr (.inl mqf)))]) (vp_Si (fun r => r = f_Mo_owns mpf ix aa bb xx yy)) 0 0 (fun _ => False) := by
  refine Met.ofW (cc := b_Mo_owns) (maxL := 10) (ret := (some .boolean)) (by decide) rfl ?_
  intro p e s m args below meth c s₁ B hml hv
  obtain ⟨rfl, hP, hK, hN⟩ := hv
  have hx := B.exec
  have hb := B.bytes
  have hr := B.returns
  have hts := atoms_spec (ws := w_Mo_owns) B.pre
  have hown : s.vm.findClass R_Mo = some m.cls := findClass_of_methodNamed B.named
  have hlocks := B.notSynchronized
  have hl := lv_entry ([.ref mo, .int (nI ix), .int (nI aa), .int (nI bb), .int xx, .int yy]) (n := 10) (Nat.le_of_ble_eq_true rfl)
  rw [lg_entry_eq]
  generalize (lg_sl ([.ref mo, .int (nI ix), .int (nI aa), .int (nI bb), .int xx, .int yy]) ++ List.replicate (10 - (lg_sl ([.ref mo, .int (nI ix), .int (nI aa), .int (nI bb), .int xx, .int yy])).length) Slot.unset).toArray = ls at hl ⊢
  have hl : lv_has ls 10 [(0, .ref mo), (1, .int (nI ix)), (2, .int (nI aa)), (3, .int (nI bb)), (4, .int xx), (5, .int yy)] := hl
  refine lv_bipush (v := 18) hx hb d_Mo_owns_0 (by decide) ?_
  refine lv_iload_n hx hb d_Mo_owns_2 rfl (lv_at hl 1 rfl) ?_
  refine lv_imul hx hb d_Mo_owns_3 ?_
  refine lv_topi (fun y_1 ey_1 => ?_)
  have ey_1 : y_1 = nI (18 * ix) := by rw [ey_1]; first | rfl | (simp only [nk_set_0, nk_set_1, nk_set_2, nk_set_3, nk_set_4, nk_set_5, nk_set_6, nk_set_7, nk_set_12, nk_set_13, nk_set_18, pk_mul, nI_add]; done) | (simp only [nk_set_0, nk_set_1, nk_set_2, nk_set_3, nk_set_4, nk_set_5, nk_set_6, nk_set_7, nk_set_12, nk_set_13, nk_set_18, pk_mul, nI_add]; exact congrArg nI (by omega))
  subst ey_1
  refine lv_bipush (v := 6) hx hb d_Mo_owns_4 (by decide) ?_
  refine lv_iload_n hx hb d_Mo_owns_6 rfl (lv_at hl 2 rfl) ?_
  refine lv_imul hx hb d_Mo_owns_7 ?_
  refine lv_topi (fun y_2 ey_2 => ?_)
  have ey_2 : y_2 = nI (6 * aa) := by rw [ey_2]; first | rfl | (simp only [nk_set_0, nk_set_1, nk_set_2, nk_set_3, nk_set_4, nk_set_5, nk_set_6, nk_set_7, nk_set_12, nk_set_13, nk_set_18, pk_mul, nI_add]; done) | (simp only [nk_set_0, nk_set_1, nk_set_2, nk_set_3, nk_set_4, nk_set_5, nk_set_6, nk_set_7, nk_set_12, nk_set_13, nk_set_18, pk_mul, nI_add]; exact congrArg nI (by omega))
  subst ey_2
  refine lv_iadd hx hb d_Mo_owns_8 ?_
  refine lv_topi (fun y_3 ey_3 => ?_)
  have ey_3 : y_3 = nI (18 * ix + (6 * aa)) := by rw [ey_3]; first | rfl | (simp only [nk_set_0, nk_set_1, nk_set_2, nk_set_3, nk_set_4, nk_set_5, nk_set_6, nk_set_7, nk_set_12, nk_set_13, nk_set_18, pk_mul, nI_add]; done) | (simp only [nk_set_0, nk_set_1, nk_set_2, nk_set_3, nk_set_4, nk_set_5, nk_set_6, nk_set_7, nk_set_12, nk_set_13, nk_set_18, pk_mul, nI_add]; exact congrArg nI (by omega))
  subst ey_3
  refine lv_istore (lv' := [(6, .int (nI (18 * ix + (6 * aa)))), (0, .ref mo), (1, .int (nI ix)), (2, .int (nI aa)), (3, .int (nI bb)), (4, .int xx), (5, .int yy)]) hx hb d_Mo_owns_9 hl (by decide) rfl (fun ls hl => ?_)
  refine lv_bipush (v := 18) hx hb d_Mo_owns_11 (by decide) ?_
  refine lv_iload_n hx hb d_Mo_owns_13 rfl (lv_at hl 2 rfl) ?_
  refine lv_imul hx hb d_Mo_owns_14 ?_
  refine lv_topi (fun y_4 ey_4 => ?_)
  have ey_4 : y_4 = nI (18 * ix) := by rw [ey_4]; first | rfl | (simp only [nk_set_0, nk_set_1, nk_set_2, nk_set_3, nk_set_4, nk_set_5, nk_set_6, nk_set_7, nk_set_12, nk_set_13, nk_set_18, pk_mul, nI_add]; done) | (simp only [nk_set_0, nk_set_1, nk_set_2, nk_set_3, nk_set_4, nk_set_5, nk_set_6, nk_set_7, nk_set_12, nk_set_13, nk_set_18, pk_mul, nI_add]; exact congrArg nI (by omega))
  subst ey_4
  refine lv_bipush (v := 6) hx hb d_Mo_owns_15 (by decide) ?_
  refine lv_iload_n hx hb d_Mo_owns_17 rfl (lv_at hl 4 rfl) ?_
  refine lv_imul hx hb d_Mo_owns_18 ?_
  refine lv_topi (fun y_5 ey_5 => ?_)
  have ey_5 : y_5 = nI (6 * bb) := by rw [ey_5]; first | rfl | (simp only [nk_set_0, nk_set_1, nk_set_2, nk_set_3, nk_set_4, nk_set_5, nk_set_6, nk_set_7, nk_set_12, nk_set_13, nk_set_18, pk_mul, nI_add]; done) | (simp only [nk_set_0, nk_set_1, nk_set_2, nk_set_3, nk_set_4, nk_set_5, nk_set_6, nk_set_7, nk_set_12, nk_set_13, nk_set_18, pk_mul, nI_add]; exact congrArg nI (by omega))
  subst ey_5
  refine lv_iadd hx hb d_Mo_owns_19 ?_
  refine lv_topi (fun y_6 ey_6 => ?_)
  have ey_6 : y_6 = nI (18 * ix + (6 * bb)) := by rw [ey_6]; first | rfl | (simp only [nk_set_0, nk_set_1, nk_set_2, nk_set_3, nk_set_4, nk_set_5, nk_set_6, nk_set_7, nk_set_12, nk_set_13, nk_set_18, pk_mul, nI_add]; done) | (simp only [nk_set_0, nk_set_1, nk_set_2, nk_set_3, nk_set_4, nk_set_5, nk_set_6, nk_set_7, nk_set_12, nk_set_13, nk_set_18, pk_mul, nI_add]; exact congrArg nI (by omega))
  subst ey_6
  refine lv_istore (lv' := [(7, .int (nI (18 * ix + (6 * bb)))), (6, .int (nI (18 * ix + (6 * aa)))), (0, .ref mo), (1, .int (nI ix)), (2, .int (nI aa)), (3, .int (nI bb)), (4, .int xx), (5, .int yy)]) hx hb d_Mo_owns_20 hl (by decide) rfl (fun ls hl => ?_)
  refine lv_aload_n hx hb d_Mo_owns_22 rfl (lv_at hl 2 rfl) ?_
  refine lv_iload_n hx hb d_Mo_owns_23 rfl (lv_at hl 3 rfl) ?_
  refine lv_iload_n hx hb d_Mo_owns_24 rfl (lv_at hl 4 rfl) ?_
  refine lv_iload_n hx hb d_Mo_owns_25 rfl (lv_at hl 5 rfl) ?_
  refine lv_iload hx hb d_Mo_owns_26 (lv_at hl 6 rfl) ?_
  refine lv_iload hx hb d_Mo_owns_28 (lv_at hl 7 rfl) ?_
  have hPc := hP
  refine vp_callSl (va_Run.run (va_runV (As := [.int (nI ix), .int (nI aa), .int (nI bb), .int xx, .int yy]) (rest := []) ⟨hx, hb, hml, hown, hts⟩ (c_Mo_edge l dC dI cJ cI mo wi hi fo mt mr ma mx mn mp mq ct mtf mrf mxf mpf mqf ix aa bb xx yy (by omega) (by omega) (by omega)) (cwV 5 hts (gd_V wd_331 wd_332 wd_30 wd_37 wd_333) rfl rfl rfl (by decide +kernel) ⟨Nat.le_of_ble_eq_true rfl, Nat.le_of_ble_eq_true rfl⟩) ⟨fb_ro, va_recv hK hPc (ci := 3) (q0 := 0) rfl rfl, pre_ro hK hN hPc⟩ rfl rfl hl.1 rfl (lv_room (Nat.le_of_ble_eq_true rfl)) d_Mo_owns_30 ⟨Nat.le_of_ble_eq_true rfl, Nat.le_of_ble_eq_true rfl⟩)) (fun r_7 er_7 => ?_)
  have er_7 : r_7 = f_Mo_edge mpf ix aa bb xx yy := er_7
  refine lv_lstore (lv' := [(8, .long r_7), (7, .int (nI (18 * ix + (6 * bb)))), (6, .int (nI (18 * ix + (6 * aa)))), (0, .ref mo), (1, .int (nI ix)), (2, .int (nI aa)), (3, .int (nI bb)), (4, .int xx), (5, .int yy)]) hx hb d_Mo_owns_33 hl (by decide) rfl (fun ls hl => ?_)
  refine lv_lload hx hb d_Mo_owns_35 (lv_at hl 0 rfl) ?_
  refine lv_lconst (v := 0) hx hb d_Mo_owns_37 (by decide) ?_
  refine W.lcmp hx hb d_Mo_owns_38 ?_
  refine lv_if_gt (tgt := 111) hx hb d_Mo_owns_39 (by decide) (fun c_8 => ?_) (fun c_8 => ?_)
  · rw [lg_cmp_gt] at c_8
    have c_8 : 0 < r_7 := c_8
    refine lv_iconst (v := 1) hx hb d_Mo_owns_111 (by decide) ?_
    refine lv_goto (tgt := 116) hx hb d_Mo_owns_112 (by decide) ?_
    subst er_7
    exact W.zret (v := 1) hx hb hr (by decide) (fun t ht hW => ⟨_, rfl, by rw [f_Mo_owns, if_pos c_8], ht⟩) (fun q h => by cases h) d_Mo_owns_116
  · rw [lg_cmp_gt] at c_8
    have c_8 : ¬ (0 < r_7) := c_8
    refine lv_lload hx hb d_Mo_owns_42 (lv_at hl 0 rfl) ?_
    refine lv_lconst (v := 0) hx hb d_Mo_owns_44 (by decide) ?_
    refine W.lcmp hx hb d_Mo_owns_45 ?_
    refine lv_if_ne (tgt := 115) hx hb d_Mo_owns_46 (by decide) (fun c_9 => ?_) (fun c_9 => ?_)
    · rw [lg_cmp_eq] at c_9
      have c_9 : ¬ (r_7 = 0) := c_9
      refine lv_iconst (v := 0) hx hb d_Mo_owns_115 (by decide) ?_
      subst er_7
      exact W.zret (v := 0) hx hb hr (by decide) (fun t ht hW => ⟨_, rfl, by rw [f_Mo_owns, if_neg c_8, if_neg c_9], ht⟩) (fun q h => by cases h) d_Mo_owns_116
    · rw [lg_cmp_eq] at c_9
      have c_9 : r_7 = 0 := c_9
      refine lv_aload_n hx hb d_Mo_owns_49 rfl (lv_at hl 3 rfl) ?_
      refine va_get (D := (dC, dI)) (ci := 3) (v := .ref mp) (C := R_Mo) (T := F_Mo) (N := 12) hx hb hts (fun w h => mw (i_Mo w h)) hown hK hP 0 rfl rfl 9 (by decide) (hts _ (mw wd_246)) (fun _ h9 => h9) rfl d_Mo_owns_50 ?_
      refine lv_iload hx hb d_Mo_owns_53 (lv_at hl 1 rfl) ?_
      refine lv_iconst (v := 1) hx hb d_Mo_owns_55 (by decide) ?_
      refine lv_iadd hx hb d_Mo_owns_56 ?_
      refine lv_topi (fun y_10 ey_10 => ?_)
      have ey_10 : y_10 = nI (18 * ix + (6 * bb) + 1) := by rw [ey_10]; first | rfl | (simp only [nk_set_0, nk_set_1, nk_set_2, nk_set_3, nk_set_4, nk_set_5, nk_set_6, nk_set_7, nk_set_12, nk_set_13, nk_set_18, pk_mul, nI_add]; done) | (simp only [nk_set_0, nk_set_1, nk_set_2, nk_set_3, nk_set_4, nk_set_5, nk_set_6, nk_set_7, nk_set_12, nk_set_13, nk_set_18, pk_mul, nI_add]; exact congrArg nI (by omega))
      subst ey_10
      have hq_11 : nI (18 * ix + (6 * bb) + 1) = nI (18 * ix + (6 * bb) + 1) := by first | rfl | (simp only [nk_set_0, nk_set_1, nk_set_2, nk_set_3, nk_set_4, nk_set_5, nk_set_6, nk_set_7, nk_set_12, nk_set_13, nk_set_18, pk_mul, nI_add]; done) | (simp only [nk_set_0, nk_set_1, nk_set_2, nk_set_3, nk_set_4, nk_set_5, nk_set_6, nk_set_7, nk_set_12, nk_set_13, nk_set_18, pk_mul, nI_add]; exact congrArg nI (by omega))
      have hi_12 : vp_in (nI (18 * ix + (6 * bb) + 1)) 324 := by rw [hq_11]; exact vp_in_nI (by omega) (by decide)
      refine va_lald hx hb hK hP 4 0 rfl rfl hi_12 d_Mo_owns_57 ?_
      refine lv_topl (fun y_13 ey_13 => ?_)
      rw [hq_11, nI_clamp (by omega)] at ey_13
      refine lv_aload_n hx hb d_Mo_owns_58 rfl (lv_at hl 3 rfl) ?_
      refine va_get (D := (dC, dI)) (ci := 3) (v := .ref mp) (C := R_Mo) (T := F_Mo) (N := 12) hx hb hts (fun w h => mw (i_Mo w h)) hown hK hP 0 rfl rfl 9 (by decide) (hts _ (mw wd_246)) (fun _ h9 => h9) rfl d_Mo_owns_59 ?_
      refine lv_iload hx hb d_Mo_owns_62 (lv_at hl 2 rfl) ?_
      refine lv_iconst (v := 1) hx hb d_Mo_owns_64 (by decide) ?_
      refine lv_iadd hx hb d_Mo_owns_65 ?_
      refine lv_topi (fun y_14 ey_14 => ?_)
      have ey_14 : y_14 = nI (18 * ix + (6 * aa) + 1) := by rw [ey_14]; first | rfl | (simp only [nk_set_0, nk_set_1, nk_set_2, nk_set_3, nk_set_4, nk_set_5, nk_set_6, nk_set_7, nk_set_12, nk_set_13, nk_set_18, pk_mul, nI_add]; done) | (simp only [nk_set_0, nk_set_1, nk_set_2, nk_set_3, nk_set_4, nk_set_5, nk_set_6, nk_set_7, nk_set_12, nk_set_13, nk_set_18, pk_mul, nI_add]; exact congrArg nI (by omega))
      subst ey_14
      have hq_15 : nI (18 * ix + (6 * aa) + 1) = nI (18 * ix + (6 * aa) + 1) := by first | rfl | (simp only [nk_set_0, nk_set_1, nk_set_2, nk_set_3, nk_set_4, nk_set_5, nk_set_6, nk_set_7, nk_set_12, nk_set_13, nk_set_18, pk_mul, nI_add]; done) | (simp only [nk_set_0, nk_set_1, nk_set_2, nk_set_3, nk_set_4, nk_set_5, nk_set_6, nk_set_7, nk_set_12, nk_set_13, nk_set_18, pk_mul, nI_add]; exact congrArg nI (by omega))
      have hi_16 : vp_in (nI (18 * ix + (6 * aa) + 1)) 324 := by rw [hq_15]; exact vp_in_nI (by omega) (by decide)
      refine va_lald hx hb hK hP 4 0 rfl rfl hi_16 d_Mo_owns_66 ?_
      refine lv_topl (fun y_17 ey_17 => ?_)
      rw [hq_15, nI_clamp (by omega)] at ey_17
      refine W.lcmp hx hb d_Mo_owns_67 ?_
      refine lv_if_lt (tgt := 111) hx hb d_Mo_owns_68 (by decide) (fun c_18 => ?_) (fun c_18 => ?_)
      · rw [lg_cmp_lt] at c_18
        have c_18 : y_13 < y_17 := c_18
        refine lv_iconst (v := 1) hx hb d_Mo_owns_111 (by decide) ?_
        refine lv_goto (tgt := 116) hx hb d_Mo_owns_112 (by decide) ?_
        subst er_7
        subst ey_13
        subst ey_17
        exact W.zret (v := 1) hx hb hr (by decide) (fun t ht hW => ⟨_, rfl, by rw [f_Mo_owns, if_neg c_8, if_pos c_9, if_pos c_18], ht⟩) (fun q h => by cases h) d_Mo_owns_116
      · rw [lg_cmp_lt] at c_18
        have c_18 : ¬ (y_13 < y_17) := c_18
        refine lv_aload_n hx hb d_Mo_owns_71 rfl (lv_at hl 3 rfl) ?_
        refine va_get (D := (dC, dI)) (ci := 3) (v := .ref mp) (C := R_Mo) (T := F_Mo) (N := 12) hx hb hts (fun w h => mw (i_Mo w h)) hown hK hP 0 rfl rfl 9 (by decide) (hts _ (mw wd_246)) (fun _ h9 => h9) rfl d_Mo_owns_72 ?_
        refine lv_iload hx hb d_Mo_owns_75 (lv_at hl 1 rfl) ?_
        refine lv_iconst (v := 1) hx hb d_Mo_owns_77 (by decide) ?_
        refine lv_iadd hx hb d_Mo_owns_78 ?_
        refine lv_topi (fun y_19 ey_19 => ?_)
        have ey_19 : y_19 = nI (18 * ix + (6 * bb) + 1) := by rw [ey_19]; first | rfl | (simp only [nk_set_0, nk_set_1, nk_set_2, nk_set_3, nk_set_4, nk_set_5, nk_set_6, nk_set_7, nk_set_12, nk_set_13, nk_set_18, pk_mul, nI_add]; done) | (simp only [nk_set_0, nk_set_1, nk_set_2, nk_set_3, nk_set_4, nk_set_5, nk_set_6, nk_set_7, nk_set_12, nk_set_13, nk_set_18, pk_mul, nI_add]; exact congrArg nI (by omega))
        subst ey_19
        have hq_20 : nI (18 * ix + (6 * bb) + 1) = nI (18 * ix + (6 * bb) + 1) := by first | rfl | (simp only [nk_set_0, nk_set_1, nk_set_2, nk_set_3, nk_set_4, nk_set_5, nk_set_6, nk_set_7, nk_set_12, nk_set_13, nk_set_18, pk_mul, nI_add]; done) | (simp only [nk_set_0, nk_set_1, nk_set_2, nk_set_3, nk_set_4, nk_set_5, nk_set_6, nk_set_7, nk_set_12, nk_set_13, nk_set_18, pk_mul, nI_add]; exact congrArg nI (by omega))
        have hi_21 : vp_in (nI (18 * ix + (6 * bb) + 1)) 324 := by rw [hq_20]; exact vp_in_nI (by omega) (by decide)
        refine va_lald hx hb hK hP 4 0 rfl rfl hi_21 d_Mo_owns_79 ?_
        refine lv_topl (fun y_22 ey_22 => ?_)
        rw [hq_20, nI_clamp (by omega)] at ey_22
        refine lv_aload_n hx hb d_Mo_owns_80 rfl (lv_at hl 3 rfl) ?_
        refine va_get (D := (dC, dI)) (ci := 3) (v := .ref mp) (C := R_Mo) (T := F_Mo) (N := 12) hx hb hts (fun w h => mw (i_Mo w h)) hown hK hP 0 rfl rfl 9 (by decide) (hts _ (mw wd_246)) (fun _ h9 => h9) rfl d_Mo_owns_81 ?_
        refine lv_iload hx hb d_Mo_owns_84 (lv_at hl 2 rfl) ?_
        refine lv_iconst (v := 1) hx hb d_Mo_owns_86 (by decide) ?_
        refine lv_iadd hx hb d_Mo_owns_87 ?_
        refine lv_topi (fun y_23 ey_23 => ?_)
        have ey_23 : y_23 = nI (18 * ix + (6 * aa) + 1) := by rw [ey_23]; first | rfl | (simp only [nk_set_0, nk_set_1, nk_set_2, nk_set_3, nk_set_4, nk_set_5, nk_set_6, nk_set_7, nk_set_12, nk_set_13, nk_set_18, pk_mul, nI_add]; done) | (simp only [nk_set_0, nk_set_1, nk_set_2, nk_set_3, nk_set_4, nk_set_5, nk_set_6, nk_set_7, nk_set_12, nk_set_13, nk_set_18, pk_mul, nI_add]; exact congrArg nI (by omega))
        subst ey_23
        have hq_24 : nI (18 * ix + (6 * aa) + 1) = nI (18 * ix + (6 * aa) + 1) := by first | rfl | (simp only [nk_set_0, nk_set_1, nk_set_2, nk_set_3, nk_set_4, nk_set_5, nk_set_6, nk_set_7, nk_set_12, nk_set_13, nk_set_18, pk_mul, nI_add]; done) | (simp only [nk_set_0, nk_set_1, nk_set_2, nk_set_3, nk_set_4, nk_set_5, nk_set_6, nk_set_7, nk_set_12, nk_set_13, nk_set_18, pk_mul, nI_add]; exact congrArg nI (by omega))
        have hi_25 : vp_in (nI (18 * ix + (6 * aa) + 1)) 324 := by rw [hq_24]; exact vp_in_nI (by omega) (by decide)
        refine va_lald hx hb hK hP 4 0 rfl rfl hi_25 d_Mo_owns_88 ?_
        refine lv_topl (fun y_26 ey_26 => ?_)
        rw [hq_24, nI_clamp (by omega)] at ey_26
        refine W.lcmp hx hb d_Mo_owns_89 ?_
        refine lv_if_ne (tgt := 115) hx hb d_Mo_owns_90 (by decide) (fun c_27 => ?_) (fun c_27 => ?_)
        · rw [lg_cmp_eq] at c_27
          have c_27 : ¬ (y_22 = y_26) := c_27
          refine lv_iconst (v := 0) hx hb d_Mo_owns_115 (by decide) ?_
          subst er_7
          subst ey_13
          subst ey_17
          subst ey_22
          subst ey_26
          exact W.zret (v := 0) hx hb hr (by decide) (fun t ht hW => ⟨_, rfl, by rw [f_Mo_owns, if_neg c_8, if_pos c_9, if_neg c_18, if_neg c_27], ht⟩) (fun q h => by cases h) d_Mo_owns_116
        · rw [lg_cmp_eq] at c_27
          have c_27 : y_22 = y_26 := c_27
          refine lv_aload_n hx hb d_Mo_owns_93 rfl (lv_at hl 3 rfl) ?_
          refine va_get (D := (dC, dI)) (ci := 3) (v := .ref mp) (C := R_Mo) (T := F_Mo) (N := 12) hx hb hts (fun w h => mw (i_Mo w h)) hown hK hP 0 rfl rfl 9 (by decide) (hts _ (mw wd_246)) (fun _ h9 => h9) rfl d_Mo_owns_94 ?_
          refine lv_iload hx hb d_Mo_owns_97 (lv_at hl 1 rfl) ?_
          have hq_28 : nI (18 * ix + (6 * bb)) = nI (18 * ix + (6 * bb)) := by first | rfl | (simp only [nk_set_0, nk_set_1, nk_set_2, nk_set_3, nk_set_4, nk_set_5, nk_set_6, nk_set_7, nk_set_12, nk_set_13, nk_set_18, pk_mul, nI_add]; done) | (simp only [nk_set_0, nk_set_1, nk_set_2, nk_set_3, nk_set_4, nk_set_5, nk_set_6, nk_set_7, nk_set_12, nk_set_13, nk_set_18, pk_mul, nI_add]; exact congrArg nI (by omega))
          have hi_29 : vp_in (nI (18 * ix + (6 * bb))) 324 := by rw [hq_28]; exact vp_in_nI (by omega) (by decide)
          refine va_lald hx hb hK hP 4 0 rfl rfl hi_29 d_Mo_owns_99 ?_
          refine lv_topl (fun y_30 ey_30 => ?_)
          rw [hq_28, nI_clamp (by omega)] at ey_30
          refine lv_aload_n hx hb d_Mo_owns_100 rfl (lv_at hl 3 rfl) ?_
          refine va_get (D := (dC, dI)) (ci := 3) (v := .ref mp) (C := R_Mo) (T := F_Mo) (N := 12) hx hb hts (fun w h => mw (i_Mo w h)) hown hK hP 0 rfl rfl 9 (by decide) (hts _ (mw wd_246)) (fun _ h9 => h9) rfl d_Mo_owns_101 ?_
          refine lv_iload hx hb d_Mo_owns_104 (lv_at hl 2 rfl) ?_
          have hq_31 : nI (18 * ix + (6 * aa)) = nI (18 * ix + (6 * aa)) := by first | rfl | (simp only [nk_set_0, nk_set_1, nk_set_2, nk_set_3, nk_set_4, nk_set_5, nk_set_6, nk_set_7, nk_set_12, nk_set_13, nk_set_18, pk_mul, nI_add]; done) | (simp only [nk_set_0, nk_set_1, nk_set_2, nk_set_3, nk_set_4, nk_set_5, nk_set_6, nk_set_7, nk_set_12, nk_set_13, nk_set_18, pk_mul, nI_add]; exact congrArg nI (by omega))
          have hi_32 : vp_in (nI (18 * ix + (6 * aa))) 324 := by rw [hq_31]; exact vp_in_nI (by omega) (by decide)
          refine va_lald hx hb hK hP 4 0 rfl rfl hi_32 d_Mo_owns_106 ?_
          refine lv_topl (fun y_33 ey_33 => ?_)
          rw [hq_31, nI_clamp (by omega)] at ey_33
          refine W.lcmp hx hb d_Mo_owns_107 ?_
          refine lv_if_le (tgt := 115) hx hb d_Mo_owns_108 (by decide) (fun c_34 => ?_) (fun c_34 => ?_)
          · rw [lg_cmp_le] at c_34
            have c_34 : y_30 ≤ y_33 := c_34
            refine lv_iconst (v := 0) hx hb d_Mo_owns_115 (by decide) ?_
            subst er_7
            subst ey_13
            subst ey_17
            subst ey_22
            subst ey_26
            subst ey_30
            subst ey_33
            exact W.zret (v := 0) hx hb hr (by decide) (fun t ht hW => ⟨_, rfl, by rw [f_Mo_owns, if_neg c_8, if_pos c_9, if_neg c_18, if_pos c_27, if_pos c_34], ht⟩) (fun q h => by cases h) d_Mo_owns_116
          · rw [lg_cmp_le] at c_34
            have c_34 : ¬ (y_30 ≤ y_33) := c_34
            refine lv_iconst (v := 1) hx hb d_Mo_owns_111 (by decide) ?_
            refine lv_goto (tgt := 116) hx hb d_Mo_owns_112 (by decide) ?_
            subst er_7
            subst ey_13
            subst ey_17
            subst ey_22
            subst ey_26
            subst ey_30
            subst ey_33
            exact W.zret (v := 1) hx hb hr (by decide) (fun t ht hW => ⟨_, rfl, by rw [f_Mo_owns, if_neg c_8, if_pos c_9, if_neg c_18, if_pos c_27, if_neg c_34], ht⟩) (fun q h => by cases h) d_Mo_owns_116
def f_Mo_isPixel (wi : Int32) (hi : Int32) (xx : Int32) (yy : Int32) : Int32 := if (f_Mo_within xx 0 (wi - 1)) = 0 then 0 else (if (f_Mo_within yy 0 (hi - 1)) = 0 then 0 else 1)
set_option maxHeartbeats 4000000 in
set_option maxRecDepth 100000 in
theorem c_Mo_isPixel (l : Launch) (dC : Nat → ClassId) (dI : Nat → Nat → Nat) (cJ cI : ClassId) (mo : Nat) (wi : Int32) (hi : Int32) (fo : Int32) (mt : Nat) (mr : Nat) (ma : Int32) (mx : Nat) (mn : Int32) (mp : Nat) (mq : Nat) (ct : Nat) (mtf : Nat → Int64) (mrf : Nat → Int64) (mxf : Nat → Int64) (mpf : Nat → Int64) (mqf : Nat → Int64) (xx : Int32) (yy : Int32) : Met l y_Mo_isPixel w_Mo_isPixel ({ frames := 1, cells := 0, slots := 0, locals := 22 } : Room) (rq_ro (dC, dI) cJ cI [.ref mo, .int xx, .int yy] [(mo, .inr (3, [.int 0, .int wi, .int hi, .int fo, .ref mt, .ref mr, .int ma, .ref mx, .int mn, .ref mp, .ref mq, .int (nI ct)])), (mt, .inl (cJ, 18, .inr (.inl mtf))), (mr, .inl (cJ, 120, .inr (.inl mrf))), (mx, .inl (cJ, 120, .inr (.inl mxf))), (mp, .inl (cJ, 324, .inr (.inl mpf))), (mq, .inl (cJ, 18, .inr (.inl mqf)))]) (vp_Si (fun r => r = f_Mo_isPixel wi hi xx yy)) 0 0 (fun _ => False) := by
  refine Met.ofW (cc := b_Mo_isPixel) (maxL := 3) (ret := (some .boolean)) (by decide) rfl ?_
  intro p e s m args below meth c s₁ B hml hv
  obtain ⟨rfl, hP, hK, hN⟩ := hv
  have hx := B.exec
  have hb := B.bytes
  have hr := B.returns
  have hts := atoms_spec (ws := w_Mo_isPixel) B.pre
  have hown : s.vm.findClass R_Mo = some m.cls := findClass_of_methodNamed B.named
  have hlocks := B.notSynchronized
  have hl := lv_entry ([.ref mo, .int xx, .int yy]) (n := 3) (Nat.le_of_ble_eq_true rfl)
  rw [lg_entry_eq]
  generalize (lg_sl ([.ref mo, .int xx, .int yy]) ++ List.replicate (3 - (lg_sl ([.ref mo, .int xx, .int yy])).length) Slot.unset).toArray = ls at hl ⊢
  have hl : lv_has ls 3 [(0, .ref mo), (1, .int xx), (2, .int yy)] := hl
  refine lv_iload_n hx hb d_Mo_isPixel_0 rfl (lv_at hl 1 rfl) ?_
  refine lv_iconst (v := 0) hx hb d_Mo_isPixel_1 (by decide) ?_
  refine lv_aload_n hx hb d_Mo_isPixel_2 rfl (lv_at hl 0 rfl) ?_
  refine va_get (D := (dC, dI)) (ci := 3) (v := .int wi) (C := R_Mo) (T := F_Mo) (N := 12) hx hb hts (fun w h => mw (i_Mo w h)) hown hK hP 0 rfl rfl 1 (by decide) (hts _ (mw wd_238)) (fun _ h9 => h9) rfl d_Mo_isPixel_3 ?_
  refine lv_iconst (v := 1) hx hb d_Mo_isPixel_6 (by decide) ?_
  refine lv_isub hx hb d_Mo_isPixel_7 ?_
  refine vp_callSi (va_Run.run (va_runS (As := [.int xx, .int 0, .int (wi - 1)]) (rest := []) ⟨hx, hb, hml, hown, hts⟩ (c_Mo_within l dC dI cJ cI xx 0 (wi - 1)) (va_cwS 3 hts (gd_S wd_265 wd_266 wd_37 wd_267) rfl rfl rfl (by decide +kernel) ⟨Nat.le_of_ble_eq_true rfl, Nat.le_of_ble_eq_true rfl⟩) ⟨fb_ro, pre_ro hK hN va_nil⟩ rfl rfl hl.1 rfl (lv_room (Nat.le_of_ble_eq_true rfl)) d_Mo_isPixel_8 ⟨Nat.le_of_ble_eq_true rfl, Nat.le_of_ble_eq_true rfl⟩)) (fun r_1 er_1 => ?_)
  have er_1 : r_1 = f_Mo_within xx 0 (wi - 1) := er_1
  refine lv_if_eq (tgt := 32) hx hb d_Mo_isPixel_11 (by decide) (fun c_2 => ?_) (fun c_2 => ?_)
  · have c_2 : r_1 = 0 := c_2
    refine lv_iconst (v := 0) hx hb d_Mo_isPixel_32 (by decide) ?_
    subst er_1
    exact W.zret (v := 0) hx hb hr (by decide) (fun t ht hW => ⟨_, rfl, by rw [f_Mo_isPixel, if_pos c_2], ht⟩) (fun q h => by cases h) d_Mo_isPixel_33
  · have c_2 : ¬ (r_1 = 0) := c_2
    refine lv_iload_n hx hb d_Mo_isPixel_14 rfl (lv_at hl 2 rfl) ?_
    refine lv_iconst (v := 0) hx hb d_Mo_isPixel_15 (by decide) ?_
    refine lv_aload_n hx hb d_Mo_isPixel_16 rfl (lv_at hl 0 rfl) ?_
    refine va_get (D := (dC, dI)) (ci := 3) (v := .int hi) (C := R_Mo) (T := F_Mo) (N := 12) hx hb hts (fun w h => mw (i_Mo w h)) hown hK hP 0 rfl rfl 2 (by decide) (hts _ (mw wd_239)) (fun _ h9 => h9) rfl d_Mo_isPixel_17 ?_
    refine lv_iconst (v := 1) hx hb d_Mo_isPixel_20 (by decide) ?_
    refine lv_isub hx hb d_Mo_isPixel_21 ?_
    refine vp_callSi (va_Run.run (va_runS (As := [.int yy, .int 0, .int (hi - 1)]) (rest := []) ⟨hx, hb, hml, hown, hts⟩ (c_Mo_within l dC dI cJ cI yy 0 (hi - 1)) (va_cwS 3 hts (gd_S wd_265 wd_266 wd_37 wd_267) rfl rfl rfl (by decide +kernel) ⟨Nat.le_of_ble_eq_true rfl, Nat.le_of_ble_eq_true rfl⟩) ⟨fb_ro, pre_ro hK hN va_nil⟩ rfl rfl hl.1 rfl (lv_room (Nat.le_of_ble_eq_true rfl)) d_Mo_isPixel_22 ⟨Nat.le_of_ble_eq_true rfl, Nat.le_of_ble_eq_true rfl⟩)) (fun r_3 er_3 => ?_)
    have er_3 : r_3 = f_Mo_within yy 0 (hi - 1) := er_3
    refine lv_if_eq (tgt := 32) hx hb d_Mo_isPixel_25 (by decide) (fun c_4 => ?_) (fun c_4 => ?_)
    · have c_4 : r_3 = 0 := c_4
      refine lv_iconst (v := 0) hx hb d_Mo_isPixel_32 (by decide) ?_
      subst er_1
      subst er_3
      exact W.zret (v := 0) hx hb hr (by decide) (fun t ht hW => ⟨_, rfl, by rw [f_Mo_isPixel, if_neg c_2, if_pos c_4], ht⟩) (fun q h => by cases h) d_Mo_isPixel_33
    · have c_4 : ¬ (r_3 = 0) := c_4
      refine lv_iconst (v := 1) hx hb d_Mo_isPixel_28 (by decide) ?_
      refine lv_goto (tgt := 33) hx hb d_Mo_isPixel_29 (by decide) ?_
      subst er_1
      subst er_3
      exact W.zret (v := 1) hx hb hr (by decide) (fun t ht hW => ⟨_, rfl, by rw [f_Mo_isPixel, if_neg c_2, if_neg c_4], ht⟩) (fun q h => by cases h) d_Mo_isPixel_33
def f_Mo_weight (mpf : Nat → Int64) (ix : Nat) (cc : Nat) (xx : Int32) (yy : Int32) : Int64 := (f_Mo_edge mpf ix ((cc + 1) % 3) ((cc + 2) % 3) xx yy) * (mpf (18 * ix + (6 * cc) + 2))
set_option maxHeartbeats 4000000 in
set_option maxRecDepth 100000 in
theorem c_Mo_weight (l : Launch) (dC : Nat → ClassId) (dI : Nat → Nat → Nat) (cJ cI : ClassId) (mo : Nat) (wi : Int32) (hi : Int32) (fo : Int32) (mt : Nat) (mr : Nat) (ma : Int32) (mx : Nat) (mn : Int32) (mp : Nat) (mq : Nat) (ct : Nat) (mtf : Nat → Int64) (mrf : Nat → Int64) (mxf : Nat → Int64) (mpf : Nat → Int64) (mqf : Nat → Int64) (ix : Nat) (cc : Nat) (xx : Int32) (yy : Int32) (hx9 : ix < 18) (hc9 : cc < 3) : Met l y_Mo_weight w_Mo_weight ({ frames := 1, cells := 0, slots := 0, locals := 27 } : Room) (rq_ro (dC, dI) cJ cI [.ref mo, .int (nI ix), .int (nI cc), .int xx, .int yy] [(mo, .inr (3, [.int 0, .int wi, .int hi, .int fo, .ref mt, .ref mr, .int ma, .ref mx, .int mn, .ref mp, .ref mq, .int (nI ct)])), (mt, .inl (cJ, 18, .inr (.inl mtf))), (mr, .inl (cJ, 120, .inr (.inl mrf))), (mx, .inl (cJ, 120, .inr (.inl mxf))), (mp, .inl (cJ, 324, .inr (.inl mpf))), (mq, .inl (cJ, 18, .inr (.inl mqf)))]) (vp_Sl (fun r => r = f_Mo_weight mpf ix cc xx yy)) 0 0 (fun _ => False) := by
  refine Met.ofW (cc := b_Mo_weight) (maxL := 5) (ret := (some .long)) (by decide) rfl ?_
  intro p e s m args below meth c s₁ B hml hv
  obtain ⟨rfl, hP, hK, hN⟩ := hv
  have hx := B.exec
  have hb := B.bytes
  have hr := B.returns
  have hts := atoms_spec (ws := w_Mo_weight) B.pre
  have hown : s.vm.findClass R_Mo = some m.cls := findClass_of_methodNamed B.named
  have hlocks := B.notSynchronized
  have hl := lv_entry ([.ref mo, .int (nI ix), .int (nI cc), .int xx, .int yy]) (n := 5) (Nat.le_of_ble_eq_true rfl)
  rw [lg_entry_eq]
  generalize (lg_sl ([.ref mo, .int (nI ix), .int (nI cc), .int xx, .int yy]) ++ List.replicate (5 - (lg_sl ([.ref mo, .int (nI ix), .int (nI cc), .int xx, .int yy])).length) Slot.unset).toArray = ls at hl ⊢
  have hl : lv_has ls 5 [(0, .ref mo), (1, .int (nI ix)), (2, .int (nI cc)), (3, .int xx), (4, .int yy)] := hl
  refine lv_aload_n hx hb d_Mo_weight_0 rfl (lv_at hl 0 rfl) ?_
  refine lv_iload_n hx hb d_Mo_weight_1 rfl (lv_at hl 1 rfl) ?_
  refine lv_iload_n hx hb d_Mo_weight_2 rfl (lv_at hl 2 rfl) ?_
  refine lv_iconst (v := 1) hx hb d_Mo_weight_3 (by decide) ?_
  refine lv_iadd hx hb d_Mo_weight_4 ?_
  refine lv_topi (fun y_1 ey_1 => ?_)
  have ey_1 : y_1 = nI (cc + 1) := by rw [ey_1]; first | rfl | (simp only [nk_set_0, nk_set_1, nk_set_2, nk_set_3, nk_set_4, nk_set_5, nk_set_6, nk_set_7, nk_set_12, nk_set_13, nk_set_18, pk_mul, nI_add]; done) | (simp only [nk_set_0, nk_set_1, nk_set_2, nk_set_3, nk_set_4, nk_set_5, nk_set_6, nk_set_7, nk_set_12, nk_set_13, nk_set_18, pk_mul, nI_add]; exact congrArg nI (by omega))
  subst ey_1
  refine lv_iconst (v := 3) hx hb d_Mo_weight_5 (by decide) ?_
  refine lv_irem hx hb d_Mo_weight_6 (by decide) ?_
  refine lv_topi (fun y_2 ey_2 => ?_)
  have ey_2 : y_2 = nI ((cc + 1) % 3) := by rw [ey_2]; exact pk_rem (a := cc + 1) (d := 3) (by omega) (by omega) (by omega)
  subst ey_2
  refine lv_iload_n hx hb d_Mo_weight_7 rfl (lv_at hl 2 rfl) ?_
  refine lv_iconst (v := 2) hx hb d_Mo_weight_8 (by decide) ?_
  refine lv_iadd hx hb d_Mo_weight_9 ?_
  refine lv_topi (fun y_3 ey_3 => ?_)
  have ey_3 : y_3 = nI (cc + 2) := by rw [ey_3]; first | rfl | (simp only [nk_set_0, nk_set_1, nk_set_2, nk_set_3, nk_set_4, nk_set_5, nk_set_6, nk_set_7, nk_set_12, nk_set_13, nk_set_18, pk_mul, nI_add]; done) | (simp only [nk_set_0, nk_set_1, nk_set_2, nk_set_3, nk_set_4, nk_set_5, nk_set_6, nk_set_7, nk_set_12, nk_set_13, nk_set_18, pk_mul, nI_add]; exact congrArg nI (by omega))
  subst ey_3
  refine lv_iconst (v := 3) hx hb d_Mo_weight_10 (by decide) ?_
  refine lv_irem hx hb d_Mo_weight_11 (by decide) ?_
  refine lv_topi (fun y_4 ey_4 => ?_)
  have ey_4 : y_4 = nI ((cc + 2) % 3) := by rw [ey_4]; exact pk_rem (a := cc + 2) (d := 3) (by omega) (by omega) (by omega)
  subst ey_4
  refine lv_iload_n hx hb d_Mo_weight_12 rfl (lv_at hl 3 rfl) ?_
  refine lv_iload hx hb d_Mo_weight_13 (lv_at hl 4 rfl) ?_
  have hPc := hP
  refine vp_callSl (va_Run.run (va_runV (As := [.int (nI ix), .int (nI ((cc + 1) % 3)), .int (nI ((cc + 2) % 3)), .int xx, .int yy]) (rest := []) ⟨hx, hb, hml, hown, hts⟩ (c_Mo_edge l dC dI cJ cI mo wi hi fo mt mr ma mx mn mp mq ct mtf mrf mxf mpf mqf ix ((cc + 1) % 3) ((cc + 2) % 3) xx yy (by omega) (by omega) (by omega)) (cwV 5 hts (gd_V wd_331 wd_332 wd_30 wd_37 wd_333) rfl rfl rfl (by decide +kernel) ⟨Nat.le_of_ble_eq_true rfl, Nat.le_of_ble_eq_true rfl⟩) ⟨fb_ro, va_recv hK hPc (ci := 3) (q0 := 0) rfl rfl, pre_ro hK hN hPc⟩ rfl rfl hl.1 rfl (lv_room (Nat.le_of_ble_eq_true rfl)) d_Mo_weight_15 ⟨Nat.le_of_ble_eq_true rfl, Nat.le_of_ble_eq_true rfl⟩)) (fun r_5 er_5 => ?_)
  have er_5 : r_5 = f_Mo_edge mpf ix ((cc + 1) % 3) ((cc + 2) % 3) xx yy := er_5
  refine lv_aload_n hx hb d_Mo_weight_18 rfl (lv_at hl 0 rfl) ?_
  refine va_get (D := (dC, dI)) (ci := 3) (v := .ref mp) (C := R_Mo) (T := F_Mo) (N := 12) hx hb hts (fun w h => mw (i_Mo w h)) hown hK hP 0 rfl rfl 9 (by decide) (hts _ (mw wd_246)) (fun _ h9 => h9) rfl d_Mo_weight_19 ?_
  refine lv_bipush (v := 18) hx hb d_Mo_weight_22 (by decide) ?_
  refine lv_iload_n hx hb d_Mo_weight_24 rfl (lv_at hl 1 rfl) ?_
  refine lv_imul hx hb d_Mo_weight_25 ?_
  refine lv_topi (fun y_6 ey_6 => ?_)
  have ey_6 : y_6 = nI (18 * ix) := by rw [ey_6]; first | rfl | (simp only [nk_set_0, nk_set_1, nk_set_2, nk_set_3, nk_set_4, nk_set_5, nk_set_6, nk_set_7, nk_set_12, nk_set_13, nk_set_18, pk_mul, nI_add]; done) | (simp only [nk_set_0, nk_set_1, nk_set_2, nk_set_3, nk_set_4, nk_set_5, nk_set_6, nk_set_7, nk_set_12, nk_set_13, nk_set_18, pk_mul, nI_add]; exact congrArg nI (by omega))
  subst ey_6
  refine lv_bipush (v := 6) hx hb d_Mo_weight_26 (by decide) ?_
  refine lv_iload_n hx hb d_Mo_weight_28 rfl (lv_at hl 2 rfl) ?_
  refine lv_imul hx hb d_Mo_weight_29 ?_
  refine lv_topi (fun y_7 ey_7 => ?_)
  have ey_7 : y_7 = nI (6 * cc) := by rw [ey_7]; first | rfl | (simp only [nk_set_0, nk_set_1, nk_set_2, nk_set_3, nk_set_4, nk_set_5, nk_set_6, nk_set_7, nk_set_12, nk_set_13, nk_set_18, pk_mul, nI_add]; done) | (simp only [nk_set_0, nk_set_1, nk_set_2, nk_set_3, nk_set_4, nk_set_5, nk_set_6, nk_set_7, nk_set_12, nk_set_13, nk_set_18, pk_mul, nI_add]; exact congrArg nI (by omega))
  subst ey_7
  refine lv_iadd hx hb d_Mo_weight_30 ?_
  refine lv_topi (fun y_8 ey_8 => ?_)
  have ey_8 : y_8 = nI (18 * ix + (6 * cc)) := by rw [ey_8]; first | rfl | (simp only [nk_set_0, nk_set_1, nk_set_2, nk_set_3, nk_set_4, nk_set_5, nk_set_6, nk_set_7, nk_set_12, nk_set_13, nk_set_18, pk_mul, nI_add]; done) | (simp only [nk_set_0, nk_set_1, nk_set_2, nk_set_3, nk_set_4, nk_set_5, nk_set_6, nk_set_7, nk_set_12, nk_set_13, nk_set_18, pk_mul, nI_add]; exact congrArg nI (by omega))
  subst ey_8
  refine lv_iconst (v := 2) hx hb d_Mo_weight_31 (by decide) ?_
  refine lv_iadd hx hb d_Mo_weight_32 ?_
  refine lv_topi (fun y_9 ey_9 => ?_)
  have ey_9 : y_9 = nI (18 * ix + (6 * cc) + 2) := by rw [ey_9]; first | rfl | (simp only [nk_set_0, nk_set_1, nk_set_2, nk_set_3, nk_set_4, nk_set_5, nk_set_6, nk_set_7, nk_set_12, nk_set_13, nk_set_18, pk_mul, nI_add]; done) | (simp only [nk_set_0, nk_set_1, nk_set_2, nk_set_3, nk_set_4, nk_set_5, nk_set_6, nk_set_7, nk_set_12, nk_set_13, nk_set_18, pk_mul, nI_add]; exact congrArg nI (by omega))
  subst ey_9
  have hq_10 : nI (18 * ix + (6 * cc) + 2) = nI (18 * ix + (6 * cc) + 2) := by first | rfl | (simp only [nk_set_0, nk_set_1, nk_set_2, nk_set_3, nk_set_4, nk_set_5, nk_set_6, nk_set_7, nk_set_12, nk_set_13, nk_set_18, pk_mul, nI_add]; done) | (simp only [nk_set_0, nk_set_1, nk_set_2, nk_set_3, nk_set_4, nk_set_5, nk_set_6, nk_set_7, nk_set_12, nk_set_13, nk_set_18, pk_mul, nI_add]; exact congrArg nI (by omega))
  have hi_11 : vp_in (nI (18 * ix + (6 * cc) + 2)) 324 := by rw [hq_10]; exact vp_in_nI (by omega) (by decide)
  refine va_lald hx hb hK hP 4 0 rfl rfl hi_11 d_Mo_weight_33 ?_
  refine lv_topl (fun y_12 ey_12 => ?_)
  rw [hq_10, nI_clamp (by omega)] at ey_12
  refine lv_lmul hx hb d_Mo_weight_34 ?_
  subst er_5
  subst ey_12
  exact W.lret (v := (f_Mo_edge mpf ix ((cc + 1) % 3) ((cc + 2) % 3) xx yy) * (mpf (18 * ix + (6 * cc) + 2))) hx hb hr (fun t ht hW => ⟨_, rfl, rfl, ht⟩) (fun q h => by cases h) d_Mo_weight_35
def f_Mo_coversI (wi : Int32) (hi : Int32) (ct : Nat) (mpf : Nat → Int64) (ix : Nat) (xx : Int32) (yy : Int32) : Int32 := if (f_Mo_within (nI ix) 0 ((nI ct) - 1)) = 0 then 0 else (if (f_Mo_isPixel wi hi xx yy) = 0 then 0 else (if (f_Mo_owns mpf ix 1 2 xx yy) = 0 then 0 else (if (f_Mo_owns mpf ix 2 0 xx yy) = 0 then 0 else (if (f_Mo_owns mpf ix 0 1 xx yy) = 0 then 0 else 1))))
set_option maxHeartbeats 4000000 in
set_option maxRecDepth 100000 in
theorem c_Mo_coversI (l : Launch) (dC : Nat → ClassId) (dI : Nat → Nat → Nat) (cJ cI : ClassId) (mo : Nat) (wi : Int32) (hi : Int32) (fo : Int32) (mt : Nat) (mr : Nat) (ma : Int32) (mx : Nat) (mn : Int32) (mp : Nat) (mq : Nat) (ct : Nat) (mtf : Nat → Int64) (mrf : Nat → Int64) (mxf : Nat → Int64) (mpf : Nat → Int64) (mqf : Nat → Int64) (ix : Nat) (xx : Int32) (yy : Int32) (hx9 : ix < 18) : Met l y_Mo_covers w_Mo_covers ({ frames := 2, cells := 0, slots := 0, locals := 56 } : Room) (rq_ro (dC, dI) cJ cI [.ref mo, .int (nI ix), .int xx, .int yy] [(mo, .inr (3, [.int 0, .int wi, .int hi, .int fo, .ref mt, .ref mr, .int ma, .ref mx, .int mn, .ref mp, .ref mq, .int (nI ct)])), (mt, .inl (cJ, 18, .inr (.inl mtf))), (mr, .inl (cJ, 120, .inr (.inl mrf))), (mx, .inl (cJ, 120, .inr (.inl mxf))), (mp, .inl (cJ, 324, .inr (.inl mpf))), (mq, .inl (cJ, 18, .inr (.inl mqf)))]) (vp_Si (fun r => r = f_Mo_coversI wi hi ct mpf ix xx yy)) 0 0 (fun _ => False) := by
  refine Met.ofW (cc := b_Mo_covers) (maxL := 4) (ret := (some .boolean)) (by decide) rfl ?_
  intro p e s m args below meth c s₁ B hml hv
  obtain ⟨rfl, hP, hK, hN⟩ := hv
  have hx := B.exec
  have hb := B.bytes
  have hr := B.returns
  have hts := atoms_spec (ws := w_Mo_covers) B.pre
  have hown : s.vm.findClass R_Mo = some m.cls := findClass_of_methodNamed B.named
  have hlocks := B.notSynchronized
  have hl := lv_entry ([.ref mo, .int (nI ix), .int xx, .int yy]) (n := 4) (Nat.le_of_ble_eq_true rfl)
  rw [lg_entry_eq]
  generalize (lg_sl ([.ref mo, .int (nI ix), .int xx, .int yy]) ++ List.replicate (4 - (lg_sl ([.ref mo, .int (nI ix), .int xx, .int yy])).length) Slot.unset).toArray = ls at hl ⊢
  have hl : lv_has ls 4 [(0, .ref mo), (1, .int (nI ix)), (2, .int xx), (3, .int yy)] := hl
  refine lv_iload_n hx hb d_Mo_covers_0 rfl (lv_at hl 1 rfl) ?_
  refine lv_iconst (v := 0) hx hb d_Mo_covers_1 (by decide) ?_
  refine lv_aload_n hx hb d_Mo_covers_2 rfl (lv_at hl 0 rfl) ?_
  refine va_get (D := (dC, dI)) (ci := 3) (v := .int (nI ct)) (C := R_Mo) (T := F_Mo) (N := 12) hx hb hts (fun w h => mw (i_Mo w h)) hown hK hP 0 rfl rfl 11 (by decide) (hts _ (mw wd_248)) (fun _ h9 => h9) rfl d_Mo_covers_3 ?_
  refine lv_iconst (v := 1) hx hb d_Mo_covers_6 (by decide) ?_
  refine lv_isub hx hb d_Mo_covers_7 ?_
  refine vp_callSi (va_Run.run (va_runS (As := [.int (nI ix), .int 0, .int ((nI ct) - 1)]) (rest := []) ⟨hx, hb, hml, hown, hts⟩ (c_Mo_within l dC dI cJ cI (nI ix) 0 ((nI ct) - 1)) (va_cwS 3 hts (gd_S wd_265 wd_266 wd_37 wd_267) rfl rfl rfl (by decide +kernel) ⟨Nat.le_of_ble_eq_true rfl, Nat.le_of_ble_eq_true rfl⟩) ⟨fb_ro, pre_ro hK hN va_nil⟩ rfl rfl hl.1 rfl (lv_room (Nat.le_of_ble_eq_true rfl)) d_Mo_covers_8 ⟨Nat.le_of_ble_eq_true rfl, Nat.le_of_ble_eq_true rfl⟩)) (fun r_1 er_1 => ?_)
  have er_1 : r_1 = f_Mo_within (nI ix) 0 ((nI ct) - 1) := er_1
  refine lv_if_eq (tgt := 63) hx hb d_Mo_covers_11 (by decide) (fun c_2 => ?_) (fun c_2 => ?_)
  · have c_2 : r_1 = 0 := c_2
    refine lv_iconst (v := 0) hx hb d_Mo_covers_63 (by decide) ?_
    subst er_1
    exact W.zret (v := 0) hx hb hr (by decide) (fun t ht hW => ⟨_, rfl, by rw [f_Mo_coversI, if_pos c_2], ht⟩) (fun q h => by cases h) d_Mo_covers_64
  · have c_2 : ¬ (r_1 = 0) := c_2
    refine lv_aload_n hx hb d_Mo_covers_14 rfl (lv_at hl 0 rfl) ?_
    refine lv_iload_n hx hb d_Mo_covers_15 rfl (lv_at hl 2 rfl) ?_
    refine lv_iload_n hx hb d_Mo_covers_16 rfl (lv_at hl 3 rfl) ?_
    have hPc := hP
    refine vp_callSi (va_Run.run (va_runV (As := [.int xx, .int yy]) (rest := []) ⟨hx, hb, hml, hown, hts⟩ (c_Mo_isPixel l dC dI cJ cI mo wi hi fo mt mr ma mx mn mp mq ct mtf mrf mxf mpf mqf xx yy) (cwV 2 hts (gd_V wd_325 wd_326 wd_28 wd_37 wd_327) rfl rfl rfl (by decide +kernel) ⟨Nat.le_of_ble_eq_true rfl, Nat.le_of_ble_eq_true rfl⟩) ⟨fb_ro, va_recv hK hPc (ci := 3) (q0 := 0) rfl rfl, pre_ro hK hN hPc⟩ rfl rfl hl.1 rfl (lv_room (Nat.le_of_ble_eq_true rfl)) d_Mo_covers_17 ⟨Nat.le_of_ble_eq_true rfl, Nat.le_of_ble_eq_true rfl⟩)) (fun r_3 er_3 => ?_)
    have er_3 : r_3 = f_Mo_isPixel wi hi xx yy := er_3
    refine lv_if_eq (tgt := 63) hx hb d_Mo_covers_20 (by decide) (fun c_4 => ?_) (fun c_4 => ?_)
    · have c_4 : r_3 = 0 := c_4
      refine lv_iconst (v := 0) hx hb d_Mo_covers_63 (by decide) ?_
      subst er_1
      subst er_3
      exact W.zret (v := 0) hx hb hr (by decide) (fun t ht hW => ⟨_, rfl, by rw [f_Mo_coversI, if_neg c_2, if_pos c_4], ht⟩) (fun q h => by cases h) d_Mo_covers_64
    · have c_4 : ¬ (r_3 = 0) := c_4
      refine lv_aload_n hx hb d_Mo_covers_23 rfl (lv_at hl 0 rfl) ?_
      refine lv_iload_n hx hb d_Mo_covers_24 rfl (lv_at hl 1 rfl) ?_
      refine lv_iconst (v := 1) hx hb d_Mo_covers_25 (by decide) ?_
      refine lv_iconst (v := 2) hx hb d_Mo_covers_26 (by decide) ?_
      refine lv_iload_n hx hb d_Mo_covers_27 rfl (lv_at hl 2 rfl) ?_
      refine lv_iload_n hx hb d_Mo_covers_28 rfl (lv_at hl 3 rfl) ?_
      have hPc := hP
      refine vp_callSi (va_Run.run (va_runV (As := [.int (nI ix), .int (nI 1), .int (nI 2), .int xx, .int yy]) (rest := []) ⟨hx, hb, hml, hown, hts⟩ (c_Mo_owns l dC dI cJ cI mo wi hi fo mt mr ma mx mn mp mq ct mtf mrf mxf mpf mqf ix 1 2 xx yy (by omega) (by omega) (by omega)) (cwV 5 hts (gd_V wd_328 wd_329 wd_29 wd_37 wd_330) rfl rfl rfl (by decide +kernel) ⟨Nat.le_of_ble_eq_true rfl, Nat.le_of_ble_eq_true rfl⟩) ⟨fb_ro, va_recv hK hPc (ci := 3) (q0 := 0) rfl rfl, pre_ro hK hN hPc⟩ rfl rfl hl.1 rfl (lv_room (Nat.le_of_ble_eq_true rfl)) d_Mo_covers_29 ⟨Nat.le_of_ble_eq_true rfl, Nat.le_of_ble_eq_true rfl⟩)) (fun r_5 er_5 => ?_)
      have er_5 : r_5 = f_Mo_owns mpf ix 1 2 xx yy := er_5
      refine lv_if_eq (tgt := 63) hx hb d_Mo_covers_32 (by decide) (fun c_6 => ?_) (fun c_6 => ?_)
      · have c_6 : r_5 = 0 := c_6
        refine lv_iconst (v := 0) hx hb d_Mo_covers_63 (by decide) ?_
        subst er_1
        subst er_3
        subst er_5
        exact W.zret (v := 0) hx hb hr (by decide) (fun t ht hW => ⟨_, rfl, by rw [f_Mo_coversI, if_neg c_2, if_neg c_4, if_pos c_6], ht⟩) (fun q h => by cases h) d_Mo_covers_64
      · have c_6 : ¬ (r_5 = 0) := c_6
        refine lv_aload_n hx hb d_Mo_covers_35 rfl (lv_at hl 0 rfl) ?_
        refine lv_iload_n hx hb d_Mo_covers_36 rfl (lv_at hl 1 rfl) ?_
        refine lv_iconst (v := 2) hx hb d_Mo_covers_37 (by decide) ?_
        refine lv_iconst (v := 0) hx hb d_Mo_covers_38 (by decide) ?_
        refine lv_iload_n hx hb d_Mo_covers_39 rfl (lv_at hl 2 rfl) ?_
        refine lv_iload_n hx hb d_Mo_covers_40 rfl (lv_at hl 3 rfl) ?_
        have hPc := hP
        refine vp_callSi (va_Run.run (va_runV (As := [.int (nI ix), .int (nI 2), .int (nI 0), .int xx, .int yy]) (rest := []) ⟨hx, hb, hml, hown, hts⟩ (c_Mo_owns l dC dI cJ cI mo wi hi fo mt mr ma mx mn mp mq ct mtf mrf mxf mpf mqf ix 2 0 xx yy (by omega) (by omega) (by omega)) (cwV 5 hts (gd_V wd_328 wd_329 wd_29 wd_37 wd_330) rfl rfl rfl (by decide +kernel) ⟨Nat.le_of_ble_eq_true rfl, Nat.le_of_ble_eq_true rfl⟩) ⟨fb_ro, va_recv hK hPc (ci := 3) (q0 := 0) rfl rfl, pre_ro hK hN hPc⟩ rfl rfl hl.1 rfl (lv_room (Nat.le_of_ble_eq_true rfl)) d_Mo_covers_41 ⟨Nat.le_of_ble_eq_true rfl, Nat.le_of_ble_eq_true rfl⟩)) (fun r_7 er_7 => ?_)
        have er_7 : r_7 = f_Mo_owns mpf ix 2 0 xx yy := er_7
        refine lv_if_eq (tgt := 63) hx hb d_Mo_covers_44 (by decide) (fun c_8 => ?_) (fun c_8 => ?_)
        · have c_8 : r_7 = 0 := c_8
          refine lv_iconst (v := 0) hx hb d_Mo_covers_63 (by decide) ?_
          subst er_1
          subst er_3
          subst er_5
          subst er_7
          exact W.zret (v := 0) hx hb hr (by decide) (fun t ht hW => ⟨_, rfl, by rw [f_Mo_coversI, if_neg c_2, if_neg c_4, if_neg c_6, if_pos c_8], ht⟩) (fun q h => by cases h) d_Mo_covers_64
        · have c_8 : ¬ (r_7 = 0) := c_8
          refine lv_aload_n hx hb d_Mo_covers_47 rfl (lv_at hl 0 rfl) ?_
          refine lv_iload_n hx hb d_Mo_covers_48 rfl (lv_at hl 1 rfl) ?_
          refine lv_iconst (v := 0) hx hb d_Mo_covers_49 (by decide) ?_
          refine lv_iconst (v := 1) hx hb d_Mo_covers_50 (by decide) ?_
          refine lv_iload_n hx hb d_Mo_covers_51 rfl (lv_at hl 2 rfl) ?_
          refine lv_iload_n hx hb d_Mo_covers_52 rfl (lv_at hl 3 rfl) ?_
          have hPc := hP
          refine vp_callSi (va_Run.run (va_runV (As := [.int (nI ix), .int (nI 0), .int (nI 1), .int xx, .int yy]) (rest := []) ⟨hx, hb, hml, hown, hts⟩ (c_Mo_owns l dC dI cJ cI mo wi hi fo mt mr ma mx mn mp mq ct mtf mrf mxf mpf mqf ix 0 1 xx yy (by omega) (by omega) (by omega)) (cwV 5 hts (gd_V wd_328 wd_329 wd_29 wd_37 wd_330) rfl rfl rfl (by decide +kernel) ⟨Nat.le_of_ble_eq_true rfl, Nat.le_of_ble_eq_true rfl⟩) ⟨fb_ro, va_recv hK hPc (ci := 3) (q0 := 0) rfl rfl, pre_ro hK hN hPc⟩ rfl rfl hl.1 rfl (lv_room (Nat.le_of_ble_eq_true rfl)) d_Mo_covers_53 ⟨Nat.le_of_ble_eq_true rfl, Nat.le_of_ble_eq_true rfl⟩)) (fun r_9 er_9 => ?_)
          have er_9 : r_9 = f_Mo_owns mpf ix 0 1 xx yy := er_9
          refine lv_if_eq (tgt := 63) hx hb d_Mo_covers_56 (by decide) (fun c_10 => ?_) (fun c_10 => ?_)
          · have c_10 : r_9 = 0 := c_10
            refine lv_iconst (v := 0) hx hb d_Mo_covers_63 (by decide) ?_
            subst er_1
            subst er_3
            subst er_5
            subst er_7
            subst er_9
            exact W.zret (v := 0) hx hb hr (by decide) (fun t ht hW => ⟨_, rfl, by rw [f_Mo_coversI, if_neg c_2, if_neg c_4, if_neg c_6, if_neg c_8, if_pos c_10], ht⟩) (fun q h => by cases h) d_Mo_covers_64
          · have c_10 : ¬ (r_9 = 0) := c_10
            refine lv_iconst (v := 1) hx hb d_Mo_covers_59 (by decide) ?_
            refine lv_goto (tgt := 64) hx hb d_Mo_covers_60 (by decide) ?_
            subst er_1
            subst er_3
            subst er_5
            subst er_7
            subst er_9
            exact W.zret (v := 1) hx hb hr (by decide) (fun t ht hW => ⟨_, rfl, by rw [f_Mo_coversI, if_neg c_2, if_neg c_4, if_neg c_6, if_neg c_8, if_neg c_10], ht⟩) (fun q h => by cases h) d_Mo_covers_64
def f_Mo_coversO : Int32 := 0
set_option maxHeartbeats 4000000 in
set_option maxRecDepth 100000 in
theorem c_Mo_coversO (l : Launch) (dC : Nat → ClassId) (dI : Nat → Nat → Nat) (cJ cI : ClassId) (mo : Nat) (wi : Int32) (hi : Int32) (fo : Int32) (mt : Nat) (mr : Nat) (ma : Int32) (mx : Nat) (mn : Int32) (mp : Nat) (mq : Nat) (ct : Nat) (mtf : Nat → Int64) (mrf : Nat → Int64) (mxf : Nat → Int64) (mpf : Nat → Int64) (mqf : Nat → Int64) (ix : Int32) (xx : Int32) (yy : Int32) (ho9 : f_Mo_within ix 0 (nI ct - 1) = 0) : Met l y_Mo_covers w_Mo_covers ({ frames := 2, cells := 0, slots := 0, locals := 56 } : Room) (rq_ro (dC, dI) cJ cI [.ref mo, .int ix, .int xx, .int yy] [(mo, .inr (3, [.int 0, .int wi, .int hi, .int fo, .ref mt, .ref mr, .int ma, .ref mx, .int mn, .ref mp, .ref mq, .int (nI ct)])), (mt, .inl (cJ, 18, .inr (.inl mtf))), (mr, .inl (cJ, 120, .inr (.inl mrf))), (mx, .inl (cJ, 120, .inr (.inl mxf))), (mp, .inl (cJ, 324, .inr (.inl mpf))), (mq, .inl (cJ, 18, .inr (.inl mqf)))]) (vp_Si (fun r => r = f_Mo_coversO)) 0 0 (fun _ => False) := by
  refine Met.ofW (cc := b_Mo_covers) (maxL := 4) (ret := (some .boolean)) (by decide) rfl ?_
  intro p e s m args below meth c s₁ B hml hv
  obtain ⟨rfl, hP, hK, hN⟩ := hv
  have hx := B.exec
  have hb := B.bytes
  have hr := B.returns
  have hts := atoms_spec (ws := w_Mo_covers) B.pre
  have hown : s.vm.findClass R_Mo = some m.cls := findClass_of_methodNamed B.named
  have hlocks := B.notSynchronized
  have hl := lv_entry ([.ref mo, .int ix, .int xx, .int yy]) (n := 4) (Nat.le_of_ble_eq_true rfl)
  rw [lg_entry_eq]
  generalize (lg_sl ([.ref mo, .int ix, .int xx, .int yy]) ++ List.replicate (4 - (lg_sl ([.ref mo, .int ix, .int xx, .int yy])).length) Slot.unset).toArray = ls at hl ⊢
  have hl : lv_has ls 4 [(0, .ref mo), (1, .int ix), (2, .int xx), (3, .int yy)] := hl
  refine lv_iload_n hx hb d_Mo_covers_0 rfl (lv_at hl 1 rfl) ?_
  refine lv_iconst (v := 0) hx hb d_Mo_covers_1 (by decide) ?_
  refine lv_aload_n hx hb d_Mo_covers_2 rfl (lv_at hl 0 rfl) ?_
  refine va_get (D := (dC, dI)) (ci := 3) (v := .int (nI ct)) (C := R_Mo) (T := F_Mo) (N := 12) hx hb hts (fun w h => mw (i_Mo w h)) hown hK hP 0 rfl rfl 11 (by decide) (hts _ (mw wd_248)) (fun _ h9 => h9) rfl d_Mo_covers_3 ?_
  refine lv_iconst (v := 1) hx hb d_Mo_covers_6 (by decide) ?_
  refine lv_isub hx hb d_Mo_covers_7 ?_
  refine vp_callSi (va_Run.run (va_runS (As := [.int ix, .int 0, .int ((nI ct) - 1)]) (rest := []) ⟨hx, hb, hml, hown, hts⟩ (c_Mo_within l dC dI cJ cI ix 0 ((nI ct) - 1)) (va_cwS 3 hts (gd_S wd_265 wd_266 wd_37 wd_267) rfl rfl rfl (by decide +kernel) ⟨Nat.le_of_ble_eq_true rfl, Nat.le_of_ble_eq_true rfl⟩) ⟨fb_ro, pre_ro hK hN va_nil⟩ rfl rfl hl.1 rfl (lv_room (Nat.le_of_ble_eq_true rfl)) d_Mo_covers_8 ⟨Nat.le_of_ble_eq_true rfl, Nat.le_of_ble_eq_true rfl⟩)) (fun r_1 er_1 => ?_)
  have er_1 : r_1 = f_Mo_within ix 0 ((nI ct) - 1) := er_1
  refine lv_if_eq (tgt := 63) hx hb d_Mo_covers_11 (by decide) (fun c_2 => ?_) (fun c_2 => absurd (by rw [er_1]; exact ho9) c_2)
  refine lv_iconst (v := 0) hx hb d_Mo_covers_63 (by decide) ?_
  subst er_1
  exact W.zret (v := 0) hx hb hr (by decide) (fun t ht hW => ⟨_, rfl, rfl, ht⟩) (fun q h => by cases h) d_Mo_covers_64
