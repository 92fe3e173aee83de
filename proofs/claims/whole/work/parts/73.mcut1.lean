set_option maxHeartbeats 4000000 in
set_option maxRecDepth 100000 in
theorem k_Mo_div (l : Launch) (dC : Nat → ClassId) (dI : Nat → Nat → Nat) (cJ cI : ClassId) (xx : Int64) (yy : Int64) (hz : ¬ yy = 0) : Met l y_Mo_div w_Mo_div ({ frames := 0, cells := 0, slots := 0, locals := 0 } : Room) (rq_ro (dC, dI) cJ cI [.long xx, .long yy] []) (vp_Sl (fun r => r = pu_div xx yy)) 0 0 (fun _ => False) := by
  have h := c_Mo_div l dC dI cJ cI xx yy hz
  rw [mo_div] at h
  exact h
set_option maxHeartbeats 4000000 in
set_option maxRecDepth 100000 in
theorem k_Mo_number2 (l : Launch) (dC : Nat → ClassId) (dI : Nat → Nat → Nat) (cJ cI : ClassId) (mo : Nat) (wi : Int32) (hi : Int32) (fo : Int32) (mt : Nat) (mr : Nat) (ma : Int32) (mx : Nat) (mn : Int32) (mp : Nat) (mq : Nat) (ct : Nat) (mtf : Nat → Int64) (mrf : Nat → Int64) (mxf : Nat → Int64) (mpf : Nat → Int64) (mqf : Nat → Int64) (sd : Nat) (ci : Nat) (hs9 : sd < 5) (hc9 : ci < 20) : Met l y_Mo_number2 w_Mo_number2 ({ frames := 0, cells := 0, slots := 0, locals := 0 } : Room) (rq_ro (dC, dI) cJ cI [.ref mo, .int (nI sd), .int (nI ci)] [(mo, .inr (3, [.int 0, .int wi, .int hi, .int fo, .ref mt, .ref mr, .int ma, .ref mx, .int mn, .ref mp, .ref mq, .int (nI ct)])), (mt, .inl (cJ, 18, .inr (.inl mtf))), (mr, .inl (cJ, 120, .inr (.inl mrf))), (mx, .inl (cJ, 120, .inr (.inl mxf))), (mp, .inl (cJ, 324, .inr (.inl mpf))), (mq, .inl (cJ, 18, .inr (.inl mqf)))]) (vp_Sl (fun r => r = pu_side fo wi hi sd mrf ci)) 0 0 (fun _ => False) := by
  have h := c_Mo_number2 l dC dI cJ cI mo wi hi fo mt mr ma mx mn mp mq ct mtf mrf mxf mpf mqf (nI sd) ci hc9
  rw [mc_side hs9] at h
  exact h
set_option maxHeartbeats 4000000 in
set_option maxRecDepth 100000 in
theorem c_Mo_between (l : Launch) (dC : Nat → ClassId) (dI : Nat → Nat → Nat) (cJ cI : ClassId) (sz : Nat) (mo : Nat) (wi : Int32) (hi : Int32) (fo : Int32) (mt : Nat) (mr : Nat) (ma : Int32) (mx : Nat) (nn : Nat) (mp : Nat) (mq : Nat) (ct : Nat) (mtf : Nat → Int64) (mrf : Nat → Int64) (mxf : Nat → Int64) (mpf : Nat → Int64) (mqf : Nat → Int64) (pp : Nat) (va : Int64) (qq : Nat) (vb : Int64) (hp9 : pp < 20) (hq9 : qq < 20) (hn9 : nn < 20) (hd9 : ¬ va - vb = 0) : Met l y_Mo_between w_Mo_between ({ frames := 1, cells := 0, slots := 0, locals := 25 } : Room) (rq_rw (dC, dI) cJ cI sz [.ref mo, .int (nI pp), .long va, .int (nI qq), .long vb] [(mo, .inr (3, [.int 0, .int wi, .int hi, .int fo, .ref mt, .ref mr, .int ma, .ref mx, .int (nI nn), .ref mp, .ref mq, .int (nI ct)])), (mt, .inl (cJ, 18, .inr (.inl mtf))), (mr, .inl (cJ, 120, .inr (.inl mrf))), (mx, .inl (cJ, 120, .inr (.inl mxf))), (mp, .inl (cJ, 324, .inr (.inl mpf))), (mq, .inl (cJ, 18, .inr (.inl mqf)))]) (va_Qv (fun _ : Unit => True) (rz (dC, dI) (va_A [(mo, .inr (3, [.int 0, .int wi, .int hi, .int fo, .ref mt, .ref mr, .int ma, .ref mx, .int (nI nn), .ref mp, .ref mq, .int (nI ct)])), (mt, .inl (cJ, 18, .inr (.inl mtf))), (mr, .inl (cJ, 120, .inr (.inl mrf))), (mx, .inl (cJ, 120, .inr (.inl mxf))), (mp, .inl (cJ, 324, .inr (.inl mpf))), (mq, .inl (cJ, 18, .inr (.inl mqf)))] sz) [(mo, .inr (3, [.int 0, .int wi, .int hi, .int fo, .ref mt, .ref mr, .int ma, .ref mx, .int (nI (nn + 1)), .ref mp, .ref mq, .int (nI ct)])), (mt, .inl (cJ, 18, .inr (.inl mtf))), (mr, .inl (cJ, 120, .inr (.inl mrf))), (mx, .inl (cJ, 120, .inr (.inl (pu_put mxf nn (fun q9 => pu_btw (mrf (6 * pp + q9)) (mrf (6 * qq + q9)) va vb))))), (mp, .inl (cJ, 324, .inr (.inl mpf))), (mq, .inl (cJ, 18, .inr (.inl mqf)))]) (va_A [(mo, .inr (3, [.int 0, .int wi, .int hi, .int fo, .ref mt, .ref mr, .int ma, .ref mx, .int (nI nn), .ref mp, .ref mq, .int (nI ct)])), (mt, .inl (cJ, 18, .inr (.inl mtf))), (mr, .inl (cJ, 120, .inr (.inl mrf))), (mx, .inl (cJ, 120, .inr (.inl mxf))), (mp, .inl (cJ, 324, .inr (.inl mpf))), (mq, .inl (cJ, 18, .inr (.inl mqf)))] sz)) 0 0 (va_A [(mo, .inr (3, [.int 0, .int wi, .int hi, .int fo, .ref mt, .ref mr, .int ma, .ref mx, .int (nI nn), .ref mp, .ref mq, .int (nI ct)])), (mt, .inl (cJ, 18, .inr (.inl mtf))), (mr, .inl (cJ, 120, .inr (.inl mrf))), (mx, .inl (cJ, 120, .inr (.inl mxf))), (mp, .inl (cJ, 324, .inr (.inl mpf))), (mq, .inl (cJ, 18, .inr (.inl mqf)))] sz) := by
  refine Met.ofW (cc := b_Mo_between) (maxL := 8) (ret := none) (by decide) rfl ?_
  intro p e s m args below meth c s₁ B hml hv
  obtain ⟨rfl, hsz, hP, hK, hN, hD0⟩ := hv
  have hx := B.exec
  have hb := B.bytes
  have hr := B.returns
  have hts := atoms_spec (ws := w_Mo_between) B.pre
  have hown : s.vm.findClass R_Mo = some m.cls := findClass_of_methodNamed B.named
  have hlocks := B.notSynchronized
  subst hsz
  have hD := hD0.self (sz := s.heap.size)
  generalize hAe : va_A [(mo, .inr (3, [.int 0, .int wi, .int hi, .int fo, .ref mt, .ref mr, .int ma, .ref mx, .int (nI nn), .ref mp, .ref mq, .int (nI ct)])), (mt, .inl (cJ, 18, .inr (.inl mtf))), (mr, .inl (cJ, 120, .inr (.inl mrf))), (mx, .inl (cJ, 120, .inr (.inl mxf))), (mp, .inl (cJ, 324, .inr (.inl mpf))), (mq, .inl (cJ, 18, .inr (.inl mqf)))] s.heap.size = A at hD ⊢
  have hA : ∀ q : Nat, s.heap.size ≤ q → A q := fun q h => by rw [← hAe]; exact Or.inr h
  have hS : va_S A s.heap s.heap [] := va_S.rf
  have hl := lv_entry ([.ref mo, .int (nI pp), .long va, .int (nI qq), .long vb]) (n := 8) (Nat.le_of_ble_eq_true rfl)
  rw [lg_entry_eq]
  generalize (lg_sl ([.ref mo, .int (nI pp), .long va, .int (nI qq), .long vb]) ++ List.replicate (8 - (lg_sl ([.ref mo, .int (nI pp), .long va, .int (nI qq), .long vb])).length) Slot.unset).toArray = ls at hl ⊢
  have hl : lv_has ls 8 [(0, .ref mo), (1, .int (nI pp)), (2, .long va), (4, .int (nI qq)), (5, .long vb)] := hl
  have hP : va_P (dC, dI) cls4 [(mo, .inr (3, [.int 0, .int wi, .int hi, .int fo, .ref mt, .ref mr, .int ma, .ref mx, .int (nI nn), .ref mp, .ref mq, .int (nI ct)])), (mt, .inl (cJ, 18, .inr (.inl mtf))), (mr, .inl (cJ, 120, .inr (.inl mrf))), (mx, .inl (cJ, 120, .inr (.inl mxf))), (mp, .inl (cJ, 324, .inr (.inl mpf))), (mq, .inl (cJ, 18, .inr (.inl mqf)))] s.heap := hP
  refine lv_iconst (v := 0) hx hb d_Mo_between_0 (by decide) ?_
  refine lv_istore (lv' := [(7, .int 0), (0, .ref mo), (1, .int (nI pp)), (2, .long va), (4, .int (nI qq)), (5, .long vb)]) hx hb d_Mo_between_1 hl (by decide) rfl (fun ls hl => ?_)
  refine lv_iload hx hb d_Mo_between_3 (lv_at hl 0 rfl) ?_
  refine lv_bipush (v := 6) hx hb d_Mo_between_5 (by decide) ?_
  refine lv_icmp_ge (tgt := 79) hx hb d_Mo_between_7 (by decide) (fun c_1 => absurd c_1 (by decide)) (fun _ => ?_)
  refine lv_aload_n hx hb d_Mo_between_10 rfl (lv_at hl 1 rfl) ?_
  refine va_get (D := (dC, dI)) (ci := 3) (v := .ref mx) (C := R_Mo) (T := F_Mo) (N := 12) hx hb hts (fun w h => mw (i_Mo w h)) hown hK hP 0 rfl rfl 7 (by decide) (hts _ (mw wd_244)) (fun _ h9 => h9) rfl d_Mo_between_11 ?_
  refine lv_bipush (v := 6) hx hb d_Mo_between_14 (by decide) ?_
  refine lv_aload_n hx hb d_Mo_between_16 rfl (lv_at hl 1 rfl) ?_
  refine va_get (D := (dC, dI)) (ci := 3) (v := .int (nI nn)) (C := R_Mo) (T := F_Mo) (N := 12) hx hb hts (fun w h => mw (i_Mo w h)) hown hK hP 0 rfl rfl 8 (by decide) (hts _ (mw wd_245)) (fun _ h9 => h9) rfl d_Mo_between_17 ?_
  refine lv_imul hx hb d_Mo_between_20 ?_
  refine lv_topi (fun y_2 ey_2 => ?_)
  have ey_2 : y_2 = nI (6 * nn) := by rw [ey_2]; first | rfl | (simp only [nk_set_0, nk_set_1, nk_set_2, nk_set_3, nk_set_4, nk_set_5, nk_set_6, nk_set_7, nk_set_12, nk_set_13, nk_set_18, pk_mul, nI_add]; done) | (simp only [nk_set_0, nk_set_1, nk_set_2, nk_set_3, nk_set_4, nk_set_5, nk_set_6, nk_set_7, nk_set_12, nk_set_13, nk_set_18, pk_mul, nI_add]; exact congrArg nI (by omega))
  subst ey_2
  refine lv_iload hx hb d_Mo_between_21 (lv_at hl 0 rfl) ?_
  refine lv_iadd hx hb d_Mo_between_23 ?_
  refine lv_topi (fun y_3 ey_3 => ?_)
  have ey_3 : y_3 = nI (6 * nn + 0) := by rw [ey_3]; first | rfl | (simp only [nk_set_0, nk_set_1, nk_set_2, nk_set_3, nk_set_4, nk_set_5, nk_set_6, nk_set_7, nk_set_12, nk_set_13, nk_set_18, pk_mul, nI_add]; done) | (simp only [nk_set_0, nk_set_1, nk_set_2, nk_set_3, nk_set_4, nk_set_5, nk_set_6, nk_set_7, nk_set_12, nk_set_13, nk_set_18, pk_mul, nI_add]; exact congrArg nI (by omega))
  subst ey_3
  refine lv_aload_n hx hb d_Mo_between_24 rfl (lv_at hl 1 rfl) ?_
  refine va_get (D := (dC, dI)) (ci := 3) (v := .ref mr) (C := R_Mo) (T := F_Mo) (N := 12) hx hb hts (fun w h => mw (i_Mo w h)) hown hK hP 0 rfl rfl 5 (by decide) (hts _ (mw wd_242)) (fun _ h9 => h9) rfl d_Mo_between_25 ?_
  refine lv_bipush (v := 6) hx hb d_Mo_between_28 (by decide) ?_
  refine lv_iload_n hx hb d_Mo_between_30 rfl (lv_at hl 2 rfl) ?_
  refine lv_imul hx hb d_Mo_between_31 ?_
  refine lv_topi (fun y_4 ey_4 => ?_)
  have ey_4 : y_4 = nI (6 * pp) := by rw [ey_4]; first | rfl | (simp only [nk_set_0, nk_set_1, nk_set_2, nk_set_3, nk_set_4, nk_set_5, nk_set_6, nk_set_7, nk_set_12, nk_set_13, nk_set_18, pk_mul, nI_add]; done) | (simp only [nk_set_0, nk_set_1, nk_set_2, nk_set_3, nk_set_4, nk_set_5, nk_set_6, nk_set_7, nk_set_12, nk_set_13, nk_set_18, pk_mul, nI_add]; exact congrArg nI (by omega))
  subst ey_4
  refine lv_iload hx hb d_Mo_between_32 (lv_at hl 0 rfl) ?_
  refine lv_iadd hx hb d_Mo_between_34 ?_
  refine lv_topi (fun y_5 ey_5 => ?_)
  have ey_5 : y_5 = nI (6 * pp + 0) := by rw [ey_5]; first | rfl | (simp only [nk_set_0, nk_set_1, nk_set_2, nk_set_3, nk_set_4, nk_set_5, nk_set_6, nk_set_7, nk_set_12, nk_set_13, nk_set_18, pk_mul, nI_add]; done) | (simp only [nk_set_0, nk_set_1, nk_set_2, nk_set_3, nk_set_4, nk_set_5, nk_set_6, nk_set_7, nk_set_12, nk_set_13, nk_set_18, pk_mul, nI_add]; exact congrArg nI (by omega))
  subst ey_5
  have hq_6 : nI (6 * pp + 0) = nI (6 * pp + 0) := by first | rfl | (simp only [nk_set_0, nk_set_1, nk_set_2, nk_set_3, nk_set_4, nk_set_5, nk_set_6, nk_set_7, nk_set_12, nk_set_13, nk_set_18, pk_mul, nI_add]; done) | (simp only [nk_set_0, nk_set_1, nk_set_2, nk_set_3, nk_set_4, nk_set_5, nk_set_6, nk_set_7, nk_set_12, nk_set_13, nk_set_18, pk_mul, nI_add]; exact congrArg nI (by omega))
  have hi_7 : vp_in (nI (6 * pp + 0)) 120 := by rw [hq_6]; exact vp_in_nI (by omega) (by decide)
  refine va_lald hx hb hK hP 2 0 rfl rfl hi_7 d_Mo_between_35 ?_
  refine lv_topl (fun y_8 ey_8 => ?_)
  rw [hq_6, nI_clamp (by omega)] at ey_8
  refine lv_aload_n hx hb d_Mo_between_36 rfl (lv_at hl 1 rfl) ?_
  refine va_get (D := (dC, dI)) (ci := 3) (v := .ref mr) (C := R_Mo) (T := F_Mo) (N := 12) hx hb hts (fun w h => mw (i_Mo w h)) hown hK hP 0 rfl rfl 5 (by decide) (hts _ (mw wd_242)) (fun _ h9 => h9) rfl d_Mo_between_37 ?_
  refine lv_bipush (v := 6) hx hb d_Mo_between_40 (by decide) ?_
  refine lv_iload hx hb d_Mo_between_42 (lv_at hl 4 rfl) ?_
  refine lv_imul hx hb d_Mo_between_44 ?_
  refine lv_topi (fun y_9 ey_9 => ?_)
  have ey_9 : y_9 = nI (6 * qq) := by rw [ey_9]; first | rfl | (simp only [nk_set_0, nk_set_1, nk_set_2, nk_set_3, nk_set_4, nk_set_5, nk_set_6, nk_set_7, nk_set_12, nk_set_13, nk_set_18, pk_mul, nI_add]; done) | (simp only [nk_set_0, nk_set_1, nk_set_2, nk_set_3, nk_set_4, nk_set_5, nk_set_6, nk_set_7, nk_set_12, nk_set_13, nk_set_18, pk_mul, nI_add]; exact congrArg nI (by omega))
  subst ey_9
  refine lv_iload hx hb d_Mo_between_45 (lv_at hl 0 rfl) ?_
  refine lv_iadd hx hb d_Mo_between_47 ?_
  refine lv_topi (fun y_10 ey_10 => ?_)
  have ey_10 : y_10 = nI (6 * qq + 0) := by rw [ey_10]; first | rfl | (simp only [nk_set_0, nk_set_1, nk_set_2, nk_set_3, nk_set_4, nk_set_5, nk_set_6, nk_set_7, nk_set_12, nk_set_13, nk_set_18, pk_mul, nI_add]; done) | (simp only [nk_set_0, nk_set_1, nk_set_2, nk_set_3, nk_set_4, nk_set_5, nk_set_6, nk_set_7, nk_set_12, nk_set_13, nk_set_18, pk_mul, nI_add]; exact congrArg nI (by omega))
  subst ey_10
  have hq_11 : nI (6 * qq + 0) = nI (6 * qq + 0) := by first | rfl | (simp only [nk_set_0, nk_set_1, nk_set_2, nk_set_3, nk_set_4, nk_set_5, nk_set_6, nk_set_7, nk_set_12, nk_set_13, nk_set_18, pk_mul, nI_add]; done) | (simp only [nk_set_0, nk_set_1, nk_set_2, nk_set_3, nk_set_4, nk_set_5, nk_set_6, nk_set_7, nk_set_12, nk_set_13, nk_set_18, pk_mul, nI_add]; exact congrArg nI (by omega))
  have hi_12 : vp_in (nI (6 * qq + 0)) 120 := by rw [hq_11]; exact vp_in_nI (by omega) (by decide)
  refine va_lald hx hb hK hP 2 0 rfl rfl hi_12 d_Mo_between_48 ?_
  refine lv_topl (fun y_13 ey_13 => ?_)
  rw [hq_11, nI_clamp (by omega)] at ey_13
  refine lv_aload_n hx hb d_Mo_between_49 rfl (lv_at hl 1 rfl) ?_
  refine va_get (D := (dC, dI)) (ci := 3) (v := .ref mr) (C := R_Mo) (T := F_Mo) (N := 12) hx hb hts (fun w h => mw (i_Mo w h)) hown hK hP 0 rfl rfl 5 (by decide) (hts _ (mw wd_242)) (fun _ h9 => h9) rfl d_Mo_between_50 ?_
  refine lv_bipush (v := 6) hx hb d_Mo_between_53 (by decide) ?_
  refine lv_iload_n hx hb d_Mo_between_55 rfl (lv_at hl 2 rfl) ?_
  refine lv_imul hx hb d_Mo_between_56 ?_
  refine lv_topi (fun y_14 ey_14 => ?_)
  have ey_14 : y_14 = nI (6 * pp) := by rw [ey_14]; first | rfl | (simp only [nk_set_0, nk_set_1, nk_set_2, nk_set_3, nk_set_4, nk_set_5, nk_set_6, nk_set_7, nk_set_12, nk_set_13, nk_set_18, pk_mul, nI_add]; done) | (simp only [nk_set_0, nk_set_1, nk_set_2, nk_set_3, nk_set_4, nk_set_5, nk_set_6, nk_set_7, nk_set_12, nk_set_13, nk_set_18, pk_mul, nI_add]; exact congrArg nI (by omega))
  subst ey_14
  refine lv_iload hx hb d_Mo_between_57 (lv_at hl 0 rfl) ?_
  refine lv_iadd hx hb d_Mo_between_59 ?_
  refine lv_topi (fun y_15 ey_15 => ?_)
  have ey_15 : y_15 = nI (6 * pp + 0) := by rw [ey_15]; first | rfl | (simp only [nk_set_0, nk_set_1, nk_set_2, nk_set_3, nk_set_4, nk_set_5, nk_set_6, nk_set_7, nk_set_12, nk_set_13, nk_set_18, pk_mul, nI_add]; done) | (simp only [nk_set_0, nk_set_1, nk_set_2, nk_set_3, nk_set_4, nk_set_5, nk_set_6, nk_set_7, nk_set_12, nk_set_13, nk_set_18, pk_mul, nI_add]; exact congrArg nI (by omega))
  subst ey_15
  have hq_16 : nI (6 * pp + 0) = nI (6 * pp + 0) := by first | rfl | (simp only [nk_set_0, nk_set_1, nk_set_2, nk_set_3, nk_set_4, nk_set_5, nk_set_6, nk_set_7, nk_set_12, nk_set_13, nk_set_18, pk_mul, nI_add]; done) | (simp only [nk_set_0, nk_set_1, nk_set_2, nk_set_3, nk_set_4, nk_set_5, nk_set_6, nk_set_7, nk_set_12, nk_set_13, nk_set_18, pk_mul, nI_add]; exact congrArg nI (by omega))
  have hi_17 : vp_in (nI (6 * pp + 0)) 120 := by rw [hq_16]; exact vp_in_nI (by omega) (by decide)
  refine va_lald hx hb hK hP 2 0 rfl rfl hi_17 d_Mo_between_60 ?_
  refine lv_topl (fun y_18 ey_18 => ?_)
  rw [hq_16, nI_clamp (by omega)] at ey_18
  refine lv_lsub hx hb d_Mo_between_61 ?_
  refine lv_lload_n hx hb d_Mo_between_62 rfl (lv_at hl 3 rfl) ?_
  refine lv_lmul hx hb d_Mo_between_63 ?_
  refine lv_lload_n hx hb d_Mo_between_64 rfl (lv_at hl 3 rfl) ?_
  refine lv_lload hx hb d_Mo_between_65 (lv_at hl 5 rfl) ?_
  refine lv_lsub hx hb d_Mo_between_67 ?_
  refine vp_callSl (va_Run.run (va_runS (As := [.long ((y_13 - y_18) * va), .long (va - vb)]) (rest := [.long y_8, .int (nI (6 * nn + 0)), .ref mx]) ⟨hx, hb, hml, hown, hts⟩ (k_Mo_div l dC dI cJ cI ((y_13 - y_18) * va) (va - vb) hd9) (va_cwS 2 hts (gd_S wd_298 wd_299 wd_37 wd_300) rfl rfl rfl (by decide +kernel) ⟨Nat.le_of_ble_eq_true rfl, Nat.le_of_ble_eq_true rfl⟩) ⟨fb_ro, pre_ro hK hN va_nil⟩ rfl rfl hl.1 rfl (lv_room (Nat.le_of_ble_eq_true rfl)) d_Mo_between_68 ⟨Nat.le_of_ble_eq_true rfl, Nat.le_of_ble_eq_true rfl⟩)) (fun r_19 er_19 => ?_)
  have er_19 : r_19 = pu_div ((y_13 - y_18) * va) (va - vb) := er_19
  refine lv_ladd hx hb d_Mo_between_71 ?_
  refine lv_topl (fun y_20 ey_20 => ?_)
  have hq_21 : nI (6 * nn + 0) = nI (6 * nn + 0) := by first | rfl | (simp only [nk_set_0, nk_set_1, nk_set_2, nk_set_3, nk_set_4, nk_set_5, nk_set_6, nk_set_7, nk_set_12, nk_set_13, nk_set_18, pk_mul, nI_add]; done) | (simp only [nk_set_0, nk_set_1, nk_set_2, nk_set_3, nk_set_4, nk_set_5, nk_set_6, nk_set_7, nk_set_12, nk_set_13, nk_set_18, pk_mul, nI_add]; exact congrArg nI (by omega))
  have hi_22 : vp_in (nI (6 * nn + 0)) 120 := by rw [hq_21]; exact vp_in_nI (by omega) (by decide)
  refine va_last hx hb hK hP hD hS 3 0 rfl rfl hi_22 d_Mo_between_72 (fun H locs hP hD hS => ?_)
  rw [hq_21, nI_clamp (by omega)] at hP hD
  have hP : va_P (dC, dI) cls4 [(mo, .inr (3, [.int 0, .int wi, .int hi, .int fo, .ref mt, .ref mr, .int ma, .ref mx, .int (nI nn), .ref mp, .ref mq, .int (nI ct)])), (mt, .inl (cJ, 18, .inr (.inl mtf))), (mr, .inl (cJ, 120, .inr (.inl mrf))), (mx, .inl (cJ, 120, .inr (.inl (vp_updL mxf (6 * nn + 0) y_20)))), (mp, .inl (cJ, 324, .inr (.inl mpf))), (mq, .inl (cJ, 18, .inr (.inl mqf)))] H := hP
  have hD : va_D A [(mo, .inr (3, [.int 0, .int wi, .int hi, .int fo, .ref mt, .ref mr, .int ma, .ref mx, .int (nI nn), .ref mp, .ref mq, .int (nI ct)])), (mt, .inl (cJ, 18, .inr (.inl mtf))), (mr, .inl (cJ, 120, .inr (.inl mrf))), (mx, .inl (cJ, 120, .inr (.inl (vp_updL mxf (6 * nn + 0) y_20)))), (mp, .inl (cJ, 324, .inr (.inl mpf))), (mq, .inl (cJ, 18, .inr (.inl mqf)))] := hD
  refine lv_iinc (v := 1) (lv' := [(7, .int 1), (0, .ref mo), (1, .int (nI pp)), (2, .long va), (4, .int (nI qq)), (5, .long vb)]) hx hb d_Mo_between_73 hl (k := 0) rfl (by decide) (by decide) rfl (fun ls hl => ?_)
  refine lv_goto (tgt := 3) hx hb d_Mo_between_76 (by decide) ?_
  refine lv_iload hx hb d_Mo_between_3 (lv_at hl 0 rfl) ?_
  refine lv_bipush (v := 6) hx hb d_Mo_between_5 (by decide) ?_
  refine lv_icmp_ge (tgt := 79) hx hb d_Mo_between_7 (by decide) (fun c_23 => absurd c_23 (by decide)) (fun _ => ?_)
  refine lv_aload_n hx hb d_Mo_between_10 rfl (lv_at hl 1 rfl) ?_
  refine va_get (D := (dC, dI)) (ci := 3) (v := .ref mx) (C := R_Mo) (T := F_Mo) (N := 12) hx hb hts (fun w h => mw (i_Mo w h)) hown hK hP 0 rfl rfl 7 (by decide) (hts _ (mw wd_244)) (fun _ h9 => h9) rfl d_Mo_between_11 ?_
  refine lv_bipush (v := 6) hx hb d_Mo_between_14 (by decide) ?_
  refine lv_aload_n hx hb d_Mo_between_16 rfl (lv_at hl 1 rfl) ?_
  refine va_get (D := (dC, dI)) (ci := 3) (v := .int (nI nn)) (C := R_Mo) (T := F_Mo) (N := 12) hx hb hts (fun w h => mw (i_Mo w h)) hown hK hP 0 rfl rfl 8 (by decide) (hts _ (mw wd_245)) (fun _ h9 => h9) rfl d_Mo_between_17 ?_
  refine lv_imul hx hb d_Mo_between_20 ?_
  refine lv_topi (fun y_24 ey_24 => ?_)
  have ey_24 : y_24 = nI (6 * nn) := by rw [ey_24]; first | rfl | (simp only [nk_set_0, nk_set_1, nk_set_2, nk_set_3, nk_set_4, nk_set_5, nk_set_6, nk_set_7, nk_set_12, nk_set_13, nk_set_18, pk_mul, nI_add]; done) | (simp only [nk_set_0, nk_set_1, nk_set_2, nk_set_3, nk_set_4, nk_set_5, nk_set_6, nk_set_7, nk_set_12, nk_set_13, nk_set_18, pk_mul, nI_add]; exact congrArg nI (by omega))
  subst ey_24
  refine lv_iload hx hb d_Mo_between_21 (lv_at hl 0 rfl) ?_
  refine lv_iadd hx hb d_Mo_between_23 ?_
  refine lv_topi (fun y_25 ey_25 => ?_)
  have ey_25 : y_25 = nI (6 * nn + 1) := by rw [ey_25]; first | rfl | (simp only [nk_set_0, nk_set_1, nk_set_2, nk_set_3, nk_set_4, nk_set_5, nk_set_6, nk_set_7, nk_set_12, nk_set_13, nk_set_18, pk_mul, nI_add]; done) | (simp only [nk_set_0, nk_set_1, nk_set_2, nk_set_3, nk_set_4, nk_set_5, nk_set_6, nk_set_7, nk_set_12, nk_set_13, nk_set_18, pk_mul, nI_add]; exact congrArg nI (by omega))
  subst ey_25
  refine lv_aload_n hx hb d_Mo_between_24 rfl (lv_at hl 1 rfl) ?_
  refine va_get (D := (dC, dI)) (ci := 3) (v := .ref mr) (C := R_Mo) (T := F_Mo) (N := 12) hx hb hts (fun w h => mw (i_Mo w h)) hown hK hP 0 rfl rfl 5 (by decide) (hts _ (mw wd_242)) (fun _ h9 => h9) rfl d_Mo_between_25 ?_
  refine lv_bipush (v := 6) hx hb d_Mo_between_28 (by decide) ?_
  refine lv_iload_n hx hb d_Mo_between_30 rfl (lv_at hl 2 rfl) ?_
  refine lv_imul hx hb d_Mo_between_31 ?_
  refine lv_topi (fun y_26 ey_26 => ?_)
  have ey_26 : y_26 = nI (6 * pp) := by rw [ey_26]; first | rfl | (simp only [nk_set_0, nk_set_1, nk_set_2, nk_set_3, nk_set_4, nk_set_5, nk_set_6, nk_set_7, nk_set_12, nk_set_13, nk_set_18, pk_mul, nI_add]; done) | (simp only [nk_set_0, nk_set_1, nk_set_2, nk_set_3, nk_set_4, nk_set_5, nk_set_6, nk_set_7, nk_set_12, nk_set_13, nk_set_18, pk_mul, nI_add]; exact congrArg nI (by omega))
  subst ey_26
  refine lv_iload hx hb d_Mo_between_32 (lv_at hl 0 rfl) ?_
  refine lv_iadd hx hb d_Mo_between_34 ?_
  refine lv_topi (fun y_27 ey_27 => ?_)
  have ey_27 : y_27 = nI (6 * pp + 1) := by rw [ey_27]; first | rfl | (simp only [nk_set_0, nk_set_1, nk_set_2, nk_set_3, nk_set_4, nk_set_5, nk_set_6, nk_set_7, nk_set_12, nk_set_13, nk_set_18, pk_mul, nI_add]; done) | (simp only [nk_set_0, nk_set_1, nk_set_2, nk_set_3, nk_set_4, nk_set_5, nk_set_6, nk_set_7, nk_set_12, nk_set_13, nk_set_18, pk_mul, nI_add]; exact congrArg nI (by omega))
  subst ey_27
  have hq_28 : nI (6 * pp + 1) = nI (6 * pp + 1) := by first | rfl | (simp only [nk_set_0, nk_set_1, nk_set_2, nk_set_3, nk_set_4, nk_set_5, nk_set_6, nk_set_7, nk_set_12, nk_set_13, nk_set_18, pk_mul, nI_add]; done) | (simp only [nk_set_0, nk_set_1, nk_set_2, nk_set_3, nk_set_4, nk_set_5, nk_set_6, nk_set_7, nk_set_12, nk_set_13, nk_set_18, pk_mul, nI_add]; exact congrArg nI (by omega))
  have hi_29 : vp_in (nI (6 * pp + 1)) 120 := by rw [hq_28]; exact vp_in_nI (by omega) (by decide)
  refine va_lald hx hb hK hP 2 0 rfl rfl hi_29 d_Mo_between_35 ?_
  refine lv_topl (fun y_30 ey_30 => ?_)
  rw [hq_28, nI_clamp (by omega)] at ey_30
  refine lv_aload_n hx hb d_Mo_between_36 rfl (lv_at hl 1 rfl) ?_
  refine va_get (D := (dC, dI)) (ci := 3) (v := .ref mr) (C := R_Mo) (T := F_Mo) (N := 12) hx hb hts (fun w h => mw (i_Mo w h)) hown hK hP 0 rfl rfl 5 (by decide) (hts _ (mw wd_242)) (fun _ h9 => h9) rfl d_Mo_between_37 ?_
  refine lv_bipush (v := 6) hx hb d_Mo_between_40 (by decide) ?_
  refine lv_iload hx hb d_Mo_between_42 (lv_at hl 4 rfl) ?_
  refine lv_imul hx hb d_Mo_between_44 ?_
  refine lv_topi (fun y_31 ey_31 => ?_)
  have ey_31 : y_31 = nI (6 * qq) := by rw [ey_31]; first | rfl | (simp only [nk_set_0, nk_set_1, nk_set_2, nk_set_3, nk_set_4, nk_set_5, nk_set_6, nk_set_7, nk_set_12, nk_set_13, nk_set_18, pk_mul, nI_add]; done) | (simp only [nk_set_0, nk_set_1, nk_set_2, nk_set_3, nk_set_4, nk_set_5, nk_set_6, nk_set_7, nk_set_12, nk_set_13, nk_set_18, pk_mul, nI_add]; exact congrArg nI (by omega))
  subst ey_31
  refine lv_iload hx hb d_Mo_between_45 (lv_at hl 0 rfl) ?_
  refine lv_iadd hx hb d_Mo_between_47 ?_
  refine lv_topi (fun y_32 ey_32 => ?_)
  have ey_32 : y_32 = nI (6 * qq + 1) := by rw [ey_32]; first | rfl | (simp only [nk_set_0, nk_set_1, nk_set_2, nk_set_3, nk_set_4, nk_set_5, nk_set_6, nk_set_7, nk_set_12, nk_set_13, nk_set_18, pk_mul, nI_add]; done) | (simp only [nk_set_0, nk_set_1, nk_set_2, nk_set_3, nk_set_4, nk_set_5, nk_set_6, nk_set_7, nk_set_12, nk_set_13, nk_set_18, pk_mul, nI_add]; exact congrArg nI (by omega))
  subst ey_32
  have hq_33 : nI (6 * qq + 1) = nI (6 * qq + 1) := by first | rfl | (simp only [nk_set_0, nk_set_1, nk_set_2, nk_set_3, nk_set_4, nk_set_5, nk_set_6, nk_set_7, nk_set_12, nk_set_13, nk_set_18, pk_mul, nI_add]; done) | (simp only [nk_set_0, nk_set_1, nk_set_2, nk_set_3, nk_set_4, nk_set_5, nk_set_6, nk_set_7, nk_set_12, nk_set_13, nk_set_18, pk_mul, nI_add]; exact congrArg nI (by omega))
  have hi_34 : vp_in (nI (6 * qq + 1)) 120 := by rw [hq_33]; exact vp_in_nI (by omega) (by decide)
  refine va_lald hx hb hK hP 2 0 rfl rfl hi_34 d_Mo_between_48 ?_
  refine lv_topl (fun y_35 ey_35 => ?_)
  rw [hq_33, nI_clamp (by omega)] at ey_35
  refine lv_aload_n hx hb d_Mo_between_49 rfl (lv_at hl 1 rfl) ?_
  refine va_get (D := (dC, dI)) (ci := 3) (v := .ref mr) (C := R_Mo) (T := F_Mo) (N := 12) hx hb hts (fun w h => mw (i_Mo w h)) hown hK hP 0 rfl rfl 5 (by decide) (hts _ (mw wd_242)) (fun _ h9 => h9) rfl d_Mo_between_50 ?_
  refine lv_bipush (v := 6) hx hb d_Mo_between_53 (by decide) ?_
  refine lv_iload_n hx hb d_Mo_between_55 rfl (lv_at hl 2 rfl) ?_
  refine lv_imul hx hb d_Mo_between_56 ?_
  refine lv_topi (fun y_36 ey_36 => ?_)
  have ey_36 : y_36 = nI (6 * pp) := by rw [ey_36]; first | rfl | (simp only [nk_set_0, nk_set_1, nk_set_2, nk_set_3, nk_set_4, nk_set_5, nk_set_6, nk_set_7, nk_set_12, nk_set_13, nk_set_18, pk_mul, nI_add]; done) | (simp only [nk_set_0, nk_set_1, nk_set_2, nk_set_3, nk_set_4, nk_set_5, nk_set_6, nk_set_7, nk_set_12, nk_set_13, nk_set_18, pk_mul, nI_add]; exact congrArg nI (by omega))
  subst ey_36
  refine lv_iload hx hb d_Mo_between_57 (lv_at hl 0 rfl) ?_
  refine lv_iadd hx hb d_Mo_between_59 ?_
  refine lv_topi (fun y_37 ey_37 => ?_)
  have ey_37 : y_37 = nI (6 * pp + 1) := by rw [ey_37]; first | rfl | (simp only [nk_set_0, nk_set_1, nk_set_2, nk_set_3, nk_set_4, nk_set_5, nk_set_6, nk_set_7, nk_set_12, nk_set_13, nk_set_18, pk_mul, nI_add]; done) | (simp only [nk_set_0, nk_set_1, nk_set_2, nk_set_3, nk_set_4, nk_set_5, nk_set_6, nk_set_7, nk_set_12, nk_set_13, nk_set_18, pk_mul, nI_add]; exact congrArg nI (by omega))
  subst ey_37
  have hq_38 : nI (6 * pp + 1) = nI (6 * pp + 1) := by first | rfl | (simp only [nk_set_0, nk_set_1, nk_set_2, nk_set_3, nk_set_4, nk_set_5, nk_set_6, nk_set_7, nk_set_12, nk_set_13, nk_set_18, pk_mul, nI_add]; done) | (simp only [nk_set_0, nk_set_1, nk_set_2, nk_set_3, nk_set_4, nk_set_5, nk_set_6, nk_set_7, nk_set_12, nk_set_13, nk_set_18, pk_mul, nI_add]; exact congrArg nI (by omega))
  have hi_39 : vp_in (nI (6 * pp + 1)) 120 := by rw [hq_38]; exact vp_in_nI (by omega) (by decide)
  refine va_lald hx hb hK hP 2 0 rfl rfl hi_39 d_Mo_between_60 ?_
  refine lv_topl (fun y_40 ey_40 => ?_)
  rw [hq_38, nI_clamp (by omega)] at ey_40
  refine lv_lsub hx hb d_Mo_between_61 ?_
  refine lv_lload_n hx hb d_Mo_between_62 rfl (lv_at hl 3 rfl) ?_
  refine lv_lmul hx hb d_Mo_between_63 ?_
  refine lv_lload_n hx hb d_Mo_between_64 rfl (lv_at hl 3 rfl) ?_
  refine lv_lload hx hb d_Mo_between_65 (lv_at hl 5 rfl) ?_
  refine lv_lsub hx hb d_Mo_between_67 ?_
  refine vp_callSl (va_Run.run (va_runS (As := [.long ((y_35 - y_40) * va), .long (va - vb)]) (rest := [.long y_30, .int (nI (6 * nn + 1)), .ref mx]) ⟨hx, hb, hml, hown, hts⟩ (k_Mo_div l dC dI cJ cI ((y_35 - y_40) * va) (va - vb) hd9) (va_cwS 2 hts (gd_S wd_298 wd_299 wd_37 wd_300) rfl rfl rfl (by decide +kernel) ⟨Nat.le_of_ble_eq_true rfl, Nat.le_of_ble_eq_true rfl⟩) ⟨fb_ro, pre_ro hK hN va_nil⟩ rfl rfl hl.1 rfl (lv_room (Nat.le_of_ble_eq_true rfl)) d_Mo_between_68 ⟨Nat.le_of_ble_eq_true rfl, Nat.le_of_ble_eq_true rfl⟩)) (fun r_41 er_41 => ?_)
  have er_41 : r_41 = pu_div ((y_35 - y_40) * va) (va - vb) := er_41
  refine lv_ladd hx hb d_Mo_between_71 ?_
  refine lv_topl (fun y_42 ey_42 => ?_)
  have hq_43 : nI (6 * nn + 1) = nI (6 * nn + 1) := by first | rfl | (simp only [nk_set_0, nk_set_1, nk_set_2, nk_set_3, nk_set_4, nk_set_5, nk_set_6, nk_set_7, nk_set_12, nk_set_13, nk_set_18, pk_mul, nI_add]; done) | (simp only [nk_set_0, nk_set_1, nk_set_2, nk_set_3, nk_set_4, nk_set_5, nk_set_6, nk_set_7, nk_set_12, nk_set_13, nk_set_18, pk_mul, nI_add]; exact congrArg nI (by omega))
  have hi_44 : vp_in (nI (6 * nn + 1)) 120 := by rw [hq_43]; exact vp_in_nI (by omega) (by decide)
  refine va_last hx hb hK hP hD hS 3 0 rfl rfl hi_44 d_Mo_between_72 (fun H locs hP hD hS => ?_)
  rw [hq_43, nI_clamp (by omega)] at hP hD
  have hP : va_P (dC, dI) cls4 [(mo, .inr (3, [.int 0, .int wi, .int hi, .int fo, .ref mt, .ref mr, .int ma, .ref mx, .int (nI nn), .ref mp, .ref mq, .int (nI ct)])), (mt, .inl (cJ, 18, .inr (.inl mtf))), (mr, .inl (cJ, 120, .inr (.inl mrf))), (mx, .inl (cJ, 120, .inr (.inl (vp_updL (vp_updL mxf (6 * nn + 0) y_20) (6 * nn + 1) y_42)))), (mp, .inl (cJ, 324, .inr (.inl mpf))), (mq, .inl (cJ, 18, .inr (.inl mqf)))] H := hP
  have hD : va_D A [(mo, .inr (3, [.int 0, .int wi, .int hi, .int fo, .ref mt, .ref mr, .int ma, .ref mx, .int (nI nn), .ref mp, .ref mq, .int (nI ct)])), (mt, .inl (cJ, 18, .inr (.inl mtf))), (mr, .inl (cJ, 120, .inr (.inl mrf))), (mx, .inl (cJ, 120, .inr (.inl (vp_updL (vp_updL mxf (6 * nn + 0) y_20) (6 * nn + 1) y_42)))), (mp, .inl (cJ, 324, .inr (.inl mpf))), (mq, .inl (cJ, 18, .inr (.inl mqf)))] := hD
  refine lv_iinc (v := 2) (lv' := [(7, .int 2), (0, .ref mo), (1, .int (nI pp)), (2, .long va), (4, .int (nI qq)), (5, .long vb)]) hx hb d_Mo_between_73 hl (k := 0) rfl (by decide) (by decide) rfl (fun ls hl => ?_)
  refine lv_goto (tgt := 3) hx hb d_Mo_between_76 (by decide) ?_
  refine lv_iload hx hb d_Mo_between_3 (lv_at hl 0 rfl) ?_
  refine lv_bipush (v := 6) hx hb d_Mo_between_5 (by decide) ?_
  refine lv_icmp_ge (tgt := 79) hx hb d_Mo_between_7 (by decide) (fun c_45 => absurd c_45 (by decide)) (fun _ => ?_)
  refine lv_aload_n hx hb d_Mo_between_10 rfl (lv_at hl 1 rfl) ?_
  refine va_get (D := (dC, dI)) (ci := 3) (v := .ref mx) (C := R_Mo) (T := F_Mo) (N := 12) hx hb hts (fun w h => mw (i_Mo w h)) hown hK hP 0 rfl rfl 7 (by decide) (hts _ (mw wd_244)) (fun _ h9 => h9) rfl d_Mo_between_11 ?_
  refine lv_bipush (v := 6) hx hb d_Mo_between_14 (by decide) ?_
  refine lv_aload_n hx hb d_Mo_between_16 rfl (lv_at hl 1 rfl) ?_
  refine va_get (D := (dC, dI)) (ci := 3) (v := .int (nI nn)) (C := R_Mo) (T := F_Mo) (N := 12) hx hb hts (fun w h => mw (i_Mo w h)) hown hK hP 0 rfl rfl 8 (by decide) (hts _ (mw wd_245)) (fun _ h9 => h9) rfl d_Mo_between_17 ?_
  refine lv_imul hx hb d_Mo_between_20 ?_
  refine lv_topi (fun y_46 ey_46 => ?_)
  have ey_46 : y_46 = nI (6 * nn) := by rw [ey_46]; first | rfl | (simp only [nk_set_0, nk_set_1, nk_set_2, nk_set_3, nk_set_4, nk_set_5, nk_set_6, nk_set_7, nk_set_12, nk_set_13, nk_set_18, pk_mul, nI_add]; done) | (simp only [nk_set_0, nk_set_1, nk_set_2, nk_set_3, nk_set_4, nk_set_5, nk_set_6, nk_set_7, nk_set_12, nk_set_13, nk_set_18, pk_mul, nI_add]; exact congrArg nI (by omega))
  subst ey_46
  refine lv_iload hx hb d_Mo_between_21 (lv_at hl 0 rfl) ?_
  refine lv_iadd hx hb d_Mo_between_23 ?_
  refine lv_topi (fun y_47 ey_47 => ?_)
  have ey_47 : y_47 = nI (6 * nn + 2) := by rw [ey_47]; first | rfl | (simp only [nk_set_0, nk_set_1, nk_set_2, nk_set_3, nk_set_4, nk_set_5, nk_set_6, nk_set_7, nk_set_12, nk_set_13, nk_set_18, pk_mul, nI_add]; done) | (simp only [nk_set_0, nk_set_1, nk_set_2, nk_set_3, nk_set_4, nk_set_5, nk_set_6, nk_set_7, nk_set_12, nk_set_13, nk_set_18, pk_mul, nI_add]; exact congrArg nI (by omega))
  subst ey_47
  refine lv_aload_n hx hb d_Mo_between_24 rfl (lv_at hl 1 rfl) ?_
  refine va_get (D := (dC, dI)) (ci := 3) (v := .ref mr) (C := R_Mo) (T := F_Mo) (N := 12) hx hb hts (fun w h => mw (i_Mo w h)) hown hK hP 0 rfl rfl 5 (by decide) (hts _ (mw wd_242)) (fun _ h9 => h9) rfl d_Mo_between_25 ?_
  refine lv_bipush (v := 6) hx hb d_Mo_between_28 (by decide) ?_
  refine lv_iload_n hx hb d_Mo_between_30 rfl (lv_at hl 2 rfl) ?_
  refine lv_imul hx hb d_Mo_between_31 ?_
  refine lv_topi (fun y_48 ey_48 => ?_)
  have ey_48 : y_48 = nI (6 * pp) := by rw [ey_48]; first | rfl | (simp only [nk_set_0, nk_set_1, nk_set_2, nk_set_3, nk_set_4, nk_set_5, nk_set_6, nk_set_7, nk_set_12, nk_set_13, nk_set_18, pk_mul, nI_add]; done) | (simp only [nk_set_0, nk_set_1, nk_set_2, nk_set_3, nk_set_4, nk_set_5, nk_set_6, nk_set_7, nk_set_12, nk_set_13, nk_set_18, pk_mul, nI_add]; exact congrArg nI (by omega))
  subst ey_48
  refine lv_iload hx hb d_Mo_between_32 (lv_at hl 0 rfl) ?_
  refine lv_iadd hx hb d_Mo_between_34 ?_
  refine lv_topi (fun y_49 ey_49 => ?_)
  have ey_49 : y_49 = nI (6 * pp + 2) := by rw [ey_49]; first | rfl | (simp only [nk_set_0, nk_set_1, nk_set_2, nk_set_3, nk_set_4, nk_set_5, nk_set_6, nk_set_7, nk_set_12, nk_set_13, nk_set_18, pk_mul, nI_add]; done) | (simp only [nk_set_0, nk_set_1, nk_set_2, nk_set_3, nk_set_4, nk_set_5, nk_set_6, nk_set_7, nk_set_12, nk_set_13, nk_set_18, pk_mul, nI_add]; exact congrArg nI (by omega))
  subst ey_49
  have hq_50 : nI (6 * pp + 2) = nI (6 * pp + 2) := by first | rfl | (simp only [nk_set_0, nk_set_1, nk_set_2, nk_set_3, nk_set_4, nk_set_5, nk_set_6, nk_set_7, nk_set_12, nk_set_13, nk_set_18, pk_mul, nI_add]; done) | (simp only [nk_set_0, nk_set_1, nk_set_2, nk_set_3, nk_set_4, nk_set_5, nk_set_6, nk_set_7, nk_set_12, nk_set_13, nk_set_18, pk_mul, nI_add]; exact congrArg nI (by omega))
  have hi_51 : vp_in (nI (6 * pp + 2)) 120 := by rw [hq_50]; exact vp_in_nI (by omega) (by decide)
  refine va_lald hx hb hK hP 2 0 rfl rfl hi_51 d_Mo_between_35 ?_
  refine lv_topl (fun y_52 ey_52 => ?_)
  rw [hq_50, nI_clamp (by omega)] at ey_52
  refine lv_aload_n hx hb d_Mo_between_36 rfl (lv_at hl 1 rfl) ?_
  refine va_get (D := (dC, dI)) (ci := 3) (v := .ref mr) (C := R_Mo) (T := F_Mo) (N := 12) hx hb hts (fun w h => mw (i_Mo w h)) hown hK hP 0 rfl rfl 5 (by decide) (hts _ (mw wd_242)) (fun _ h9 => h9) rfl d_Mo_between_37 ?_
  refine lv_bipush (v := 6) hx hb d_Mo_between_40 (by decide) ?_
  refine lv_iload hx hb d_Mo_between_42 (lv_at hl 4 rfl) ?_
  refine lv_imul hx hb d_Mo_between_44 ?_
  refine lv_topi (fun y_53 ey_53 => ?_)
  have ey_53 : y_53 = nI (6 * qq) := by rw [ey_53]; first | rfl | (simp only [nk_set_0, nk_set_1, nk_set_2, nk_set_3, nk_set_4, nk_set_5, nk_set_6, nk_set_7, nk_set_12, nk_set_13, nk_set_18, pk_mul, nI_add]; done) | (simp only [nk_set_0, nk_set_1, nk_set_2, nk_set_3, nk_set_4, nk_set_5, nk_set_6, nk_set_7, nk_set_12, nk_set_13, nk_set_18, pk_mul, nI_add]; exact congrArg nI (by omega))
  subst ey_53
  refine lv_iload hx hb d_Mo_between_45 (lv_at hl 0 rfl) ?_
  refine lv_iadd hx hb d_Mo_between_47 ?_
  refine lv_topi (fun y_54 ey_54 => ?_)
  have ey_54 : y_54 = nI (6 * qq + 2) := by rw [ey_54]; first | rfl | (simp only [nk_set_0, nk_set_1, nk_set_2, nk_set_3, nk_set_4, nk_set_5, nk_set_6, nk_set_7, nk_set_12, nk_set_13, nk_set_18, pk_mul, nI_add]; done) | (simp only [nk_set_0, nk_set_1, nk_set_2, nk_set_3, nk_set_4, nk_set_5, nk_set_6, nk_set_7, nk_set_12, nk_set_13, nk_set_18, pk_mul, nI_add]; exact congrArg nI (by omega))
  subst ey_54
  have hq_55 : nI (6 * qq + 2) = nI (6 * qq + 2) := by first | rfl | (simp only [nk_set_0, nk_set_1, nk_set_2, nk_set_3, nk_set_4, nk_set_5, nk_set_6, nk_set_7, nk_set_12, nk_set_13, nk_set_18, pk_mul, nI_add]; done) | (simp only [nk_set_0, nk_set_1, nk_set_2, nk_set_3, nk_set_4, nk_set_5, nk_set_6, nk_set_7, nk_set_12, nk_set_13, nk_set_18, pk_mul, nI_add]; exact congrArg nI (by omega))
  have hi_56 : vp_in (nI (6 * qq + 2)) 120 := by rw [hq_55]; exact vp_in_nI (by omega) (by decide)
  refine va_lald hx hb hK hP 2 0 rfl rfl hi_56 d_Mo_between_48 ?_
  refine lv_topl (fun y_57 ey_57 => ?_)
  rw [hq_55, nI_clamp (by omega)] at ey_57
  refine lv_aload_n hx hb d_Mo_between_49 rfl (lv_at hl 1 rfl) ?_
  refine va_get (D := (dC, dI)) (ci := 3) (v := .ref mr) (C := R_Mo) (T := F_Mo) (N := 12) hx hb hts (fun w h => mw (i_Mo w h)) hown hK hP 0 rfl rfl 5 (by decide) (hts _ (mw wd_242)) (fun _ h9 => h9) rfl d_Mo_between_50 ?_
  refine lv_bipush (v := 6) hx hb d_Mo_between_53 (by decide) ?_
  refine lv_iload_n hx hb d_Mo_between_55 rfl (lv_at hl 2 rfl) ?_
  refine lv_imul hx hb d_Mo_between_56 ?_
  refine lv_topi (fun y_58 ey_58 => ?_)
  have ey_58 : y_58 = nI (6 * pp) := by rw [ey_58]; first | rfl | (simp only [nk_set_0, nk_set_1, nk_set_2, nk_set_3, nk_set_4, nk_set_5, nk_set_6, nk_set_7, nk_set_12, nk_set_13, nk_set_18, pk_mul, nI_add]; done) | (simp only [nk_set_0, nk_set_1, nk_set_2, nk_set_3, nk_set_4, nk_set_5, nk_set_6, nk_set_7, nk_set_12, nk_set_13, nk_set_18, pk_mul, nI_add]; exact congrArg nI (by omega))
  subst ey_58
  refine lv_iload hx hb d_Mo_between_57 (lv_at hl 0 rfl) ?_
  refine lv_iadd hx hb d_Mo_between_59 ?_
  refine lv_topi (fun y_59 ey_59 => ?_)
  have ey_59 : y_59 = nI (6 * pp + 2) := by rw [ey_59]; first | rfl | (simp only [nk_set_0, nk_set_1, nk_set_2, nk_set_3, nk_set_4, nk_set_5, nk_set_6, nk_set_7, nk_set_12, nk_set_13, nk_set_18, pk_mul, nI_add]; done) | (simp only [nk_set_0, nk_set_1, nk_set_2, nk_set_3, nk_set_4, nk_set_5, nk_set_6, nk_set_7, nk_set_12, nk_set_13, nk_set_18, pk_mul, nI_add]; exact congrArg nI (by omega))
  subst ey_59
  have hq_60 : nI (6 * pp + 2) = nI (6 * pp + 2) := by first | rfl | (simp only [nk_set_0, nk_set_1, nk_set_2, nk_set_3, nk_set_4, nk_set_5, nk_set_6, nk_set_7, nk_set_12, nk_set_13, nk_set_18, pk_mul, nI_add]; done) | (simp only [nk_set_0, nk_set_1, nk_set_2, nk_set_3, nk_set_4, nk_set_5, nk_set_6, nk_set_7, nk_set_12, nk_set_13, nk_set_18, pk_mul, nI_add]; exact congrArg nI (by omega))
  have hi_61 : vp_in (nI (6 * pp + 2)) 120 := by rw [hq_60]; exact vp_in_nI (by omega) (by decide)
  refine va_lald hx hb hK hP 2 0 rfl rfl hi_61 d_Mo_between_60 ?_
  refine lv_topl (fun y_62 ey_62 => ?_)
  rw [hq_60, nI_clamp (by omega)] at ey_62
  refine lv_lsub hx hb d_Mo_between_61 ?_
  refine lv_lload_n hx hb d_Mo_between_62 rfl (lv_at hl 3 rfl) ?_
  refine lv_lmul hx hb d_Mo_between_63 ?_
  refine lv_lload_n hx hb d_Mo_between_64 rfl (lv_at hl 3 rfl) ?_
  refine lv_lload hx hb d_Mo_between_65 (lv_at hl 5 rfl) ?_
  refine lv_lsub hx hb d_Mo_between_67 ?_
  refine vp_callSl (va_Run.run (va_runS (As := [.long ((y_57 - y_62) * va), .long (va - vb)]) (rest := [.long y_52, .int (nI (6 * nn + 2)), .ref mx]) ⟨hx, hb, hml, hown, hts⟩ (k_Mo_div l dC dI cJ cI ((y_57 - y_62) * va) (va - vb) hd9) (va_cwS 2 hts (gd_S wd_298 wd_299 wd_37 wd_300) rfl rfl rfl (by decide +kernel) ⟨Nat.le_of_ble_eq_true rfl, Nat.le_of_ble_eq_true rfl⟩) ⟨fb_ro, pre_ro hK hN va_nil⟩ rfl rfl hl.1 rfl (lv_room (Nat.le_of_ble_eq_true rfl)) d_Mo_between_68 ⟨Nat.le_of_ble_eq_true rfl, Nat.le_of_ble_eq_true rfl⟩)) (fun r_63 er_63 => ?_)
  have er_63 : r_63 = pu_div ((y_57 - y_62) * va) (va - vb) := er_63
  refine lv_ladd hx hb d_Mo_between_71 ?_
  refine lv_topl (fun y_64 ey_64 => ?_)
  have hq_65 : nI (6 * nn + 2) = nI (6 * nn + 2) := by first | rfl | (simp only [nk_set_0, nk_set_1, nk_set_2, nk_set_3, nk_set_4, nk_set_5, nk_set_6, nk_set_7, nk_set_12, nk_set_13, nk_set_18, pk_mul, nI_add]; done) | (simp only [nk_set_0, nk_set_1, nk_set_2, nk_set_3, nk_set_4, nk_set_5, nk_set_6, nk_set_7, nk_set_12, nk_set_13, nk_set_18, pk_mul, nI_add]; exact congrArg nI (by omega))
  have hi_66 : vp_in (nI (6 * nn + 2)) 120 := by rw [hq_65]; exact vp_in_nI (by omega) (by decide)
  refine va_last hx hb hK hP hD hS 3 0 rfl rfl hi_66 d_Mo_between_72 (fun H locs hP hD hS => ?_)
  rw [hq_65, nI_clamp (by omega)] at hP hD
  have hP : va_P (dC, dI) cls4 [(mo, .inr (3, [.int 0, .int wi, .int hi, .int fo, .ref mt, .ref mr, .int ma, .ref mx, .int (nI nn), .ref mp, .ref mq, .int (nI ct)])), (mt, .inl (cJ, 18, .inr (.inl mtf))), (mr, .inl (cJ, 120, .inr (.inl mrf))), (mx, .inl (cJ, 120, .inr (.inl (vp_updL (vp_updL (vp_updL mxf (6 * nn + 0) y_20) (6 * nn + 1) y_42) (6 * nn + 2) y_64)))), (mp, .inl (cJ, 324, .inr (.inl mpf))), (mq, .inl (cJ, 18, .inr (.inl mqf)))] H := hP
  have hD : va_D A [(mo, .inr (3, [.int 0, .int wi, .int hi, .int fo, .ref mt, .ref mr, .int ma, .ref mx, .int (nI nn), .ref mp, .ref mq, .int (nI ct)])), (mt, .inl (cJ, 18, .inr (.inl mtf))), (mr, .inl (cJ, 120, .inr (.inl mrf))), (mx, .inl (cJ, 120, .inr (.inl (vp_updL (vp_updL (vp_updL mxf (6 * nn + 0) y_20) (6 * nn + 1) y_42) (6 * nn + 2) y_64)))), (mp, .inl (cJ, 324, .inr (.inl mpf))), (mq, .inl (cJ, 18, .inr (.inl mqf)))] := hD
  refine lv_iinc (v := 3) (lv' := [(7, .int 3), (0, .ref mo), (1, .int (nI pp)), (2, .long va), (4, .int (nI qq)), (5, .long vb)]) hx hb d_Mo_between_73 hl (k := 0) rfl (by decide) (by decide) rfl (fun ls hl => ?_)
  refine lv_goto (tgt := 3) hx hb d_Mo_between_76 (by decide) ?_
  refine lv_iload hx hb d_Mo_between_3 (lv_at hl 0 rfl) ?_
  refine lv_bipush (v := 6) hx hb d_Mo_between_5 (by decide) ?_
  refine lv_icmp_ge (tgt := 79) hx hb d_Mo_between_7 (by decide) (fun c_67 => absurd c_67 (by decide)) (fun _ => ?_)
  refine lv_aload_n hx hb d_Mo_between_10 rfl (lv_at hl 1 rfl) ?_
  refine va_get (D := (dC, dI)) (ci := 3) (v := .ref mx) (C := R_Mo) (T := F_Mo) (N := 12) hx hb hts (fun w h => mw (i_Mo w h)) hown hK hP 0 rfl rfl 7 (by decide) (hts _ (mw wd_244)) (fun _ h9 => h9) rfl d_Mo_between_11 ?_
  refine lv_bipush (v := 6) hx hb d_Mo_between_14 (by decide) ?_
  refine lv_aload_n hx hb d_Mo_between_16 rfl (lv_at hl 1 rfl) ?_
  refine va_get (D := (dC, dI)) (ci := 3) (v := .int (nI nn)) (C := R_Mo) (T := F_Mo) (N := 12) hx hb hts (fun w h => mw (i_Mo w h)) hown hK hP 0 rfl rfl 8 (by decide) (hts _ (mw wd_245)) (fun _ h9 => h9) rfl d_Mo_between_17 ?_
  refine lv_imul hx hb d_Mo_between_20 ?_
  refine lv_topi (fun y_68 ey_68 => ?_)
  have ey_68 : y_68 = nI (6 * nn) := by rw [ey_68]; first | rfl | (simp only [nk_set_0, nk_set_1, nk_set_2, nk_set_3, nk_set_4, nk_set_5, nk_set_6, nk_set_7, nk_set_12, nk_set_13, nk_set_18, pk_mul, nI_add]; done) | (simp only [nk_set_0, nk_set_1, nk_set_2, nk_set_3, nk_set_4, nk_set_5, nk_set_6, nk_set_7, nk_set_12, nk_set_13, nk_set_18, pk_mul, nI_add]; exact congrArg nI (by omega))
  subst ey_68
  refine lv_iload hx hb d_Mo_between_21 (lv_at hl 0 rfl) ?_
  refine lv_iadd hx hb d_Mo_between_23 ?_
  refine lv_topi (fun y_69 ey_69 => ?_)
  have ey_69 : y_69 = nI (6 * nn + 3) := by rw [ey_69]; first | rfl | (simp only [nk_set_0, nk_set_1, nk_set_2, nk_set_3, nk_set_4, nk_set_5, nk_set_6, nk_set_7, nk_set_12, nk_set_13, nk_set_18, pk_mul, nI_add]; done) | (simp only [nk_set_0, nk_set_1, nk_set_2, nk_set_3, nk_set_4, nk_set_5, nk_set_6, nk_set_7, nk_set_12, nk_set_13, nk_set_18, pk_mul, nI_add]; exact congrArg nI (by omega))
  subst ey_69
  refine lv_aload_n hx hb d_Mo_between_24 rfl (lv_at hl 1 rfl) ?_
  refine va_get (D := (dC, dI)) (ci := 3) (v := .ref mr) (C := R_Mo) (T := F_Mo) (N := 12) hx hb hts (fun w h => mw (i_Mo w h)) hown hK hP 0 rfl rfl 5 (by decide) (hts _ (mw wd_242)) (fun _ h9 => h9) rfl d_Mo_between_25 ?_
  refine lv_bipush (v := 6) hx hb d_Mo_between_28 (by decide) ?_
  refine lv_iload_n hx hb d_Mo_between_30 rfl (lv_at hl 2 rfl) ?_
  refine lv_imul hx hb d_Mo_between_31 ?_
  refine lv_topi (fun y_70 ey_70 => ?_)
  have ey_70 : y_70 = nI (6 * pp) := by rw [ey_70]; first | rfl | (simp only [nk_set_0, nk_set_1, nk_set_2, nk_set_3, nk_set_4, nk_set_5, nk_set_6, nk_set_7, nk_set_12, nk_set_13, nk_set_18, pk_mul, nI_add]; done) | (simp only [nk_set_0, nk_set_1, nk_set_2, nk_set_3, nk_set_4, nk_set_5, nk_set_6, nk_set_7, nk_set_12, nk_set_13, nk_set_18, pk_mul, nI_add]; exact congrArg nI (by omega))
  subst ey_70
  refine lv_iload hx hb d_Mo_between_32 (lv_at hl 0 rfl) ?_
  refine lv_iadd hx hb d_Mo_between_34 ?_
  refine lv_topi (fun y_71 ey_71 => ?_)
  have ey_71 : y_71 = nI (6 * pp + 3) := by rw [ey_71]; first | rfl | (simp only [nk_set_0, nk_set_1, nk_set_2, nk_set_3, nk_set_4, nk_set_5, nk_set_6, nk_set_7, nk_set_12, nk_set_13, nk_set_18, pk_mul, nI_add]; done) | (simp only [nk_set_0, nk_set_1, nk_set_2, nk_set_3, nk_set_4, nk_set_5, nk_set_6, nk_set_7, nk_set_12, nk_set_13, nk_set_18, pk_mul, nI_add]; exact congrArg nI (by omega))
  subst ey_71
  have hq_72 : nI (6 * pp + 3) = nI (6 * pp + 3) := by first | rfl | (simp only [nk_set_0, nk_set_1, nk_set_2, nk_set_3, nk_set_4, nk_set_5, nk_set_6, nk_set_7, nk_set_12, nk_set_13, nk_set_18, pk_mul, nI_add]; done) | (simp only [nk_set_0, nk_set_1, nk_set_2, nk_set_3, nk_set_4, nk_set_5, nk_set_6, nk_set_7, nk_set_12, nk_set_13, nk_set_18, pk_mul, nI_add]; exact congrArg nI (by omega))
  have hi_73 : vp_in (nI (6 * pp + 3)) 120 := by rw [hq_72]; exact vp_in_nI (by omega) (by decide)
  refine va_lald hx hb hK hP 2 0 rfl rfl hi_73 d_Mo_between_35 ?_
  refine lv_topl (fun y_74 ey_74 => ?_)
  rw [hq_72, nI_clamp (by omega)] at ey_74
  refine lv_aload_n hx hb d_Mo_between_36 rfl (lv_at hl 1 rfl) ?_
  refine va_get (D := (dC, dI)) (ci := 3) (v := .ref mr) (C := R_Mo) (T := F_Mo) (N := 12) hx hb hts (fun w h => mw (i_Mo w h)) hown hK hP 0 rfl rfl 5 (by decide) (hts _ (mw wd_242)) (fun _ h9 => h9) rfl d_Mo_between_37 ?_
  refine lv_bipush (v := 6) hx hb d_Mo_between_40 (by decide) ?_
  refine lv_iload hx hb d_Mo_between_42 (lv_at hl 4 rfl) ?_
  refine lv_imul hx hb d_Mo_between_44 ?_
  refine lv_topi (fun y_75 ey_75 => ?_)
  have ey_75 : y_75 = nI (6 * qq) := by rw [ey_75]; first | rfl | (simp only [nk_set_0, nk_set_1, nk_set_2, nk_set_3, nk_set_4, nk_set_5, nk_set_6, nk_set_7, nk_set_12, nk_set_13, nk_set_18, pk_mul, nI_add]; done) | (simp only [nk_set_0, nk_set_1, nk_set_2, nk_set_3, nk_set_4, nk_set_5, nk_set_6, nk_set_7, nk_set_12, nk_set_13, nk_set_18, pk_mul, nI_add]; exact congrArg nI (by omega))
  subst ey_75
  refine lv_iload hx hb d_Mo_between_45 (lv_at hl 0 rfl) ?_
  refine lv_iadd hx hb d_Mo_between_47 ?_
  refine lv_topi (fun y_76 ey_76 => ?_)
  have ey_76 : y_76 = nI (6 * qq + 3) := by rw [ey_76]; first | rfl | (simp only [nk_set_0, nk_set_1, nk_set_2, nk_set_3, nk_set_4, nk_set_5, nk_set_6, nk_set_7, nk_set_12, nk_set_13, nk_set_18, pk_mul, nI_add]; done) | (simp only [nk_set_0, nk_set_1, nk_set_2, nk_set_3, nk_set_4, nk_set_5, nk_set_6, nk_set_7, nk_set_12, nk_set_13, nk_set_18, pk_mul, nI_add]; exact congrArg nI (by omega))
  subst ey_76
  have hq_77 : nI (6 * qq + 3) = nI (6 * qq + 3) := by first | rfl | (simp only [nk_set_0, nk_set_1, nk_set_2, nk_set_3, nk_set_4, nk_set_5, nk_set_6, nk_set_7, nk_set_12, nk_set_13, nk_set_18, pk_mul, nI_add]; done) | (simp only [nk_set_0, nk_set_1, nk_set_2, nk_set_3, nk_set_4, nk_set_5, nk_set_6, nk_set_7, nk_set_12, nk_set_13, nk_set_18, pk_mul, nI_add]; exact congrArg nI (by omega))
  have hi_78 : vp_in (nI (6 * qq + 3)) 120 := by rw [hq_77]; exact vp_in_nI (by omega) (by decide)
  refine va_lald hx hb hK hP 2 0 rfl rfl hi_78 d_Mo_between_48 ?_
  refine lv_topl (fun y_79 ey_79 => ?_)
  rw [hq_77, nI_clamp (by omega)] at ey_79
  refine lv_aload_n hx hb d_Mo_between_49 rfl (lv_at hl 1 rfl) ?_
  refine va_get (D := (dC, dI)) (ci := 3) (v := .ref mr) (C := R_Mo) (T := F_Mo) (N := 12) hx hb hts (fun w h => mw (i_Mo w h)) hown hK hP 0 rfl rfl 5 (by decide) (hts _ (mw wd_242)) (fun _ h9 => h9) rfl d_Mo_between_50 ?_
  refine lv_bipush (v := 6) hx hb d_Mo_between_53 (by decide) ?_
  refine lv_iload_n hx hb d_Mo_between_55 rfl (lv_at hl 2 rfl) ?_
  refine lv_imul hx hb d_Mo_between_56 ?_
  refine lv_topi (fun y_80 ey_80 => ?_)
  have ey_80 : y_80 = nI (6 * pp) := by rw [ey_80]; first | rfl | (simp only [nk_set_0, nk_set_1, nk_set_2, nk_set_3, nk_set_4, nk_set_5, nk_set_6, nk_set_7, nk_set_12, nk_set_13, nk_set_18, pk_mul, nI_add]; done) | (simp only [nk_set_0, nk_set_1, nk_set_2, nk_set_3, nk_set_4, nk_set_5, nk_set_6, nk_set_7, nk_set_12, nk_set_13, nk_set_18, pk_mul, nI_add]; exact congrArg nI (by omega))
  subst ey_80
  refine lv_iload hx hb d_Mo_between_57 (lv_at hl 0 rfl) ?_
  refine lv_iadd hx hb d_Mo_between_59 ?_
  refine lv_topi (fun y_81 ey_81 => ?_)
  have ey_81 : y_81 = nI (6 * pp + 3) := by rw [ey_81]; first | rfl | (simp only [nk_set_0, nk_set_1, nk_set_2, nk_set_3, nk_set_4, nk_set_5, nk_set_6, nk_set_7, nk_set_12, nk_set_13, nk_set_18, pk_mul, nI_add]; done) | (simp only [nk_set_0, nk_set_1, nk_set_2, nk_set_3, nk_set_4, nk_set_5, nk_set_6, nk_set_7, nk_set_12, nk_set_13, nk_set_18, pk_mul, nI_add]; exact congrArg nI (by omega))
  subst ey_81
  have hq_82 : nI (6 * pp + 3) = nI (6 * pp + 3) := by first | rfl | (simp only [nk_set_0, nk_set_1, nk_set_2, nk_set_3, nk_set_4, nk_set_5, nk_set_6, nk_set_7, nk_set_12, nk_set_13, nk_set_18, pk_mul, nI_add]; done) | (simp only [nk_set_0, nk_set_1, nk_set_2, nk_set_3, nk_set_4, nk_set_5, nk_set_6, nk_set_7, nk_set_12, nk_set_13, nk_set_18, pk_mul, nI_add]; exact congrArg nI (by omega))
  have hi_83 : vp_in (nI (6 * pp + 3)) 120 := by rw [hq_82]; exact vp_in_nI (by omega) (by decide)
  refine va_lald hx hb hK hP 2 0 rfl rfl hi_83 d_Mo_between_60 ?_
  refine lv_topl (fun y_84 ey_84 => ?_)
  rw [hq_82, nI_clamp (by omega)] at ey_84
  refine lv_lsub hx hb d_Mo_between_61 ?_
  refine lv_lload_n hx hb d_Mo_between_62 rfl (lv_at hl 3 rfl) ?_
  refine lv_lmul hx hb d_Mo_between_63 ?_
  refine lv_lload_n hx hb d_Mo_between_64 rfl (lv_at hl 3 rfl) ?_
  refine lv_lload hx hb d_Mo_between_65 (lv_at hl 5 rfl) ?_
  refine lv_lsub hx hb d_Mo_between_67 ?_
  refine vp_callSl (va_Run.run (va_runS (As := [.long ((y_79 - y_84) * va), .long (va - vb)]) (rest := [.long y_74, .int (nI (6 * nn + 3)), .ref mx]) ⟨hx, hb, hml, hown, hts⟩ (k_Mo_div l dC dI cJ cI ((y_79 - y_84) * va) (va - vb) hd9) (va_cwS 2 hts (gd_S wd_298 wd_299 wd_37 wd_300) rfl rfl rfl (by decide +kernel) ⟨Nat.le_of_ble_eq_true rfl, Nat.le_of_ble_eq_true rfl⟩) ⟨fb_ro, pre_ro hK hN va_nil⟩ rfl rfl hl.1 rfl (lv_room (Nat.le_of_ble_eq_true rfl)) d_Mo_between_68 ⟨Nat.le_of_ble_eq_true rfl, Nat.le_of_ble_eq_true rfl⟩)) (fun r_85 er_85 => ?_)
  have er_85 : r_85 = pu_div ((y_79 - y_84) * va) (va - vb) := er_85
  refine lv_ladd hx hb d_Mo_between_71 ?_
  refine lv_topl (fun y_86 ey_86 => ?_)
  have hq_87 : nI (6 * nn + 3) = nI (6 * nn + 3) := by first | rfl | (simp only [nk_set_0, nk_set_1, nk_set_2, nk_set_3, nk_set_4, nk_set_5, nk_set_6, nk_set_7, nk_set_12, nk_set_13, nk_set_18, pk_mul, nI_add]; done) | (simp only [nk_set_0, nk_set_1, nk_set_2, nk_set_3, nk_set_4, nk_set_5, nk_set_6, nk_set_7, nk_set_12, nk_set_13, nk_set_18, pk_mul, nI_add]; exact congrArg nI (by omega))
  have hi_88 : vp_in (nI (6 * nn + 3)) 120 := by rw [hq_87]; exact vp_in_nI (by omega) (by decide)
  refine va_last hx hb hK hP hD hS 3 0 rfl rfl hi_88 d_Mo_between_72 (fun H locs hP hD hS => ?_)
  rw [hq_87, nI_clamp (by omega)] at hP hD
  have hP : va_P (dC, dI) cls4 [(mo, .inr (3, [.int 0, .int wi, .int hi, .int fo, .ref mt, .ref mr, .int ma, .ref mx, .int (nI nn), .ref mp, .ref mq, .int (nI ct)])), (mt, .inl (cJ, 18, .inr (.inl mtf))), (mr, .inl (cJ, 120, .inr (.inl mrf))), (mx, .inl (cJ, 120, .inr (.inl (vp_updL (vp_updL (vp_updL (vp_updL mxf (6 * nn + 0) y_20) (6 * nn + 1) y_42) (6 * nn + 2) y_64) (6 * nn + 3) y_86)))), (mp, .inl (cJ, 324, .inr (.inl mpf))), (mq, .inl (cJ, 18, .inr (.inl mqf)))] H := hP
  have hD : va_D A [(mo, .inr (3, [.int 0, .int wi, .int hi, .int fo, .ref mt, .ref mr, .int ma, .ref mx, .int (nI nn), .ref mp, .ref mq, .int (nI ct)])), (mt, .inl (cJ, 18, .inr (.inl mtf))), (mr, .inl (cJ, 120, .inr (.inl mrf))), (mx, .inl (cJ, 120, .inr (.inl (vp_updL (vp_updL (vp_updL (vp_updL mxf (6 * nn + 0) y_20) (6 * nn + 1) y_42) (6 * nn + 2) y_64) (6 * nn + 3) y_86)))), (mp, .inl (cJ, 324, .inr (.inl mpf))), (mq, .inl (cJ, 18, .inr (.inl mqf)))] := hD
  refine lv_iinc (v := 4) (lv' := [(7, .int 4), (0, .ref mo), (1, .int (nI pp)), (2, .long va), (4, .int (nI qq)), (5, .long vb)]) hx hb d_Mo_between_73 hl (k := 0) rfl (by decide) (by decide) rfl (fun ls hl => ?_)
  refine lv_goto (tgt := 3) hx hb d_Mo_between_76 (by decide) ?_
  refine lv_iload hx hb d_Mo_between_3 (lv_at hl 0 rfl) ?_
  refine lv_bipush (v := 6) hx hb d_Mo_between_5 (by decide) ?_
  refine lv_icmp_ge (tgt := 79) hx hb d_Mo_between_7 (by decide) (fun c_89 => absurd c_89 (by decide)) (fun _ => ?_)
  refine lv_aload_n hx hb d_Mo_between_10 rfl (lv_at hl 1 rfl) ?_
  refine va_get (D := (dC, dI)) (ci := 3) (v := .ref mx) (C := R_Mo) (T := F_Mo) (N := 12) hx hb hts (fun w h => mw (i_Mo w h)) hown hK hP 0 rfl rfl 7 (by decide) (hts _ (mw wd_244)) (fun _ h9 => h9) rfl d_Mo_between_11 ?_
  refine lv_bipush (v := 6) hx hb d_Mo_between_14 (by decide) ?_
  refine lv_aload_n hx hb d_Mo_between_16 rfl (lv_at hl 1 rfl) ?_
  refine va_get (D := (dC, dI)) (ci := 3) (v := .int (nI nn)) (C := R_Mo) (T := F_Mo) (N := 12) hx hb hts (fun w h => mw (i_Mo w h)) hown hK hP 0 rfl rfl 8 (by decide) (hts _ (mw wd_245)) (fun _ h9 => h9) rfl d_Mo_between_17 ?_
  refine lv_imul hx hb d_Mo_between_20 ?_
  refine lv_topi (fun y_90 ey_90 => ?_)
  have ey_90 : y_90 = nI (6 * nn) := by rw [ey_90]; first | rfl | (simp only [nk_set_0, nk_set_1, nk_set_2, nk_set_3, nk_set_4, nk_set_5, nk_set_6, nk_set_7, nk_set_12, nk_set_13, nk_set_18, pk_mul, nI_add]; done) | (simp only [nk_set_0, nk_set_1, nk_set_2, nk_set_3, nk_set_4, nk_set_5, nk_set_6, nk_set_7, nk_set_12, nk_set_13, nk_set_18, pk_mul, nI_add]; exact congrArg nI (by omega))
  subst ey_90
  refine lv_iload hx hb d_Mo_between_21 (lv_at hl 0 rfl) ?_
  refine lv_iadd hx hb d_Mo_between_23 ?_
  refine lv_topi (fun y_91 ey_91 => ?_)
  have ey_91 : y_91 = nI (6 * nn + 4) := by rw [ey_91]; first | rfl | (simp only [nk_set_0, nk_set_1, nk_set_2, nk_set_3, nk_set_4, nk_set_5, nk_set_6, nk_set_7, nk_set_12, nk_set_13, nk_set_18, pk_mul, nI_add]; done) | (simp only [nk_set_0, nk_set_1, nk_set_2, nk_set_3, nk_set_4, nk_set_5, nk_set_6, nk_set_7, nk_set_12, nk_set_13, nk_set_18, pk_mul, nI_add]; exact congrArg nI (by omega))
  subst ey_91
  refine lv_aload_n hx hb d_Mo_between_24 rfl (lv_at hl 1 rfl) ?_
  refine va_get (D := (dC, dI)) (ci := 3) (v := .ref mr) (C := R_Mo) (T := F_Mo) (N := 12) hx hb hts (fun w h => mw (i_Mo w h)) hown hK hP 0 rfl rfl 5 (by decide) (hts _ (mw wd_242)) (fun _ h9 => h9) rfl d_Mo_between_25 ?_
  refine lv_bipush (v := 6) hx hb d_Mo_between_28 (by decide) ?_
  refine lv_iload_n hx hb d_Mo_between_30 rfl (lv_at hl 2 rfl) ?_
  refine lv_imul hx hb d_Mo_between_31 ?_
  refine lv_topi (fun y_92 ey_92 => ?_)
  have ey_92 : y_92 = nI (6 * pp) := by rw [ey_92]; first | rfl | (simp only [nk_set_0, nk_set_1, nk_set_2, nk_set_3, nk_set_4, nk_set_5, nk_set_6, nk_set_7, nk_set_12, nk_set_13, nk_set_18, pk_mul, nI_add]; done) | (simp only [nk_set_0, nk_set_1, nk_set_2, nk_set_3, nk_set_4, nk_set_5, nk_set_6, nk_set_7, nk_set_12, nk_set_13, nk_set_18, pk_mul, nI_add]; exact congrArg nI (by omega))
  subst ey_92
  refine lv_iload hx hb d_Mo_between_32 (lv_at hl 0 rfl) ?_
  refine lv_iadd hx hb d_Mo_between_34 ?_
  refine lv_topi (fun y_93 ey_93 => ?_)
  have ey_93 : y_93 = nI (6 * pp + 4) := by rw [ey_93]; first | rfl | (simp only [nk_set_0, nk_set_1, nk_set_2, nk_set_3, nk_set_4, nk_set_5, nk_set_6, nk_set_7, nk_set_12, nk_set_13, nk_set_18, pk_mul, nI_add]; done) | (simp only [nk_set_0, nk_set_1, nk_set_2, nk_set_3, nk_set_4, nk_set_5, nk_set_6, nk_set_7, nk_set_12, nk_set_13, nk_set_18, pk_mul, nI_add]; exact congrArg nI (by omega))
  subst ey_93
  have hq_94 : nI (6 * pp + 4) = nI (6 * pp + 4) := by first | rfl | (simp only [nk_set_0, nk_set_1, nk_set_2, nk_set_3, nk_set_4, nk_set_5, nk_set_6, nk_set_7, nk_set_12, nk_set_13, nk_set_18, pk_mul, nI_add]; done) | (simp only [nk_set_0, nk_set_1, nk_set_2, nk_set_3, nk_set_4, nk_set_5, nk_set_6, nk_set_7, nk_set_12, nk_set_13, nk_set_18, pk_mul, nI_add]; exact congrArg nI (by omega))
  have hi_95 : vp_in (nI (6 * pp + 4)) 120 := by rw [hq_94]; exact vp_in_nI (by omega) (by decide)
  refine va_lald hx hb hK hP 2 0 rfl rfl hi_95 d_Mo_between_35 ?_
  refine lv_topl (fun y_96 ey_96 => ?_)
  rw [hq_94, nI_clamp (by omega)] at ey_96
  refine lv_aload_n hx hb d_Mo_between_36 rfl (lv_at hl 1 rfl) ?_
  refine va_get (D := (dC, dI)) (ci := 3) (v := .ref mr) (C := R_Mo) (T := F_Mo) (N := 12) hx hb hts (fun w h => mw (i_Mo w h)) hown hK hP 0 rfl rfl 5 (by decide) (hts _ (mw wd_242)) (fun _ h9 => h9) rfl d_Mo_between_37 ?_
  refine lv_bipush (v := 6) hx hb d_Mo_between_40 (by decide) ?_
  refine lv_iload hx hb d_Mo_between_42 (lv_at hl 4 rfl) ?_
  refine lv_imul hx hb d_Mo_between_44 ?_
  refine lv_topi (fun y_97 ey_97 => ?_)
  have ey_97 : y_97 = nI (6 * qq) := by rw [ey_97]; first | rfl | (simp only [nk_set_0, nk_set_1, nk_set_2, nk_set_3, nk_set_4, nk_set_5, nk_set_6, nk_set_7, nk_set_12, nk_set_13, nk_set_18, pk_mul, nI_add]; done) | (simp only [nk_set_0, nk_set_1, nk_set_2, nk_set_3, nk_set_4, nk_set_5, nk_set_6, nk_set_7, nk_set_12, nk_set_13, nk_set_18, pk_mul, nI_add]; exact congrArg nI (by omega))
  subst ey_97
  refine lv_iload hx hb d_Mo_between_45 (lv_at hl 0 rfl) ?_
  refine lv_iadd hx hb d_Mo_between_47 ?_
  refine lv_topi (fun y_98 ey_98 => ?_)
  have ey_98 : y_98 = nI (6 * qq + 4) := by rw [ey_98]; first | rfl | (simp only [nk_set_0, nk_set_1, nk_set_2, nk_set_3, nk_set_4, nk_set_5, nk_set_6, nk_set_7, nk_set_12, nk_set_13, nk_set_18, pk_mul, nI_add]; done) | (simp only [nk_set_0, nk_set_1, nk_set_2, nk_set_3, nk_set_4, nk_set_5, nk_set_6, nk_set_7, nk_set_12, nk_set_13, nk_set_18, pk_mul, nI_add]; exact congrArg nI (by omega))
  subst ey_98
  have hq_99 : nI (6 * qq + 4) = nI (6 * qq + 4) := by first | rfl | (simp only [nk_set_0, nk_set_1, nk_set_2, nk_set_3, nk_set_4, nk_set_5, nk_set_6, nk_set_7, nk_set_12, nk_set_13, nk_set_18, pk_mul, nI_add]; done) | (simp only [nk_set_0, nk_set_1, nk_set_2, nk_set_3, nk_set_4, nk_set_5, nk_set_6, nk_set_7, nk_set_12, nk_set_13, nk_set_18, pk_mul, nI_add]; exact congrArg nI (by omega))
  have hi_100 : vp_in (nI (6 * qq + 4)) 120 := by rw [hq_99]; exact vp_in_nI (by omega) (by decide)
  refine va_lald hx hb hK hP 2 0 rfl rfl hi_100 d_Mo_between_48 ?_
  refine lv_topl (fun y_101 ey_101 => ?_)
  rw [hq_99, nI_clamp (by omega)] at ey_101
  refine lv_aload_n hx hb d_Mo_between_49 rfl (lv_at hl 1 rfl) ?_
  refine va_get (D := (dC, dI)) (ci := 3) (v := .ref mr) (C := R_Mo) (T := F_Mo) (N := 12) hx hb hts (fun w h => mw (i_Mo w h)) hown hK hP 0 rfl rfl 5 (by decide) (hts _ (mw wd_242)) (fun _ h9 => h9) rfl d_Mo_between_50 ?_
  refine lv_bipush (v := 6) hx hb d_Mo_between_53 (by decide) ?_
  refine lv_iload_n hx hb d_Mo_between_55 rfl (lv_at hl 2 rfl) ?_
  refine lv_imul hx hb d_Mo_between_56 ?_
  refine lv_topi (fun y_102 ey_102 => ?_)
  have ey_102 : y_102 = nI (6 * pp) := by rw [ey_102]; first | rfl | (simp only [nk_set_0, nk_set_1, nk_set_2, nk_set_3, nk_set_4, nk_set_5, nk_set_6, nk_set_7, nk_set_12, nk_set_13, nk_set_18, pk_mul, nI_add]; done) | (simp only [nk_set_0, nk_set_1, nk_set_2, nk_set_3, nk_set_4, nk_set_5, nk_set_6, nk_set_7, nk_set_12, nk_set_13, nk_set_18, pk_mul, nI_add]; exact congrArg nI (by omega))
  subst ey_102
  refine lv_iload hx hb d_Mo_between_57 (lv_at hl 0 rfl) ?_
  refine lv_iadd hx hb d_Mo_between_59 ?_
  refine lv_topi (fun y_103 ey_103 => ?_)
  have ey_103 : y_103 = nI (6 * pp + 4) := by rw [ey_103]; first | rfl | (simp only [nk_set_0, nk_set_1, nk_set_2, nk_set_3, nk_set_4, nk_set_5, nk_set_6, nk_set_7, nk_set_12, nk_set_13, nk_set_18, pk_mul, nI_add]; done) | (simp only [nk_set_0, nk_set_1, nk_set_2, nk_set_3, nk_set_4, nk_set_5, nk_set_6, nk_set_7, nk_set_12, nk_set_13, nk_set_18, pk_mul, nI_add]; exact congrArg nI (by omega))
  subst ey_103
  have hq_104 : nI (6 * pp + 4) = nI (6 * pp + 4) := by first | rfl | (simp only [nk_set_0, nk_set_1, nk_set_2, nk_set_3, nk_set_4, nk_set_5, nk_set_6, nk_set_7, nk_set_12, nk_set_13, nk_set_18, pk_mul, nI_add]; done) | (simp only [nk_set_0, nk_set_1, nk_set_2, nk_set_3, nk_set_4, nk_set_5, nk_set_6, nk_set_7, nk_set_12, nk_set_13, nk_set_18, pk_mul, nI_add]; exact congrArg nI (by omega))
  have hi_105 : vp_in (nI (6 * pp + 4)) 120 := by rw [hq_104]; exact vp_in_nI (by omega) (by decide)
  refine va_lald hx hb hK hP 2 0 rfl rfl hi_105 d_Mo_between_60 ?_
  refine lv_topl (fun y_106 ey_106 => ?_)
  rw [hq_104, nI_clamp (by omega)] at ey_106
  refine lv_lsub hx hb d_Mo_between_61 ?_
  refine lv_lload_n hx hb d_Mo_between_62 rfl (lv_at hl 3 rfl) ?_
  refine lv_lmul hx hb d_Mo_between_63 ?_
  refine lv_lload_n hx hb d_Mo_between_64 rfl (lv_at hl 3 rfl) ?_
  refine lv_lload hx hb d_Mo_between_65 (lv_at hl 5 rfl) ?_
  refine lv_lsub hx hb d_Mo_between_67 ?_
  refine vp_callSl (va_Run.run (va_runS (As := [.long ((y_101 - y_106) * va), .long (va - vb)]) (rest := [.long y_96, .int (nI (6 * nn + 4)), .ref mx]) ⟨hx, hb, hml, hown, hts⟩ (k_Mo_div l dC dI cJ cI ((y_101 - y_106) * va) (va - vb) hd9) (va_cwS 2 hts (gd_S wd_298 wd_299 wd_37 wd_300) rfl rfl rfl (by decide +kernel) ⟨Nat.le_of_ble_eq_true rfl, Nat.le_of_ble_eq_true rfl⟩) ⟨fb_ro, pre_ro hK hN va_nil⟩ rfl rfl hl.1 rfl (lv_room (Nat.le_of_ble_eq_true rfl)) d_Mo_between_68 ⟨Nat.le_of_ble_eq_true rfl, Nat.le_of_ble_eq_true rfl⟩)) (fun r_107 er_107 => ?_)
  have er_107 : r_107 = pu_div ((y_101 - y_106) * va) (va - vb) := er_107
  refine lv_ladd hx hb d_Mo_between_71 ?_
  refine lv_topl (fun y_108 ey_108 => ?_)
  have hq_109 : nI (6 * nn + 4) = nI (6 * nn + 4) := by first | rfl | (simp only [nk_set_0, nk_set_1, nk_set_2, nk_set_3, nk_set_4, nk_set_5, nk_set_6, nk_set_7, nk_set_12, nk_set_13, nk_set_18, pk_mul, nI_add]; done) | (simp only [nk_set_0, nk_set_1, nk_set_2, nk_set_3, nk_set_4, nk_set_5, nk_set_6, nk_set_7, nk_set_12, nk_set_13, nk_set_18, pk_mul, nI_add]; exact congrArg nI (by omega))
  have hi_110 : vp_in (nI (6 * nn + 4)) 120 := by rw [hq_109]; exact vp_in_nI (by omega) (by decide)
  refine va_last hx hb hK hP hD hS 3 0 rfl rfl hi_110 d_Mo_between_72 (fun H locs hP hD hS => ?_)
  rw [hq_109, nI_clamp (by omega)] at hP hD
  have hP : va_P (dC, dI) cls4 [(mo, .inr (3, [.int 0, .int wi, .int hi, .int fo, .ref mt, .ref mr, .int ma, .ref mx, .int (nI nn), .ref mp, .ref mq, .int (nI ct)])), (mt, .inl (cJ, 18, .inr (.inl mtf))), (mr, .inl (cJ, 120, .inr (.inl mrf))), (mx, .inl (cJ, 120, .inr (.inl (vp_updL (vp_updL (vp_updL (vp_updL (vp_updL mxf (6 * nn + 0) y_20) (6 * nn + 1) y_42) (6 * nn + 2) y_64) (6 * nn + 3) y_86) (6 * nn + 4) y_108)))), (mp, .inl (cJ, 324, .inr (.inl mpf))), (mq, .inl (cJ, 18, .inr (.inl mqf)))] H := hP
  have hD : va_D A [(mo, .inr (3, [.int 0, .int wi, .int hi, .int fo, .ref mt, .ref mr, .int ma, .ref mx, .int (nI nn), .ref mp, .ref mq, .int (nI ct)])), (mt, .inl (cJ, 18, .inr (.inl mtf))), (mr, .inl (cJ, 120, .inr (.inl mrf))), (mx, .inl (cJ, 120, .inr (.inl (vp_updL (vp_updL (vp_updL (vp_updL (vp_updL mxf (6 * nn + 0) y_20) (6 * nn + 1) y_42) (6 * nn + 2) y_64) (6 * nn + 3) y_86) (6 * nn + 4) y_108)))), (mp, .inl (cJ, 324, .inr (.inl mpf))), (mq, .inl (cJ, 18, .inr (.inl mqf)))] := hD
  refine lv_iinc (v := 5) (lv' := [(7, .int 5), (0, .ref mo), (1, .int (nI pp)), (2, .long va), (4, .int (nI qq)), (5, .long vb)]) hx hb d_Mo_between_73 hl (k := 0) rfl (by decide) (by decide) rfl (fun ls hl => ?_)
  refine lv_goto (tgt := 3) hx hb d_Mo_between_76 (by decide) ?_
  refine lv_iload hx hb d_Mo_between_3 (lv_at hl 0 rfl) ?_
  refine lv_bipush (v := 6) hx hb d_Mo_between_5 (by decide) ?_
  refine lv_icmp_ge (tgt := 79) hx hb d_Mo_between_7 (by decide) (fun c_111 => absurd c_111 (by decide)) (fun _ => ?_)
  refine lv_aload_n hx hb d_Mo_between_10 rfl (lv_at hl 1 rfl) ?_
  refine va_get (D := (dC, dI)) (ci := 3) (v := .ref mx) (C := R_Mo) (T := F_Mo) (N := 12) hx hb hts (fun w h => mw (i_Mo w h)) hown hK hP 0 rfl rfl 7 (by decide) (hts _ (mw wd_244)) (fun _ h9 => h9) rfl d_Mo_between_11 ?_
  refine lv_bipush (v := 6) hx hb d_Mo_between_14 (by decide) ?_
  refine lv_aload_n hx hb d_Mo_between_16 rfl (lv_at hl 1 rfl) ?_
  refine va_get (D := (dC, dI)) (ci := 3) (v := .int (nI nn)) (C := R_Mo) (T := F_Mo) (N := 12) hx hb hts (fun w h => mw (i_Mo w h)) hown hK hP 0 rfl rfl 8 (by decide) (hts _ (mw wd_245)) (fun _ h9 => h9) rfl d_Mo_between_17 ?_
  refine lv_imul hx hb d_Mo_between_20 ?_
  refine lv_topi (fun y_112 ey_112 => ?_)
  have ey_112 : y_112 = nI (6 * nn) := by rw [ey_112]; first | rfl | (simp only [nk_set_0, nk_set_1, nk_set_2, nk_set_3, nk_set_4, nk_set_5, nk_set_6, nk_set_7, nk_set_12, nk_set_13, nk_set_18, pk_mul, nI_add]; done) | (simp only [nk_set_0, nk_set_1, nk_set_2, nk_set_3, nk_set_4, nk_set_5, nk_set_6, nk_set_7, nk_set_12, nk_set_13, nk_set_18, pk_mul, nI_add]; exact congrArg nI (by omega))
  subst ey_112
  refine lv_iload hx hb d_Mo_between_21 (lv_at hl 0 rfl) ?_
  refine lv_iadd hx hb d_Mo_between_23 ?_
  refine lv_topi (fun y_113 ey_113 => ?_)
  have ey_113 : y_113 = nI (6 * nn + 5) := by rw [ey_113]; first | rfl | (simp only [nk_set_0, nk_set_1, nk_set_2, nk_set_3, nk_set_4, nk_set_5, nk_set_6, nk_set_7, nk_set_12, nk_set_13, nk_set_18, pk_mul, nI_add]; done) | (simp only [nk_set_0, nk_set_1, nk_set_2, nk_set_3, nk_set_4, nk_set_5, nk_set_6, nk_set_7, nk_set_12, nk_set_13, nk_set_18, pk_mul, nI_add]; exact congrArg nI (by omega))
  subst ey_113
  refine lv_aload_n hx hb d_Mo_between_24 rfl (lv_at hl 1 rfl) ?_
  refine va_get (D := (dC, dI)) (ci := 3) (v := .ref mr) (C := R_Mo) (T := F_Mo) (N := 12) hx hb hts (fun w h => mw (i_Mo w h)) hown hK hP 0 rfl rfl 5 (by decide) (hts _ (mw wd_242)) (fun _ h9 => h9) rfl d_Mo_between_25 ?_
  refine lv_bipush (v := 6) hx hb d_Mo_between_28 (by decide) ?_
  refine lv_iload_n hx hb d_Mo_between_30 rfl (lv_at hl 2 rfl) ?_
  refine lv_imul hx hb d_Mo_between_31 ?_
  refine lv_topi (fun y_114 ey_114 => ?_)
  have ey_114 : y_114 = nI (6 * pp) := by rw [ey_114]; first | rfl | (simp only [nk_set_0, nk_set_1, nk_set_2, nk_set_3, nk_set_4, nk_set_5, nk_set_6, nk_set_7, nk_set_12, nk_set_13, nk_set_18, pk_mul, nI_add]; done) | (simp only [nk_set_0, nk_set_1, nk_set_2, nk_set_3, nk_set_4, nk_set_5, nk_set_6, nk_set_7, nk_set_12, nk_set_13, nk_set_18, pk_mul, nI_add]; exact congrArg nI (by omega))
  subst ey_114
  refine lv_iload hx hb d_Mo_between_32 (lv_at hl 0 rfl) ?_
  refine lv_iadd hx hb d_Mo_between_34 ?_
  refine lv_topi (fun y_115 ey_115 => ?_)
  have ey_115 : y_115 = nI (6 * pp + 5) := by rw [ey_115]; first | rfl | (simp only [nk_set_0, nk_set_1, nk_set_2, nk_set_3, nk_set_4, nk_set_5, nk_set_6, nk_set_7, nk_set_12, nk_set_13, nk_set_18, pk_mul, nI_add]; done) | (simp only [nk_set_0, nk_set_1, nk_set_2, nk_set_3, nk_set_4, nk_set_5, nk_set_6, nk_set_7, nk_set_12, nk_set_13, nk_set_18, pk_mul, nI_add]; exact congrArg nI (by omega))
  subst ey_115
  have hq_116 : nI (6 * pp + 5) = nI (6 * pp + 5) := by first | rfl | (simp only [nk_set_0, nk_set_1, nk_set_2, nk_set_3, nk_set_4, nk_set_5, nk_set_6, nk_set_7, nk_set_12, nk_set_13, nk_set_18, pk_mul, nI_add]; done) | (simp only [nk_set_0, nk_set_1, nk_set_2, nk_set_3, nk_set_4, nk_set_5, nk_set_6, nk_set_7, nk_set_12, nk_set_13, nk_set_18, pk_mul, nI_add]; exact congrArg nI (by omega))
  have hi_117 : vp_in (nI (6 * pp + 5)) 120 := by rw [hq_116]; exact vp_in_nI (by omega) (by decide)
  refine va_lald hx hb hK hP 2 0 rfl rfl hi_117 d_Mo_between_35 ?_
  refine lv_topl (fun y_118 ey_118 => ?_)
  rw [hq_116, nI_clamp (by omega)] at ey_118
  refine lv_aload_n hx hb d_Mo_between_36 rfl (lv_at hl 1 rfl) ?_
  refine va_get (D := (dC, dI)) (ci := 3) (v := .ref mr) (C := R_Mo) (T := F_Mo) (N := 12) hx hb hts (fun w h => mw (i_Mo w h)) hown hK hP 0 rfl rfl 5 (by decide) (hts _ (mw wd_242)) (fun _ h9 => h9) rfl d_Mo_between_37 ?_
  refine lv_bipush (v := 6) hx hb d_Mo_between_40 (by decide) ?_
  refine lv_iload hx hb d_Mo_between_42 (lv_at hl 4 rfl) ?_
  refine lv_imul hx hb d_Mo_between_44 ?_
  refine lv_topi (fun y_119 ey_119 => ?_)
  have ey_119 : y_119 = nI (6 * qq) := by rw [ey_119]; first | rfl | (simp only [nk_set_0, nk_set_1, nk_set_2, nk_set_3, nk_set_4, nk_set_5, nk_set_6, nk_set_7, nk_set_12, nk_set_13, nk_set_18, pk_mul, nI_add]; done) | (simp only [nk_set_0, nk_set_1, nk_set_2, nk_set_3, nk_set_4, nk_set_5, nk_set_6, nk_set_7, nk_set_12, nk_set_13, nk_set_18, pk_mul, nI_add]; exact congrArg nI (by omega))
  subst ey_119
  refine lv_iload hx hb d_Mo_between_45 (lv_at hl 0 rfl) ?_
  refine lv_iadd hx hb d_Mo_between_47 ?_
  refine lv_topi (fun y_120 ey_120 => ?_)
  have ey_120 : y_120 = nI (6 * qq + 5) := by rw [ey_120]; first | rfl | (simp only [nk_set_0, nk_set_1, nk_set_2, nk_set_3, nk_set_4, nk_set_5, nk_set_6, nk_set_7, nk_set_12, nk_set_13, nk_set_18, pk_mul, nI_add]; done) | (simp only [nk_set_0, nk_set_1, nk_set_2, nk_set_3, nk_set_4, nk_set_5, nk_set_6, nk_set_7, nk_set_12, nk_set_13, nk_set_18, pk_mul, nI_add]; exact congrArg nI (by omega))
  subst ey_120
  have hq_121 : nI (6 * qq + 5) = nI (6 * qq + 5) := by first | rfl | (simp only [nk_set_0, nk_set_1, nk_set_2, nk_set_3, nk_set_4, nk_set_5, nk_set_6, nk_set_7, nk_set_12, nk_set_13, nk_set_18, pk_mul, nI_add]; done) | (simp only [nk_set_0, nk_set_1, nk_set_2, nk_set_3, nk_set_4, nk_set_5, nk_set_6, nk_set_7, nk_set_12, nk_set_13, nk_set_18, pk_mul, nI_add]; exact congrArg nI (by omega))
  have hi_122 : vp_in (nI (6 * qq + 5)) 120 := by rw [hq_121]; exact vp_in_nI (by omega) (by decide)
  refine va_lald hx hb hK hP 2 0 rfl rfl hi_122 d_Mo_between_48 ?_
  refine lv_topl (fun y_123 ey_123 => ?_)
  rw [hq_121, nI_clamp (by omega)] at ey_123
  refine lv_aload_n hx hb d_Mo_between_49 rfl (lv_at hl 1 rfl) ?_
  refine va_get (D := (dC, dI)) (ci := 3) (v := .ref mr) (C := R_Mo) (T := F_Mo) (N := 12) hx hb hts (fun w h => mw (i_Mo w h)) hown hK hP 0 rfl rfl 5 (by decide) (hts _ (mw wd_242)) (fun _ h9 => h9) rfl d_Mo_between_50 ?_
  refine lv_bipush (v := 6) hx hb d_Mo_between_53 (by decide) ?_
  refine lv_iload_n hx hb d_Mo_between_55 rfl (lv_at hl 2 rfl) ?_
  refine lv_imul hx hb d_Mo_between_56 ?_
  refine lv_topi (fun y_124 ey_124 => ?_)
  have ey_124 : y_124 = nI (6 * pp) := by rw [ey_124]; first | rfl | (simp only [nk_set_0, nk_set_1, nk_set_2, nk_set_3, nk_set_4, nk_set_5, nk_set_6, nk_set_7, nk_set_12, nk_set_13, nk_set_18, pk_mul, nI_add]; done) | (simp only [nk_set_0, nk_set_1, nk_set_2, nk_set_3, nk_set_4, nk_set_5, nk_set_6, nk_set_7, nk_set_12, nk_set_13, nk_set_18, pk_mul, nI_add]; exact congrArg nI (by omega))
  subst ey_124
  refine lv_iload hx hb d_Mo_between_57 (lv_at hl 0 rfl) ?_
  refine lv_iadd hx hb d_Mo_between_59 ?_
  refine lv_topi (fun y_125 ey_125 => ?_)
  have ey_125 : y_125 = nI (6 * pp + 5) := by rw [ey_125]; first | rfl | (simp only [nk_set_0, nk_set_1, nk_set_2, nk_set_3, nk_set_4, nk_set_5, nk_set_6, nk_set_7, nk_set_12, nk_set_13, nk_set_18, pk_mul, nI_add]; done) | (simp only [nk_set_0, nk_set_1, nk_set_2, nk_set_3, nk_set_4, nk_set_5, nk_set_6, nk_set_7, nk_set_12, nk_set_13, nk_set_18, pk_mul, nI_add]; exact congrArg nI (by omega))
  subst ey_125
  have hq_126 : nI (6 * pp + 5) = nI (6 * pp + 5) := by first | rfl | (simp only [nk_set_0, nk_set_1, nk_set_2, nk_set_3, nk_set_4, nk_set_5, nk_set_6, nk_set_7, nk_set_12, nk_set_13, nk_set_18, pk_mul, nI_add]; done) | (simp only [nk_set_0, nk_set_1, nk_set_2, nk_set_3, nk_set_4, nk_set_5, nk_set_6, nk_set_7, nk_set_12, nk_set_13, nk_set_18, pk_mul, nI_add]; exact congrArg nI (by omega))
  have hi_127 : vp_in (nI (6 * pp + 5)) 120 := by rw [hq_126]; exact vp_in_nI (by omega) (by decide)
  refine va_lald hx hb hK hP 2 0 rfl rfl hi_127 d_Mo_between_60 ?_
  refine lv_topl (fun y_128 ey_128 => ?_)
  rw [hq_126, nI_clamp (by omega)] at ey_128
  refine lv_lsub hx hb d_Mo_between_61 ?_
  refine lv_lload_n hx hb d_Mo_between_62 rfl (lv_at hl 3 rfl) ?_
  refine lv_lmul hx hb d_Mo_between_63 ?_
  refine lv_lload_n hx hb d_Mo_between_64 rfl (lv_at hl 3 rfl) ?_
  refine lv_lload hx hb d_Mo_between_65 (lv_at hl 5 rfl) ?_
  refine lv_lsub hx hb d_Mo_between_67 ?_
  refine vp_callSl (va_Run.run (va_runS (As := [.long ((y_123 - y_128) * va), .long (va - vb)]) (rest := [.long y_118, .int (nI (6 * nn + 5)), .ref mx]) ⟨hx, hb, hml, hown, hts⟩ (k_Mo_div l dC dI cJ cI ((y_123 - y_128) * va) (va - vb) hd9) (va_cwS 2 hts (gd_S wd_298 wd_299 wd_37 wd_300) rfl rfl rfl (by decide +kernel) ⟨Nat.le_of_ble_eq_true rfl, Nat.le_of_ble_eq_true rfl⟩) ⟨fb_ro, pre_ro hK hN va_nil⟩ rfl rfl hl.1 rfl (lv_room (Nat.le_of_ble_eq_true rfl)) d_Mo_between_68 ⟨Nat.le_of_ble_eq_true rfl, Nat.le_of_ble_eq_true rfl⟩)) (fun r_129 er_129 => ?_)
  have er_129 : r_129 = pu_div ((y_123 - y_128) * va) (va - vb) := er_129
  refine lv_ladd hx hb d_Mo_between_71 ?_
  refine lv_topl (fun y_130 ey_130 => ?_)
  have hq_131 : nI (6 * nn + 5) = nI (6 * nn + 5) := by first | rfl | (simp only [nk_set_0, nk_set_1, nk_set_2, nk_set_3, nk_set_4, nk_set_5, nk_set_6, nk_set_7, nk_set_12, nk_set_13, nk_set_18, pk_mul, nI_add]; done) | (simp only [nk_set_0, nk_set_1, nk_set_2, nk_set_3, nk_set_4, nk_set_5, nk_set_6, nk_set_7, nk_set_12, nk_set_13, nk_set_18, pk_mul, nI_add]; exact congrArg nI (by omega))
  have hi_132 : vp_in (nI (6 * nn + 5)) 120 := by rw [hq_131]; exact vp_in_nI (by omega) (by decide)
  refine va_last hx hb hK hP hD hS 3 0 rfl rfl hi_132 d_Mo_between_72 (fun H locs hP hD hS => ?_)
  rw [hq_131, nI_clamp (by omega)] at hP hD
  have hP : va_P (dC, dI) cls4 [(mo, .inr (3, [.int 0, .int wi, .int hi, .int fo, .ref mt, .ref mr, .int ma, .ref mx, .int (nI nn), .ref mp, .ref mq, .int (nI ct)])), (mt, .inl (cJ, 18, .inr (.inl mtf))), (mr, .inl (cJ, 120, .inr (.inl mrf))), (mx, .inl (cJ, 120, .inr (.inl (vp_updL (vp_updL (vp_updL (vp_updL (vp_updL (vp_updL mxf (6 * nn + 0) y_20) (6 * nn + 1) y_42) (6 * nn + 2) y_64) (6 * nn + 3) y_86) (6 * nn + 4) y_108) (6 * nn + 5) y_130)))), (mp, .inl (cJ, 324, .inr (.inl mpf))), (mq, .inl (cJ, 18, .inr (.inl mqf)))] H := hP
  have hD : va_D A [(mo, .inr (3, [.int 0, .int wi, .int hi, .int fo, .ref mt, .ref mr, .int ma, .ref mx, .int (nI nn), .ref mp, .ref mq, .int (nI ct)])), (mt, .inl (cJ, 18, .inr (.inl mtf))), (mr, .inl (cJ, 120, .inr (.inl mrf))), (mx, .inl (cJ, 120, .inr (.inl (vp_updL (vp_updL (vp_updL (vp_updL (vp_updL (vp_updL mxf (6 * nn + 0) y_20) (6 * nn + 1) y_42) (6 * nn + 2) y_64) (6 * nn + 3) y_86) (6 * nn + 4) y_108) (6 * nn + 5) y_130)))), (mp, .inl (cJ, 324, .inr (.inl mpf))), (mq, .inl (cJ, 18, .inr (.inl mqf)))] := hD
  refine lv_iinc (v := 6) (lv' := [(7, .int 6), (0, .ref mo), (1, .int (nI pp)), (2, .long va), (4, .int (nI qq)), (5, .long vb)]) hx hb d_Mo_between_73 hl (k := 0) rfl (by decide) (by decide) rfl (fun ls hl => ?_)
  refine lv_goto (tgt := 3) hx hb d_Mo_between_76 (by decide) ?_
  refine lv_iload hx hb d_Mo_between_3 (lv_at hl 0 rfl) ?_
  refine lv_bipush (v := 6) hx hb d_Mo_between_5 (by decide) ?_
  refine lv_icmp_ge (tgt := 79) hx hb d_Mo_between_7 (by decide) (fun _ => ?_) (fun c_133 => absurd (by decide) c_133)
  refine lv_aload_n hx hb d_Mo_between_79 rfl (lv_at hl 1 rfl) ?_
  refine lv_dup hx hb d_Mo_between_80 rfl ?_
  refine va_get (D := (dC, dI)) (ci := 3) (v := .int (nI nn)) (C := R_Mo) (T := F_Mo) (N := 12) hx hb hts (fun w h => mw (i_Mo w h)) hown hK hP 0 rfl rfl 8 (by decide) (hts _ (mw wd_245)) (fun _ h9 => h9) rfl d_Mo_between_81 ?_
  refine lv_iconst (v := 1) hx hb d_Mo_between_84 (by decide) ?_
  refine lv_iadd hx hb d_Mo_between_85 ?_
  refine lv_topi (fun y_134 ey_134 => ?_)
  have ey_134 : y_134 = nI (nn + 1) := by rw [ey_134]; first | rfl | (simp only [nk_set_0, nk_set_1, nk_set_2, nk_set_3, nk_set_4, nk_set_5, nk_set_6, nk_set_7, nk_set_12, nk_set_13, nk_set_18, pk_mul, nI_add]; done) | (simp only [nk_set_0, nk_set_1, nk_set_2, nk_set_3, nk_set_4, nk_set_5, nk_set_6, nk_set_7, nk_set_12, nk_set_13, nk_set_18, pk_mul, nI_add]; exact congrArg nI (by omega))
  subst ey_134
  refine va_put (D := (dC, dI)) (ci := 3) (v := .int (nI (nn + 1))) (ty := .int) (C := R_Mo) (T := F_Mo) (N := 12) hx hb hts (fun w h => mw (i_Mo w h)) t_Mo t_Mo_ok n_Mo hown hK hP hD hS 0 rfl rfl 8 (by decide) (hts _ (mw wd_245)) (fun _ h9 => h9) rfl (by decide +kernel) rfl rfl (Nat.le_of_ble_eq_true rfl) d_Mo_between_86 (fun H locs hP hD hS => ?_)
  have hP : va_P (dC, dI) cls4 [(mo, .inr (3, [.int 0, .int wi, .int hi, .int fo, .ref mt, .ref mr, .int ma, .ref mx, .int (nI (nn + 1)), .ref mp, .ref mq, .int (nI ct)])), (mt, .inl (cJ, 18, .inr (.inl mtf))), (mr, .inl (cJ, 120, .inr (.inl mrf))), (mx, .inl (cJ, 120, .inr (.inl (vp_updL (vp_updL (vp_updL (vp_updL (vp_updL (vp_updL mxf (6 * nn + 0) y_20) (6 * nn + 1) y_42) (6 * nn + 2) y_64) (6 * nn + 3) y_86) (6 * nn + 4) y_108) (6 * nn + 5) y_130)))), (mp, .inl (cJ, 324, .inr (.inl mpf))), (mq, .inl (cJ, 18, .inr (.inl mqf)))] H := hP
  have hD : va_D A [(mo, .inr (3, [.int 0, .int wi, .int hi, .int fo, .ref mt, .ref mr, .int ma, .ref mx, .int (nI (nn + 1)), .ref mp, .ref mq, .int (nI ct)])), (mt, .inl (cJ, 18, .inr (.inl mtf))), (mr, .inl (cJ, 120, .inr (.inl mrf))), (mx, .inl (cJ, 120, .inr (.inl (vp_updL (vp_updL (vp_updL (vp_updL (vp_updL (vp_updL mxf (6 * nn + 0) y_20) (6 * nn + 1) y_42) (6 * nn + 2) y_64) (6 * nn + 3) y_86) (6 * nn + 4) y_108) (6 * nn + 5) y_130)))), (mp, .inl (cJ, 324, .inr (.inl mpf))), (mq, .inl (cJ, 18, .inr (.inl mqf)))] := hD
  subst ey_8
  subst ey_13
  subst ey_18
  subst er_19
  subst ey_20
  subst ey_30
  subst ey_35
  subst ey_40
  subst er_41
  subst ey_42
  subst ey_52
  subst ey_57
  subst ey_62
  subst er_63
  subst ey_64
  subst ey_74
  subst ey_79
  subst ey_84
  subst er_85
  subst ey_86
  subst ey_96
  subst ey_101
  subst ey_106
  subst er_107
  subst ey_108
  subst ey_118
  subst ey_123
  subst ey_128
  subst er_129
  subst ey_130
  have hst : vp_updL (vp_updL (vp_updL (vp_updL (vp_updL (vp_updL mxf (6 * nn + 0) ((mrf (6 * pp + 0)) + (pu_div (((mrf (6 * qq + 0)) - (mrf (6 * pp + 0))) * va) (va - vb)))) (6 * nn + 1) ((mrf (6 * pp + 1)) + (pu_div (((mrf (6 * qq + 1)) - (mrf (6 * pp + 1))) * va) (va - vb)))) (6 * nn + 2) ((mrf (6 * pp + 2)) + (pu_div (((mrf (6 * qq + 2)) - (mrf (6 * pp + 2))) * va) (va - vb)))) (6 * nn + 3) ((mrf (6 * pp + 3)) + (pu_div (((mrf (6 * qq + 3)) - (mrf (6 * pp + 3))) * va) (va - vb)))) (6 * nn + 4) ((mrf (6 * pp + 4)) + (pu_div (((mrf (6 * qq + 4)) - (mrf (6 * pp + 4))) * va) (va - vb)))) (6 * nn + 5) ((mrf (6 * pp + 5)) + (pu_div (((mrf (6 * qq + 5)) - (mrf (6 * pp + 5))) * va) (va - vb))) = pu_put mxf nn (fun q9 => pu_btw (mrf (6 * pp + q9)) (mrf (6 * qq + q9)) va vb) := six_eq (fun q9 => pu_btw (mrf (6 * pp + q9)) (mrf (6 * qq + q9)) va vb) rfl rfl rfl rfl rfl rfl rfl rfl rfl rfl rfl rfl
  rw [hst] at hP hD
  exact W.vret hx hb hr (fun t ht hW => ⟨⟨(), rfl, trivial, by rw [ht]; exact hP, hD⟩, hS.F ht⟩) hS.2.2 d_Mo_between_89
set_option maxHeartbeats 4000000 in
set_option maxRecDepth 100000 in
theorem c_Mo_lay (l : Launch) (dC : Nat → ClassId) (dI : Nat → Nat → Nat) (cJ cI : ClassId) (sz : Nat) (mo : Nat) (wi : Int32) (hi : Int32) (fo : Int32) (mt : Nat) (mr : Nat) (ma : Int32) (mx : Nat) (mn : Int32) (mp : Nat) (mq : Nat) (ct : Nat) (mtf : Nat → Int64) (mrf : Nat → Int64) (mxf : Nat → Int64) (mpf : Nat → Int64) (mqf : Nat → Int64) (pp : Nat) (cc : Nat) (co : Nat) (hp9 : pp < 18) (hc9 : cc < 3) (ho9 : co < 20) (hz9 : ¬ mrf (6 * co + 2) = 0) : Met l y_Mo_lay w_Mo_lay ({ frames := 1, cells := 0, slots := 0, locals := 25 } : Room) (rq_rw (dC, dI) cJ cI sz [.ref mo, .int (nI pp), .int (nI cc), .int (nI co)] [(mo, .inr (3, [.int 0, .int wi, .int hi, .int fo, .ref mt, .ref mr, .int ma, .ref mx, .int mn, .ref mp, .ref mq, .int (nI ct)])), (mt, .inl (cJ, 18, .inr (.inl mtf))), (mr, .inl (cJ, 120, .inr (.inl mrf))), (mx, .inl (cJ, 120, .inr (.inl mxf))), (mp, .inl (cJ, 324, .inr (.inl mpf))), (mq, .inl (cJ, 18, .inr (.inl mqf)))]) (va_Qv (fun _ : Unit => True) (rz (dC, dI) (va_A [(mo, .inr (3, [.int 0, .int wi, .int hi, .int fo, .ref mt, .ref mr, .int ma, .ref mx, .int mn, .ref mp, .ref mq, .int (nI ct)])), (mt, .inl (cJ, 18, .inr (.inl mtf))), (mr, .inl (cJ, 120, .inr (.inl mrf))), (mx, .inl (cJ, 120, .inr (.inl mxf))), (mp, .inl (cJ, 324, .inr (.inl mpf))), (mq, .inl (cJ, 18, .inr (.inl mqf)))] sz) [(mo, .inr (3, [.int 0, .int wi, .int hi, .int fo, .ref mt, .ref mr, .int ma, .ref mx, .int mn, .ref mp, .ref mq, .int (nI ct)])), (mt, .inl (cJ, 18, .inr (.inl mtf))), (mr, .inl (cJ, 120, .inr (.inl mrf))), (mx, .inl (cJ, 120, .inr (.inl mxf))), (mp, .inl (cJ, 324, .inr (.inl (pu_put mpf (3 * pp + cc) (fun q9 => pu_lay fo wi hi mrf co q9))))), (mq, .inl (cJ, 18, .inr (.inl mqf)))]) (va_A [(mo, .inr (3, [.int 0, .int wi, .int hi, .int fo, .ref mt, .ref mr, .int ma, .ref mx, .int mn, .ref mp, .ref mq, .int (nI ct)])), (mt, .inl (cJ, 18, .inr (.inl mtf))), (mr, .inl (cJ, 120, .inr (.inl mrf))), (mx, .inl (cJ, 120, .inr (.inl mxf))), (mp, .inl (cJ, 324, .inr (.inl mpf))), (mq, .inl (cJ, 18, .inr (.inl mqf)))] sz)) 0 0 (va_A [(mo, .inr (3, [.int 0, .int wi, .int hi, .int fo, .ref mt, .ref mr, .int ma, .ref mx, .int mn, .ref mp, .ref mq, .int (nI ct)])), (mt, .inl (cJ, 18, .inr (.inl mtf))), (mr, .inl (cJ, 120, .inr (.inl mrf))), (mx, .inl (cJ, 120, .inr (.inl mxf))), (mp, .inl (cJ, 324, .inr (.inl mpf))), (mq, .inl (cJ, 18, .inr (.inl mqf)))] sz) := by
  refine Met.ofW (cc := b_Mo_lay) (maxL := 8) (ret := none) (by decide) rfl ?_
  intro p e s m args below meth c s₁ B hml hv
  obtain ⟨rfl, hsz, hP, hK, hN, hD0⟩ := hv
  have hx := B.exec
  have hb := B.bytes
  have hr := B.returns
  have hts := atoms_spec (ws := w_Mo_lay) B.pre
  have hown : s.vm.findClass R_Mo = some m.cls := findClass_of_methodNamed B.named
  have hlocks := B.notSynchronized
  subst hsz
  have hD := hD0.self (sz := s.heap.size)
  generalize hAe : va_A [(mo, .inr (3, [.int 0, .int wi, .int hi, .int fo, .ref mt, .ref mr, .int ma, .ref mx, .int mn, .ref mp, .ref mq, .int (nI ct)])), (mt, .inl (cJ, 18, .inr (.inl mtf))), (mr, .inl (cJ, 120, .inr (.inl mrf))), (mx, .inl (cJ, 120, .inr (.inl mxf))), (mp, .inl (cJ, 324, .inr (.inl mpf))), (mq, .inl (cJ, 18, .inr (.inl mqf)))] s.heap.size = A at hD ⊢
  have hA : ∀ q : Nat, s.heap.size ≤ q → A q := fun q h => by rw [← hAe]; exact Or.inr h
  have hS : va_S A s.heap s.heap [] := va_S.rf
  have hl := lv_entry ([.ref mo, .int (nI pp), .int (nI cc), .int (nI co)]) (n := 8) (Nat.le_of_ble_eq_true rfl)
  rw [lg_entry_eq]
  generalize (lg_sl ([.ref mo, .int (nI pp), .int (nI cc), .int (nI co)]) ++ List.replicate (8 - (lg_sl ([.ref mo, .int (nI pp), .int (nI cc), .int (nI co)])).length) Slot.unset).toArray = ls at hl ⊢
  have hl : lv_has ls 8 [(0, .ref mo), (1, .int (nI pp)), (2, .int (nI cc)), (3, .int (nI co))] := hl
  have hP : va_P (dC, dI) cls4 [(mo, .inr (3, [.int 0, .int wi, .int hi, .int fo, .ref mt, .ref mr, .int ma, .ref mx, .int mn, .ref mp, .ref mq, .int (nI ct)])), (mt, .inl (cJ, 18, .inr (.inl mtf))), (mr, .inl (cJ, 120, .inr (.inl mrf))), (mx, .inl (cJ, 120, .inr (.inl mxf))), (mp, .inl (cJ, 324, .inr (.inl mpf))), (mq, .inl (cJ, 18, .inr (.inl mqf)))] s.heap := hP
  refine lv_bipush (v := 18) hx hb d_Mo_lay_0 (by decide) ?_
  refine lv_iload_n hx hb d_Mo_lay_2 rfl (lv_at hl 1 rfl) ?_
  refine lv_imul hx hb d_Mo_lay_3 ?_
  refine lv_topi (fun y_1 ey_1 => ?_)
  have ey_1 : y_1 = nI (18 * pp) := by rw [ey_1]; first | rfl | (simp only [nk_set_0, nk_set_1, nk_set_2, nk_set_3, nk_set_4, nk_set_5, nk_set_6, nk_set_7, nk_set_12, nk_set_13, nk_set_18, pk_mul, nI_add]; done) | (simp only [nk_set_0, nk_set_1, nk_set_2, nk_set_3, nk_set_4, nk_set_5, nk_set_6, nk_set_7, nk_set_12, nk_set_13, nk_set_18, pk_mul, nI_add]; exact congrArg nI (by omega))
  subst ey_1
  refine lv_bipush (v := 6) hx hb d_Mo_lay_4 (by decide) ?_
  refine lv_iload_n hx hb d_Mo_lay_6 rfl (lv_at hl 2 rfl) ?_
  refine lv_imul hx hb d_Mo_lay_7 ?_
  refine lv_topi (fun y_2 ey_2 => ?_)
  have ey_2 : y_2 = nI (6 * cc) := by rw [ey_2]; first | rfl | (simp only [nk_set_0, nk_set_1, nk_set_2, nk_set_3, nk_set_4, nk_set_5, nk_set_6, nk_set_7, nk_set_12, nk_set_13, nk_set_18, pk_mul, nI_add]; done) | (simp only [nk_set_0, nk_set_1, nk_set_2, nk_set_3, nk_set_4, nk_set_5, nk_set_6, nk_set_7, nk_set_12, nk_set_13, nk_set_18, pk_mul, nI_add]; exact congrArg nI (by omega))
  subst ey_2
  refine lv_iadd hx hb d_Mo_lay_8 ?_
  refine lv_topi (fun y_3 ey_3 => ?_)
  have ey_3 : y_3 = nI (18 * pp + (6 * cc)) := by rw [ey_3]; first | rfl | (simp only [nk_set_0, nk_set_1, nk_set_2, nk_set_3, nk_set_4, nk_set_5, nk_set_6, nk_set_7, nk_set_12, nk_set_13, nk_set_18, pk_mul, nI_add]; done) | (simp only [nk_set_0, nk_set_1, nk_set_2, nk_set_3, nk_set_4, nk_set_5, nk_set_6, nk_set_7, nk_set_12, nk_set_13, nk_set_18, pk_mul, nI_add]; exact congrArg nI (by omega))
  subst ey_3
  refine lv_istore (lv' := [(4, .int (nI (18 * pp + (6 * cc)))), (0, .ref mo), (1, .int (nI pp)), (2, .int (nI cc)), (3, .int (nI co))]) hx hb d_Mo_lay_9 hl (by decide) rfl (fun ls hl => ?_)
  refine lv_aload_n hx hb d_Mo_lay_11 rfl (lv_at hl 1 rfl) ?_
  refine va_get (D := (dC, dI)) (ci := 3) (v := .ref mr) (C := R_Mo) (T := F_Mo) (N := 12) hx hb hts (fun w h => mw (i_Mo w h)) hown hK hP 0 rfl rfl 5 (by decide) (hts _ (mw wd_242)) (fun _ h9 => h9) rfl d_Mo_lay_12 ?_
  refine lv_bipush (v := 6) hx hb d_Mo_lay_15 (by decide) ?_
  refine lv_iload_n hx hb d_Mo_lay_17 rfl (lv_at hl 4 rfl) ?_
  refine lv_imul hx hb d_Mo_lay_18 ?_
  refine lv_topi (fun y_4 ey_4 => ?_)
  have ey_4 : y_4 = nI (6 * co) := by rw [ey_4]; first | rfl | (simp only [nk_set_0, nk_set_1, nk_set_2, nk_set_3, nk_set_4, nk_set_5, nk_set_6, nk_set_7, nk_set_12, nk_set_13, nk_set_18, pk_mul, nI_add]; done) | (simp only [nk_set_0, nk_set_1, nk_set_2, nk_set_3, nk_set_4, nk_set_5, nk_set_6, nk_set_7, nk_set_12, nk_set_13, nk_set_18, pk_mul, nI_add]; exact congrArg nI (by omega))
  subst ey_4
  refine lv_iconst (v := 2) hx hb d_Mo_lay_19 (by decide) ?_
  refine lv_iadd hx hb d_Mo_lay_20 ?_
  refine lv_topi (fun y_5 ey_5 => ?_)
  have ey_5 : y_5 = nI (6 * co + 2) := by rw [ey_5]; first | rfl | (simp only [nk_set_0, nk_set_1, nk_set_2, nk_set_3, nk_set_4, nk_set_5, nk_set_6, nk_set_7, nk_set_12, nk_set_13, nk_set_18, pk_mul, nI_add]; done) | (simp only [nk_set_0, nk_set_1, nk_set_2, nk_set_3, nk_set_4, nk_set_5, nk_set_6, nk_set_7, nk_set_12, nk_set_13, nk_set_18, pk_mul, nI_add]; exact congrArg nI (by omega))
  subst ey_5
  have hq_6 : nI (6 * co + 2) = nI (6 * co + 2) := by first | rfl | (simp only [nk_set_0, nk_set_1, nk_set_2, nk_set_3, nk_set_4, nk_set_5, nk_set_6, nk_set_7, nk_set_12, nk_set_13, nk_set_18, pk_mul, nI_add]; done) | (simp only [nk_set_0, nk_set_1, nk_set_2, nk_set_3, nk_set_4, nk_set_5, nk_set_6, nk_set_7, nk_set_12, nk_set_13, nk_set_18, pk_mul, nI_add]; exact congrArg nI (by omega))
  have hi_7 : vp_in (nI (6 * co + 2)) 120 := by rw [hq_6]; exact vp_in_nI (by omega) (by decide)
  refine va_lald hx hb hK hP 2 0 rfl rfl hi_7 d_Mo_lay_21 ?_
  refine lv_topl (fun y_8 ey_8 => ?_)
  rw [hq_6, nI_clamp (by omega)] at ey_8
  refine lv_lstore (lv' := [(5, .long y_8), (4, .int (nI (18 * pp + (6 * cc)))), (0, .ref mo), (1, .int (nI pp)), (2, .int (nI cc)), (3, .int (nI co))]) hx hb d_Mo_lay_22 hl (by decide) rfl (fun ls hl => ?_)
  refine lv_aload_n hx hb d_Mo_lay_24 rfl (lv_at hl 2 rfl) ?_
  refine va_get (D := (dC, dI)) (ci := 3) (v := .ref mp) (C := R_Mo) (T := F_Mo) (N := 12) hx hb hts (fun w h => mw (i_Mo w h)) hown hK hP 0 rfl rfl 9 (by decide) (hts _ (mw wd_246)) (fun _ h9 => h9) rfl d_Mo_lay_25 ?_
  refine lv_iload hx hb d_Mo_lay_28 (lv_at hl 1 rfl) ?_
  refine lv_ldc2 hx hb hown (hts _ (mw wd_304)) d_Mo_lay_30 ?_
  refine lv_aload_n hx hb d_Mo_lay_33 rfl (lv_at hl 2 rfl) ?_
  refine va_get (D := (dC, dI)) (ci := 3) (v := .int fo) (C := R_Mo) (T := F_Mo) (N := 12) hx hb hts (fun w h => mw (i_Mo w h)) hown hK hP 0 rfl rfl 3 (by decide) (hts _ (mw wd_240)) (fun _ h9 => h9) rfl d_Mo_lay_34 ?_
  refine lv_i2l hx hb d_Mo_lay_37 rfl ?_
  refine lv_lmul hx hb d_Mo_lay_38 ?_
  refine lv_aload_n hx hb d_Mo_lay_39 rfl (lv_at hl 2 rfl) ?_
  refine va_get (D := (dC, dI)) (ci := 3) (v := .ref mr) (C := R_Mo) (T := F_Mo) (N := 12) hx hb hts (fun w h => mw (i_Mo w h)) hown hK hP 0 rfl rfl 5 (by decide) (hts _ (mw wd_242)) (fun _ h9 => h9) rfl d_Mo_lay_40 ?_
  refine lv_bipush (v := 6) hx hb d_Mo_lay_43 (by decide) ?_
  refine lv_iload_n hx hb d_Mo_lay_45 rfl (lv_at hl 5 rfl) ?_
  refine lv_imul hx hb d_Mo_lay_46 ?_
  refine lv_topi (fun y_9 ey_9 => ?_)
  have ey_9 : y_9 = nI (6 * co) := by rw [ey_9]; first | rfl | (simp only [nk_set_0, nk_set_1, nk_set_2, nk_set_3, nk_set_4, nk_set_5, nk_set_6, nk_set_7, nk_set_12, nk_set_13, nk_set_18, pk_mul, nI_add]; done) | (simp only [nk_set_0, nk_set_1, nk_set_2, nk_set_3, nk_set_4, nk_set_5, nk_set_6, nk_set_7, nk_set_12, nk_set_13, nk_set_18, pk_mul, nI_add]; exact congrArg nI (by omega))
  subst ey_9
  have hq_10 : nI (6 * co) = nI (6 * co) := by first | rfl | (simp only [nk_set_0, nk_set_1, nk_set_2, nk_set_3, nk_set_4, nk_set_5, nk_set_6, nk_set_7, nk_set_12, nk_set_13, nk_set_18, pk_mul, nI_add]; done) | (simp only [nk_set_0, nk_set_1, nk_set_2, nk_set_3, nk_set_4, nk_set_5, nk_set_6, nk_set_7, nk_set_12, nk_set_13, nk_set_18, pk_mul, nI_add]; exact congrArg nI (by omega))
  have hi_11 : vp_in (nI (6 * co)) 120 := by rw [hq_10]; exact vp_in_nI (by omega) (by decide)
  refine va_lald hx hb hK hP 2 0 rfl rfl hi_11 d_Mo_lay_47 ?_
  refine lv_topl (fun y_12 ey_12 => ?_)
  rw [hq_10, nI_clamp (by omega)] at ey_12
  refine lv_lmul hx hb d_Mo_lay_48 ?_
  refine lv_lload hx hb d_Mo_lay_49 (lv_at hl 0 rfl) ?_
  refine vp_callSl (va_Run.run (va_runS (As := [.long ((16 * fo.toInt64) * y_12), .long y_8]) (rest := [.int (nI (18 * pp + (6 * cc))), .ref mp]) ⟨hx, hb, hml, hown, hts⟩ (k_Mo_div l dC dI cJ cI ((16 * fo.toInt64) * y_12) y_8 (by rw [ey_8]; exact hz9)) (va_cwS 2 hts (gd_S wd_298 wd_299 wd_37 wd_300) rfl rfl rfl (by decide +kernel) ⟨Nat.le_of_ble_eq_true rfl, Nat.le_of_ble_eq_true rfl⟩) ⟨fb_ro, pre_ro hK hN va_nil⟩ rfl rfl hl.1 rfl (lv_room (Nat.le_of_ble_eq_true rfl)) d_Mo_lay_51 ⟨Nat.le_of_ble_eq_true rfl, Nat.le_of_ble_eq_true rfl⟩)) (fun r_13 er_13 => ?_)
  have er_13 : r_13 = pu_div ((16 * fo.toInt64) * y_12) y_8 := er_13
  refine lv_ldc2 hx hb hown (hts _ (mw wd_305)) d_Mo_lay_54 ?_
  refine lv_aload_n hx hb d_Mo_lay_57 rfl (lv_at hl 2 rfl) ?_
  refine va_get (D := (dC, dI)) (ci := 3) (v := .int wi) (C := R_Mo) (T := F_Mo) (N := 12) hx hb hts (fun w h => mw (i_Mo w h)) hown hK hP 0 rfl rfl 1 (by decide) (hts _ (mw wd_238)) (fun _ h9 => h9) rfl d_Mo_lay_58 ?_
  refine lv_i2l hx hb d_Mo_lay_61 rfl ?_
  refine lv_lmul hx hb d_Mo_lay_62 ?_
  refine lv_ladd hx hb d_Mo_lay_63 ?_
  refine lv_topl (fun y_14 ey_14 => ?_)
  have hq_15 : nI (18 * pp + (6 * cc)) = nI (18 * pp + (6 * cc)) := by first | rfl | (simp only [nk_set_0, nk_set_1, nk_set_2, nk_set_3, nk_set_4, nk_set_5, nk_set_6, nk_set_7, nk_set_12, nk_set_13, nk_set_18, pk_mul, nI_add]; done) | (simp only [nk_set_0, nk_set_1, nk_set_2, nk_set_3, nk_set_4, nk_set_5, nk_set_6, nk_set_7, nk_set_12, nk_set_13, nk_set_18, pk_mul, nI_add]; exact congrArg nI (by omega))
  have hi_16 : vp_in (nI (18 * pp + (6 * cc))) 324 := by rw [hq_15]; exact vp_in_nI (by omega) (by decide)
  refine va_last hx hb hK hP hD hS 4 0 rfl rfl hi_16 d_Mo_lay_64 (fun H locs hP hD hS => ?_)
  rw [hq_15, nI_clamp (by omega)] at hP hD
  have hP : va_P (dC, dI) cls4 [(mo, .inr (3, [.int 0, .int wi, .int hi, .int fo, .ref mt, .ref mr, .int ma, .ref mx, .int mn, .ref mp, .ref mq, .int (nI ct)])), (mt, .inl (cJ, 18, .inr (.inl mtf))), (mr, .inl (cJ, 120, .inr (.inl mrf))), (mx, .inl (cJ, 120, .inr (.inl mxf))), (mp, .inl (cJ, 324, .inr (.inl (vp_updL mpf (18 * pp + (6 * cc)) y_14)))), (mq, .inl (cJ, 18, .inr (.inl mqf)))] H := hP
  have hD : va_D A [(mo, .inr (3, [.int 0, .int wi, .int hi, .int fo, .ref mt, .ref mr, .int ma, .ref mx, .int mn, .ref mp, .ref mq, .int (nI ct)])), (mt, .inl (cJ, 18, .inr (.inl mtf))), (mr, .inl (cJ, 120, .inr (.inl mrf))), (mx, .inl (cJ, 120, .inr (.inl mxf))), (mp, .inl (cJ, 324, .inr (.inl (vp_updL mpf (18 * pp + (6 * cc)) y_14)))), (mq, .inl (cJ, 18, .inr (.inl mqf)))] := hD
  refine lv_aload_n hx hb d_Mo_lay_65 rfl (lv_at hl 2 rfl) ?_
  refine va_get (D := (dC, dI)) (ci := 3) (v := .ref mp) (C := R_Mo) (T := F_Mo) (N := 12) hx hb hts (fun w h => mw (i_Mo w h)) hown hK hP 0 rfl rfl 9 (by decide) (hts _ (mw wd_246)) (fun _ h9 => h9) rfl d_Mo_lay_66 ?_
  refine lv_iload hx hb d_Mo_lay_69 (lv_at hl 1 rfl) ?_
  refine lv_iconst (v := 1) hx hb d_Mo_lay_71 (by decide) ?_
  refine lv_iadd hx hb d_Mo_lay_72 ?_
  refine lv_topi (fun y_17 ey_17 => ?_)
  have ey_17 : y_17 = nI (18 * pp + (6 * cc) + 1) := by rw [ey_17]; first | rfl | (simp only [nk_set_0, nk_set_1, nk_set_2, nk_set_3, nk_set_4, nk_set_5, nk_set_6, nk_set_7, nk_set_12, nk_set_13, nk_set_18, pk_mul, nI_add]; done) | (simp only [nk_set_0, nk_set_1, nk_set_2, nk_set_3, nk_set_4, nk_set_5, nk_set_6, nk_set_7, nk_set_12, nk_set_13, nk_set_18, pk_mul, nI_add]; exact congrArg nI (by omega))
  subst ey_17
  refine lv_ldc2 hx hb hown (hts _ (mw wd_304)) d_Mo_lay_73 ?_
  refine lv_aload_n hx hb d_Mo_lay_76 rfl (lv_at hl 2 rfl) ?_
  refine va_get (D := (dC, dI)) (ci := 3) (v := .int fo) (C := R_Mo) (T := F_Mo) (N := 12) hx hb hts (fun w h => mw (i_Mo w h)) hown hK hP 0 rfl rfl 3 (by decide) (hts _ (mw wd_240)) (fun _ h9 => h9) rfl d_Mo_lay_77 ?_
  refine lv_i2l hx hb d_Mo_lay_80 rfl ?_
  refine lv_lmul hx hb d_Mo_lay_81 ?_
  refine lv_aload_n hx hb d_Mo_lay_82 rfl (lv_at hl 2 rfl) ?_
  refine va_get (D := (dC, dI)) (ci := 3) (v := .ref mr) (C := R_Mo) (T := F_Mo) (N := 12) hx hb hts (fun w h => mw (i_Mo w h)) hown hK hP 0 rfl rfl 5 (by decide) (hts _ (mw wd_242)) (fun _ h9 => h9) rfl d_Mo_lay_83 ?_
  refine lv_bipush (v := 6) hx hb d_Mo_lay_86 (by decide) ?_
  refine lv_iload_n hx hb d_Mo_lay_88 rfl (lv_at hl 5 rfl) ?_
  refine lv_imul hx hb d_Mo_lay_89 ?_
  refine lv_topi (fun y_18 ey_18 => ?_)
  have ey_18 : y_18 = nI (6 * co) := by rw [ey_18]; first | rfl | (simp only [nk_set_0, nk_set_1, nk_set_2, nk_set_3, nk_set_4, nk_set_5, nk_set_6, nk_set_7, nk_set_12, nk_set_13, nk_set_18, pk_mul, nI_add]; done) | (simp only [nk_set_0, nk_set_1, nk_set_2, nk_set_3, nk_set_4, nk_set_5, nk_set_6, nk_set_7, nk_set_12, nk_set_13, nk_set_18, pk_mul, nI_add]; exact congrArg nI (by omega))
  subst ey_18
  refine lv_iconst (v := 1) hx hb d_Mo_lay_90 (by decide) ?_
  refine lv_iadd hx hb d_Mo_lay_91 ?_
  refine lv_topi (fun y_19 ey_19 => ?_)
  have ey_19 : y_19 = nI (6 * co + 1) := by rw [ey_19]; first | rfl | (simp only [nk_set_0, nk_set_1, nk_set_2, nk_set_3, nk_set_4, nk_set_5, nk_set_6, nk_set_7, nk_set_12, nk_set_13, nk_set_18, pk_mul, nI_add]; done) | (simp only [nk_set_0, nk_set_1, nk_set_2, nk_set_3, nk_set_4, nk_set_5, nk_set_6, nk_set_7, nk_set_12, nk_set_13, nk_set_18, pk_mul, nI_add]; exact congrArg nI (by omega))
  subst ey_19
  have hq_20 : nI (6 * co + 1) = nI (6 * co + 1) := by first | rfl | (simp only [nk_set_0, nk_set_1, nk_set_2, nk_set_3, nk_set_4, nk_set_5, nk_set_6, nk_set_7, nk_set_12, nk_set_13, nk_set_18, pk_mul, nI_add]; done) | (simp only [nk_set_0, nk_set_1, nk_set_2, nk_set_3, nk_set_4, nk_set_5, nk_set_6, nk_set_7, nk_set_12, nk_set_13, nk_set_18, pk_mul, nI_add]; exact congrArg nI (by omega))
  have hi_21 : vp_in (nI (6 * co + 1)) 120 := by rw [hq_20]; exact vp_in_nI (by omega) (by decide)
  refine va_lald hx hb hK hP 2 0 rfl rfl hi_21 d_Mo_lay_92 ?_
  refine lv_topl (fun y_22 ey_22 => ?_)
  rw [hq_20, nI_clamp (by omega)] at ey_22
  refine lv_lmul hx hb d_Mo_lay_93 ?_
  refine lv_lload hx hb d_Mo_lay_94 (lv_at hl 0 rfl) ?_
  refine vp_callSl (va_Run.run (va_runS (As := [.long ((16 * fo.toInt64) * y_22), .long y_8]) (rest := [.int (nI (18 * pp + (6 * cc) + 1)), .ref mp]) ⟨hx, hb, hml, hown, hts⟩ (k_Mo_div l dC dI cJ cI ((16 * fo.toInt64) * y_22) y_8 (by rw [ey_8]; exact hz9)) (va_cwS 2 hts (gd_S wd_298 wd_299 wd_37 wd_300) rfl rfl rfl (by decide +kernel) ⟨Nat.le_of_ble_eq_true rfl, Nat.le_of_ble_eq_true rfl⟩) ⟨fb_ro, pre_ro hK hN va_nil⟩ rfl rfl hl.1 rfl (lv_room (Nat.le_of_ble_eq_true rfl)) d_Mo_lay_96 ⟨Nat.le_of_ble_eq_true rfl, Nat.le_of_ble_eq_true rfl⟩)) (fun r_23 er_23 => ?_)
  have er_23 : r_23 = pu_div ((16 * fo.toInt64) * y_22) y_8 := er_23
  refine lv_ldc2 hx hb hown (hts _ (mw wd_305)) d_Mo_lay_99 ?_
  refine lv_aload_n hx hb d_Mo_lay_102 rfl (lv_at hl 2 rfl) ?_
  refine va_get (D := (dC, dI)) (ci := 3) (v := .int hi) (C := R_Mo) (T := F_Mo) (N := 12) hx hb hts (fun w h => mw (i_Mo w h)) hown hK hP 0 rfl rfl 2 (by decide) (hts _ (mw wd_239)) (fun _ h9 => h9) rfl d_Mo_lay_103 ?_
  refine lv_i2l hx hb d_Mo_lay_106 rfl ?_
  refine lv_lmul hx hb d_Mo_lay_107 ?_
  refine lv_ladd hx hb d_Mo_lay_108 ?_
  refine lv_topl (fun y_24 ey_24 => ?_)
  have hq_25 : nI (18 * pp + (6 * cc) + 1) = nI (18 * pp + (6 * cc) + 1) := by first | rfl | (simp only [nk_set_0, nk_set_1, nk_set_2, nk_set_3, nk_set_4, nk_set_5, nk_set_6, nk_set_7, nk_set_12, nk_set_13, nk_set_18, pk_mul, nI_add]; done) | (simp only [nk_set_0, nk_set_1, nk_set_2, nk_set_3, nk_set_4, nk_set_5, nk_set_6, nk_set_7, nk_set_12, nk_set_13, nk_set_18, pk_mul, nI_add]; exact congrArg nI (by omega))
  have hi_26 : vp_in (nI (18 * pp + (6 * cc) + 1)) 324 := by rw [hq_25]; exact vp_in_nI (by omega) (by decide)
  refine va_last hx hb hK hP hD hS 4 0 rfl rfl hi_26 d_Mo_lay_109 (fun H locs hP hD hS => ?_)
  rw [hq_25, nI_clamp (by omega)] at hP hD
  have hP : va_P (dC, dI) cls4 [(mo, .inr (3, [.int 0, .int wi, .int hi, .int fo, .ref mt, .ref mr, .int ma, .ref mx, .int mn, .ref mp, .ref mq, .int (nI ct)])), (mt, .inl (cJ, 18, .inr (.inl mtf))), (mr, .inl (cJ, 120, .inr (.inl mrf))), (mx, .inl (cJ, 120, .inr (.inl mxf))), (mp, .inl (cJ, 324, .inr (.inl (vp_updL (vp_updL mpf (18 * pp + (6 * cc)) y_14) (18 * pp + (6 * cc) + 1) y_24)))), (mq, .inl (cJ, 18, .inr (.inl mqf)))] H := hP
  have hD : va_D A [(mo, .inr (3, [.int 0, .int wi, .int hi, .int fo, .ref mt, .ref mr, .int ma, .ref mx, .int mn, .ref mp, .ref mq, .int (nI ct)])), (mt, .inl (cJ, 18, .inr (.inl mtf))), (mr, .inl (cJ, 120, .inr (.inl mrf))), (mx, .inl (cJ, 120, .inr (.inl mxf))), (mp, .inl (cJ, 324, .inr (.inl (vp_updL (vp_updL mpf (18 * pp + (6 * cc)) y_14) (18 * pp + (6 * cc) + 1) y_24)))), (mq, .inl (cJ, 18, .inr (.inl mqf)))] := hD
  refine lv_aload_n hx hb d_Mo_lay_110 rfl (lv_at hl 2 rfl) ?_
  refine va_get (D := (dC, dI)) (ci := 3) (v := .ref mp) (C := R_Mo) (T := F_Mo) (N := 12) hx hb hts (fun w h => mw (i_Mo w h)) hown hK hP 0 rfl rfl 9 (by decide) (hts _ (mw wd_246)) (fun _ h9 => h9) rfl d_Mo_lay_111 ?_
  refine lv_iload hx hb d_Mo_lay_114 (lv_at hl 1 rfl) ?_
  refine lv_iconst (v := 2) hx hb d_Mo_lay_116 (by decide) ?_
  refine lv_iadd hx hb d_Mo_lay_117 ?_
  refine lv_topi (fun y_27 ey_27 => ?_)
  have ey_27 : y_27 = nI (18 * pp + (6 * cc) + 2) := by rw [ey_27]; first | rfl | (simp only [nk_set_0, nk_set_1, nk_set_2, nk_set_3, nk_set_4, nk_set_5, nk_set_6, nk_set_7, nk_set_12, nk_set_13, nk_set_18, pk_mul, nI_add]; done) | (simp only [nk_set_0, nk_set_1, nk_set_2, nk_set_3, nk_set_4, nk_set_5, nk_set_6, nk_set_7, nk_set_12, nk_set_13, nk_set_18, pk_mul, nI_add]; exact congrArg nI (by omega))
  subst ey_27
  refine lv_ldc2 hx hb hown (hts _ (mw wd_306)) d_Mo_lay_118 ?_
  refine lv_lload hx hb d_Mo_lay_121 (lv_at hl 0 rfl) ?_
  refine vp_callSl (va_Run.run (va_runS (As := [.long 4294967296, .long y_8]) (rest := [.int (nI (18 * pp + (6 * cc) + 2)), .ref mp]) ⟨hx, hb, hml, hown, hts⟩ (k_Mo_div l dC dI cJ cI 4294967296 y_8 (by rw [ey_8]; exact hz9)) (va_cwS 2 hts (gd_S wd_298 wd_299 wd_37 wd_300) rfl rfl rfl (by decide +kernel) ⟨Nat.le_of_ble_eq_true rfl, Nat.le_of_ble_eq_true rfl⟩) ⟨fb_ro, pre_ro hK hN va_nil⟩ rfl rfl hl.1 rfl (lv_room (Nat.le_of_ble_eq_true rfl)) d_Mo_lay_123 ⟨Nat.le_of_ble_eq_true rfl, Nat.le_of_ble_eq_true rfl⟩)) (fun r_28 er_28 => ?_)
  have er_28 : r_28 = pu_div 4294967296 y_8 := er_28
  have hq_29 : nI (18 * pp + (6 * cc) + 2) = nI (18 * pp + (6 * cc) + 2) := by first | rfl | (simp only [nk_set_0, nk_set_1, nk_set_2, nk_set_3, nk_set_4, nk_set_5, nk_set_6, nk_set_7, nk_set_12, nk_set_13, nk_set_18, pk_mul, nI_add]; done) | (simp only [nk_set_0, nk_set_1, nk_set_2, nk_set_3, nk_set_4, nk_set_5, nk_set_6, nk_set_7, nk_set_12, nk_set_13, nk_set_18, pk_mul, nI_add]; exact congrArg nI (by omega))
  have hi_30 : vp_in (nI (18 * pp + (6 * cc) + 2)) 324 := by rw [hq_29]; exact vp_in_nI (by omega) (by decide)
  refine va_last hx hb hK hP hD hS 4 0 rfl rfl hi_30 d_Mo_lay_126 (fun H locs hP hD hS => ?_)
  rw [hq_29, nI_clamp (by omega)] at hP hD
  have hP : va_P (dC, dI) cls4 [(mo, .inr (3, [.int 0, .int wi, .int hi, .int fo, .ref mt, .ref mr, .int ma, .ref mx, .int mn, .ref mp, .ref mq, .int (nI ct)])), (mt, .inl (cJ, 18, .inr (.inl mtf))), (mr, .inl (cJ, 120, .inr (.inl mrf))), (mx, .inl (cJ, 120, .inr (.inl mxf))), (mp, .inl (cJ, 324, .inr (.inl (vp_updL (vp_updL (vp_updL mpf (18 * pp + (6 * cc)) y_14) (18 * pp + (6 * cc) + 1) y_24) (18 * pp + (6 * cc) + 2) r_28)))), (mq, .inl (cJ, 18, .inr (.inl mqf)))] H := hP
  have hD : va_D A [(mo, .inr (3, [.int 0, .int wi, .int hi, .int fo, .ref mt, .ref mr, .int ma, .ref mx, .int mn, .ref mp, .ref mq, .int (nI ct)])), (mt, .inl (cJ, 18, .inr (.inl mtf))), (mr, .inl (cJ, 120, .inr (.inl mrf))), (mx, .inl (cJ, 120, .inr (.inl mxf))), (mp, .inl (cJ, 324, .inr (.inl (vp_updL (vp_updL (vp_updL mpf (18 * pp + (6 * cc)) y_14) (18 * pp + (6 * cc) + 1) y_24) (18 * pp + (6 * cc) + 2) r_28)))), (mq, .inl (cJ, 18, .inr (.inl mqf)))] := hD
  refine lv_iconst (v := 3) hx hb d_Mo_lay_127 (by decide) ?_
  refine lv_istore (lv' := [(7, .int 3), (5, .long y_8), (4, .int (nI (18 * pp + (6 * cc)))), (0, .ref mo), (1, .int (nI pp)), (2, .int (nI cc)), (3, .int (nI co))]) hx hb d_Mo_lay_128 hl (by decide) rfl (fun ls hl => ?_)
  refine lv_iload hx hb d_Mo_lay_130 (lv_at hl 0 rfl) ?_
  refine lv_bipush (v := 6) hx hb d_Mo_lay_132 (by decide) ?_
  refine lv_icmp_ge (tgt := 165) hx hb d_Mo_lay_134 (by decide) (fun c_31 => absurd c_31 (by decide)) (fun _ => ?_)
  refine lv_aload_n hx hb d_Mo_lay_137 rfl (lv_at hl 3 rfl) ?_
  refine va_get (D := (dC, dI)) (ci := 3) (v := .ref mp) (C := R_Mo) (T := F_Mo) (N := 12) hx hb hts (fun w h => mw (i_Mo w h)) hown hK hP 0 rfl rfl 9 (by decide) (hts _ (mw wd_246)) (fun _ h9 => h9) rfl d_Mo_lay_138 ?_
  refine lv_iload hx hb d_Mo_lay_141 (lv_at hl 2 rfl) ?_
  refine lv_iload hx hb d_Mo_lay_143 (lv_at hl 0 rfl) ?_
  refine lv_iadd hx hb d_Mo_lay_145 ?_
  refine lv_topi (fun y_32 ey_32 => ?_)
  have ey_32 : y_32 = nI (18 * pp + (6 * cc) + 3) := by rw [ey_32]; first | rfl | (simp only [nk_set_0, nk_set_1, nk_set_2, nk_set_3, nk_set_4, nk_set_5, nk_set_6, nk_set_7, nk_set_12, nk_set_13, nk_set_18, pk_mul, nI_add]; done) | (simp only [nk_set_0, nk_set_1, nk_set_2, nk_set_3, nk_set_4, nk_set_5, nk_set_6, nk_set_7, nk_set_12, nk_set_13, nk_set_18, pk_mul, nI_add]; exact congrArg nI (by omega))
  subst ey_32
  refine lv_aload_n hx hb d_Mo_lay_146 rfl (lv_at hl 3 rfl) ?_
  refine va_get (D := (dC, dI)) (ci := 3) (v := .ref mr) (C := R_Mo) (T := F_Mo) (N := 12) hx hb hts (fun w h => mw (i_Mo w h)) hown hK hP 0 rfl rfl 5 (by decide) (hts _ (mw wd_242)) (fun _ h9 => h9) rfl d_Mo_lay_147 ?_
  refine lv_bipush (v := 6) hx hb d_Mo_lay_150 (by decide) ?_
  refine lv_iload_n hx hb d_Mo_lay_152 rfl (lv_at hl 6 rfl) ?_
  refine lv_imul hx hb d_Mo_lay_153 ?_
  refine lv_topi (fun y_33 ey_33 => ?_)
  have ey_33 : y_33 = nI (6 * co) := by rw [ey_33]; first | rfl | (simp only [nk_set_0, nk_set_1, nk_set_2, nk_set_3, nk_set_4, nk_set_5, nk_set_6, nk_set_7, nk_set_12, nk_set_13, nk_set_18, pk_mul, nI_add]; done) | (simp only [nk_set_0, nk_set_1, nk_set_2, nk_set_3, nk_set_4, nk_set_5, nk_set_6, nk_set_7, nk_set_12, nk_set_13, nk_set_18, pk_mul, nI_add]; exact congrArg nI (by omega))
  subst ey_33
  refine lv_iload hx hb d_Mo_lay_154 (lv_at hl 0 rfl) ?_
  refine lv_iadd hx hb d_Mo_lay_156 ?_
  refine lv_topi (fun y_34 ey_34 => ?_)
  have ey_34 : y_34 = nI (6 * co + 3) := by rw [ey_34]; first | rfl | (simp only [nk_set_0, nk_set_1, nk_set_2, nk_set_3, nk_set_4, nk_set_5, nk_set_6, nk_set_7, nk_set_12, nk_set_13, nk_set_18, pk_mul, nI_add]; done) | (simp only [nk_set_0, nk_set_1, nk_set_2, nk_set_3, nk_set_4, nk_set_5, nk_set_6, nk_set_7, nk_set_12, nk_set_13, nk_set_18, pk_mul, nI_add]; exact congrArg nI (by omega))
  subst ey_34
  have hq_35 : nI (6 * co + 3) = nI (6 * co + 3) := by first | rfl | (simp only [nk_set_0, nk_set_1, nk_set_2, nk_set_3, nk_set_4, nk_set_5, nk_set_6, nk_set_7, nk_set_12, nk_set_13, nk_set_18, pk_mul, nI_add]; done) | (simp only [nk_set_0, nk_set_1, nk_set_2, nk_set_3, nk_set_4, nk_set_5, nk_set_6, nk_set_7, nk_set_12, nk_set_13, nk_set_18, pk_mul, nI_add]; exact congrArg nI (by omega))
  have hi_36 : vp_in (nI (6 * co + 3)) 120 := by rw [hq_35]; exact vp_in_nI (by omega) (by decide)
  refine va_lald hx hb hK hP 2 0 rfl rfl hi_36 d_Mo_lay_157 ?_
  refine lv_topl (fun y_37 ey_37 => ?_)
  rw [hq_35, nI_clamp (by omega)] at ey_37
  have hq_38 : nI (18 * pp + (6 * cc) + 3) = nI (18 * pp + (6 * cc) + 3) := by first | rfl | (simp only [nk_set_0, nk_set_1, nk_set_2, nk_set_3, nk_set_4, nk_set_5, nk_set_6, nk_set_7, nk_set_12, nk_set_13, nk_set_18, pk_mul, nI_add]; done) | (simp only [nk_set_0, nk_set_1, nk_set_2, nk_set_3, nk_set_4, nk_set_5, nk_set_6, nk_set_7, nk_set_12, nk_set_13, nk_set_18, pk_mul, nI_add]; exact congrArg nI (by omega))
  have hi_39 : vp_in (nI (18 * pp + (6 * cc) + 3)) 324 := by rw [hq_38]; exact vp_in_nI (by omega) (by decide)
  refine va_last hx hb hK hP hD hS 4 0 rfl rfl hi_39 d_Mo_lay_158 (fun H locs hP hD hS => ?_)
  rw [hq_38, nI_clamp (by omega)] at hP hD
  have hP : va_P (dC, dI) cls4 [(mo, .inr (3, [.int 0, .int wi, .int hi, .int fo, .ref mt, .ref mr, .int ma, .ref mx, .int mn, .ref mp, .ref mq, .int (nI ct)])), (mt, .inl (cJ, 18, .inr (.inl mtf))), (mr, .inl (cJ, 120, .inr (.inl mrf))), (mx, .inl (cJ, 120, .inr (.inl mxf))), (mp, .inl (cJ, 324, .inr (.inl (vp_updL (vp_updL (vp_updL (vp_updL mpf (18 * pp + (6 * cc)) y_14) (18 * pp + (6 * cc) + 1) y_24) (18 * pp + (6 * cc) + 2) r_28) (18 * pp + (6 * cc) + 3) y_37)))), (mq, .inl (cJ, 18, .inr (.inl mqf)))] H := hP
  have hD : va_D A [(mo, .inr (3, [.int 0, .int wi, .int hi, .int fo, .ref mt, .ref mr, .int ma, .ref mx, .int mn, .ref mp, .ref mq, .int (nI ct)])), (mt, .inl (cJ, 18, .inr (.inl mtf))), (mr, .inl (cJ, 120, .inr (.inl mrf))), (mx, .inl (cJ, 120, .inr (.inl mxf))), (mp, .inl (cJ, 324, .inr (.inl (vp_updL (vp_updL (vp_updL (vp_updL mpf (18 * pp + (6 * cc)) y_14) (18 * pp + (6 * cc) + 1) y_24) (18 * pp + (6 * cc) + 2) r_28) (18 * pp + (6 * cc) + 3) y_37)))), (mq, .inl (cJ, 18, .inr (.inl mqf)))] := hD
  refine lv_iinc (v := 4) (lv' := [(7, .int 4), (5, .long y_8), (4, .int (nI (18 * pp + (6 * cc)))), (0, .ref mo), (1, .int (nI pp)), (2, .int (nI cc)), (3, .int (nI co))]) hx hb d_Mo_lay_159 hl (k := 0) rfl (by decide) (by decide) rfl (fun ls hl => ?_)
  refine lv_goto (tgt := 130) hx hb d_Mo_lay_162 (by decide) ?_
  refine lv_iload hx hb d_Mo_lay_130 (lv_at hl 0 rfl) ?_
  refine lv_bipush (v := 6) hx hb d_Mo_lay_132 (by decide) ?_
  refine lv_icmp_ge (tgt := 165) hx hb d_Mo_lay_134 (by decide) (fun c_40 => absurd c_40 (by decide)) (fun _ => ?_)
  refine lv_aload_n hx hb d_Mo_lay_137 rfl (lv_at hl 3 rfl) ?_
  refine va_get (D := (dC, dI)) (ci := 3) (v := .ref mp) (C := R_Mo) (T := F_Mo) (N := 12) hx hb hts (fun w h => mw (i_Mo w h)) hown hK hP 0 rfl rfl 9 (by decide) (hts _ (mw wd_246)) (fun _ h9 => h9) rfl d_Mo_lay_138 ?_
  refine lv_iload hx hb d_Mo_lay_141 (lv_at hl 2 rfl) ?_
  refine lv_iload hx hb d_Mo_lay_143 (lv_at hl 0 rfl) ?_
  refine lv_iadd hx hb d_Mo_lay_145 ?_
  refine lv_topi (fun y_41 ey_41 => ?_)
  have ey_41 : y_41 = nI (18 * pp + (6 * cc) + 4) := by rw [ey_41]; first | rfl | (simp only [nk_set_0, nk_set_1, nk_set_2, nk_set_3, nk_set_4, nk_set_5, nk_set_6, nk_set_7, nk_set_12, nk_set_13, nk_set_18, pk_mul, nI_add]; done) | (simp only [nk_set_0, nk_set_1, nk_set_2, nk_set_3, nk_set_4, nk_set_5, nk_set_6, nk_set_7, nk_set_12, nk_set_13, nk_set_18, pk_mul, nI_add]; exact congrArg nI (by omega))
  subst ey_41
  refine lv_aload_n hx hb d_Mo_lay_146 rfl (lv_at hl 3 rfl) ?_
  refine va_get (D := (dC, dI)) (ci := 3) (v := .ref mr) (C := R_Mo) (T := F_Mo) (N := 12) hx hb hts (fun w h => mw (i_Mo w h)) hown hK hP 0 rfl rfl 5 (by decide) (hts _ (mw wd_242)) (fun _ h9 => h9) rfl d_Mo_lay_147 ?_
  refine lv_bipush (v := 6) hx hb d_Mo_lay_150 (by decide) ?_
  refine lv_iload_n hx hb d_Mo_lay_152 rfl (lv_at hl 6 rfl) ?_
  refine lv_imul hx hb d_Mo_lay_153 ?_
  refine lv_topi (fun y_42 ey_42 => ?_)
  have ey_42 : y_42 = nI (6 * co) := by rw [ey_42]; first | rfl | (simp only [nk_set_0, nk_set_1, nk_set_2, nk_set_3, nk_set_4, nk_set_5, nk_set_6, nk_set_7, nk_set_12, nk_set_13, nk_set_18, pk_mul, nI_add]; done) | (simp only [nk_set_0, nk_set_1, nk_set_2, nk_set_3, nk_set_4, nk_set_5, nk_set_6, nk_set_7, nk_set_12, nk_set_13, nk_set_18, pk_mul, nI_add]; exact congrArg nI (by omega))
  subst ey_42
  refine lv_iload hx hb d_Mo_lay_154 (lv_at hl 0 rfl) ?_
  refine lv_iadd hx hb d_Mo_lay_156 ?_
  refine lv_topi (fun y_43 ey_43 => ?_)
  have ey_43 : y_43 = nI (6 * co + 4) := by rw [ey_43]; first | rfl | (simp only [nk_set_0, nk_set_1, nk_set_2, nk_set_3, nk_set_4, nk_set_5, nk_set_6, nk_set_7, nk_set_12, nk_set_13, nk_set_18, pk_mul, nI_add]; done) | (simp only [nk_set_0, nk_set_1, nk_set_2, nk_set_3, nk_set_4, nk_set_5, nk_set_6, nk_set_7, nk_set_12, nk_set_13, nk_set_18, pk_mul, nI_add]; exact congrArg nI (by omega))
  subst ey_43
  have hq_44 : nI (6 * co + 4) = nI (6 * co + 4) := by first | rfl | (simp only [nk_set_0, nk_set_1, nk_set_2, nk_set_3, nk_set_4, nk_set_5, nk_set_6, nk_set_7, nk_set_12, nk_set_13, nk_set_18, pk_mul, nI_add]; done) | (simp only [nk_set_0, nk_set_1, nk_set_2, nk_set_3, nk_set_4, nk_set_5, nk_set_6, nk_set_7, nk_set_12, nk_set_13, nk_set_18, pk_mul, nI_add]; exact congrArg nI (by omega))
  have hi_45 : vp_in (nI (6 * co + 4)) 120 := by rw [hq_44]; exact vp_in_nI (by omega) (by decide)
  refine va_lald hx hb hK hP 2 0 rfl rfl hi_45 d_Mo_lay_157 ?_
  refine lv_topl (fun y_46 ey_46 => ?_)
  rw [hq_44, nI_clamp (by omega)] at ey_46
  have hq_47 : nI (18 * pp + (6 * cc) + 4) = nI (18 * pp + (6 * cc) + 4) := by first | rfl | (simp only [nk_set_0, nk_set_1, nk_set_2, nk_set_3, nk_set_4, nk_set_5, nk_set_6, nk_set_7, nk_set_12, nk_set_13, nk_set_18, pk_mul, nI_add]; done) | (simp only [nk_set_0, nk_set_1, nk_set_2, nk_set_3, nk_set_4, nk_set_5, nk_set_6, nk_set_7, nk_set_12, nk_set_13, nk_set_18, pk_mul, nI_add]; exact congrArg nI (by omega))
  have hi_48 : vp_in (nI (18 * pp + (6 * cc) + 4)) 324 := by rw [hq_47]; exact vp_in_nI (by omega) (by decide)
  refine va_last hx hb hK hP hD hS 4 0 rfl rfl hi_48 d_Mo_lay_158 (fun H locs hP hD hS => ?_)
  rw [hq_47, nI_clamp (by omega)] at hP hD
  have hP : va_P (dC, dI) cls4 [(mo, .inr (3, [.int 0, .int wi, .int hi, .int fo, .ref mt, .ref mr, .int ma, .ref mx, .int mn, .ref mp, .ref mq, .int (nI ct)])), (mt, .inl (cJ, 18, .inr (.inl mtf))), (mr, .inl (cJ, 120, .inr (.inl mrf))), (mx, .inl (cJ, 120, .inr (.inl mxf))), (mp, .inl (cJ, 324, .inr (.inl (vp_updL (vp_updL (vp_updL (vp_updL (vp_updL mpf (18 * pp + (6 * cc)) y_14) (18 * pp + (6 * cc) + 1) y_24) (18 * pp + (6 * cc) + 2) r_28) (18 * pp + (6 * cc) + 3) y_37) (18 * pp + (6 * cc) + 4) y_46)))), (mq, .inl (cJ, 18, .inr (.inl mqf)))] H := hP
  have hD : va_D A [(mo, .inr (3, [.int 0, .int wi, .int hi, .int fo, .ref mt, .ref mr, .int ma, .ref mx, .int mn, .ref mp, .ref mq, .int (nI ct)])), (mt, .inl (cJ, 18, .inr (.inl mtf))), (mr, .inl (cJ, 120, .inr (.inl mrf))), (mx, .inl (cJ, 120, .inr (.inl mxf))), (mp, .inl (cJ, 324, .inr (.inl (vp_updL (vp_updL (vp_updL (vp_updL (vp_updL mpf (18 * pp + (6 * cc)) y_14) (18 * pp + (6 * cc) + 1) y_24) (18 * pp + (6 * cc) + 2) r_28) (18 * pp + (6 * cc) + 3) y_37) (18 * pp + (6 * cc) + 4) y_46)))), (mq, .inl (cJ, 18, .inr (.inl mqf)))] := hD
  refine lv_iinc (v := 5) (lv' := [(7, .int 5), (5, .long y_8), (4, .int (nI (18 * pp + (6 * cc)))), (0, .ref mo), (1, .int (nI pp)), (2, .int (nI cc)), (3, .int (nI co))]) hx hb d_Mo_lay_159 hl (k := 0) rfl (by decide) (by decide) rfl (fun ls hl => ?_)
  refine lv_goto (tgt := 130) hx hb d_Mo_lay_162 (by decide) ?_
  refine lv_iload hx hb d_Mo_lay_130 (lv_at hl 0 rfl) ?_
  refine lv_bipush (v := 6) hx hb d_Mo_lay_132 (by decide) ?_
  refine lv_icmp_ge (tgt := 165) hx hb d_Mo_lay_134 (by decide) (fun c_49 => absurd c_49 (by decide)) (fun _ => ?_)
  refine lv_aload_n hx hb d_Mo_lay_137 rfl (lv_at hl 3 rfl) ?_
  refine va_get (D := (dC, dI)) (ci := 3) (v := .ref mp) (C := R_Mo) (T := F_Mo) (N := 12) hx hb hts (fun w h => mw (i_Mo w h)) hown hK hP 0 rfl rfl 9 (by decide) (hts _ (mw wd_246)) (fun _ h9 => h9) rfl d_Mo_lay_138 ?_
  refine lv_iload hx hb d_Mo_lay_141 (lv_at hl 2 rfl) ?_
  refine lv_iload hx hb d_Mo_lay_143 (lv_at hl 0 rfl) ?_
  refine lv_iadd hx hb d_Mo_lay_145 ?_
  refine lv_topi (fun y_50 ey_50 => ?_)
  have ey_50 : y_50 = nI (18 * pp + (6 * cc) + 5) := by rw [ey_50]; first | rfl | (simp only [nk_set_0, nk_set_1, nk_set_2, nk_set_3, nk_set_4, nk_set_5, nk_set_6, nk_set_7, nk_set_12, nk_set_13, nk_set_18, pk_mul, nI_add]; done) | (simp only [nk_set_0, nk_set_1, nk_set_2, nk_set_3, nk_set_4, nk_set_5, nk_set_6, nk_set_7, nk_set_12, nk_set_13, nk_set_18, pk_mul, nI_add]; exact congrArg nI (by omega))
  subst ey_50
  refine lv_aload_n hx hb d_Mo_lay_146 rfl (lv_at hl 3 rfl) ?_
  refine va_get (D := (dC, dI)) (ci := 3) (v := .ref mr) (C := R_Mo) (T := F_Mo) (N := 12) hx hb hts (fun w h => mw (i_Mo w h)) hown hK hP 0 rfl rfl 5 (by decide) (hts _ (mw wd_242)) (fun _ h9 => h9) rfl d_Mo_lay_147 ?_
  refine lv_bipush (v := 6) hx hb d_Mo_lay_150 (by decide) ?_
  refine lv_iload_n hx hb d_Mo_lay_152 rfl (lv_at hl 6 rfl) ?_
  refine lv_imul hx hb d_Mo_lay_153 ?_
  refine lv_topi (fun y_51 ey_51 => ?_)
  have ey_51 : y_51 = nI (6 * co) := by rw [ey_51]; first | rfl | (simp only [nk_set_0, nk_set_1, nk_set_2, nk_set_3, nk_set_4, nk_set_5, nk_set_6, nk_set_7, nk_set_12, nk_set_13, nk_set_18, pk_mul, nI_add]; done) | (simp only [nk_set_0, nk_set_1, nk_set_2, nk_set_3, nk_set_4, nk_set_5, nk_set_6, nk_set_7, nk_set_12, nk_set_13, nk_set_18, pk_mul, nI_add]; exact congrArg nI (by omega))
  subst ey_51
  refine lv_iload hx hb d_Mo_lay_154 (lv_at hl 0 rfl) ?_
  refine lv_iadd hx hb d_Mo_lay_156 ?_
  refine lv_topi (fun y_52 ey_52 => ?_)
  have ey_52 : y_52 = nI (6 * co + 5) := by rw [ey_52]; first | rfl | (simp only [nk_set_0, nk_set_1, nk_set_2, nk_set_3, nk_set_4, nk_set_5, nk_set_6, nk_set_7, nk_set_12, nk_set_13, nk_set_18, pk_mul, nI_add]; done) | (simp only [nk_set_0, nk_set_1, nk_set_2, nk_set_3, nk_set_4, nk_set_5, nk_set_6, nk_set_7, nk_set_12, nk_set_13, nk_set_18, pk_mul, nI_add]; exact congrArg nI (by omega))
  subst ey_52
  have hq_53 : nI (6 * co + 5) = nI (6 * co + 5) := by first | rfl | (simp only [nk_set_0, nk_set_1, nk_set_2, nk_set_3, nk_set_4, nk_set_5, nk_set_6, nk_set_7, nk_set_12, nk_set_13, nk_set_18, pk_mul, nI_add]; done) | (simp only [nk_set_0, nk_set_1, nk_set_2, nk_set_3, nk_set_4, nk_set_5, nk_set_6, nk_set_7, nk_set_12, nk_set_13, nk_set_18, pk_mul, nI_add]; exact congrArg nI (by omega))
  have hi_54 : vp_in (nI (6 * co + 5)) 120 := by rw [hq_53]; exact vp_in_nI (by omega) (by decide)
  refine va_lald hx hb hK hP 2 0 rfl rfl hi_54 d_Mo_lay_157 ?_
  refine lv_topl (fun y_55 ey_55 => ?_)
  rw [hq_53, nI_clamp (by omega)] at ey_55
  have hq_56 : nI (18 * pp + (6 * cc) + 5) = nI (18 * pp + (6 * cc) + 5) := by first | rfl | (simp only [nk_set_0, nk_set_1, nk_set_2, nk_set_3, nk_set_4, nk_set_5, nk_set_6, nk_set_7, nk_set_12, nk_set_13, nk_set_18, pk_mul, nI_add]; done) | (simp only [nk_set_0, nk_set_1, nk_set_2, nk_set_3, nk_set_4, nk_set_5, nk_set_6, nk_set_7, nk_set_12, nk_set_13, nk_set_18, pk_mul, nI_add]; exact congrArg nI (by omega))
  have hi_57 : vp_in (nI (18 * pp + (6 * cc) + 5)) 324 := by rw [hq_56]; exact vp_in_nI (by omega) (by decide)
  refine va_last hx hb hK hP hD hS 4 0 rfl rfl hi_57 d_Mo_lay_158 (fun H locs hP hD hS => ?_)
  rw [hq_56, nI_clamp (by omega)] at hP hD
  have hP : va_P (dC, dI) cls4 [(mo, .inr (3, [.int 0, .int wi, .int hi, .int fo, .ref mt, .ref mr, .int ma, .ref mx, .int mn, .ref mp, .ref mq, .int (nI ct)])), (mt, .inl (cJ, 18, .inr (.inl mtf))), (mr, .inl (cJ, 120, .inr (.inl mrf))), (mx, .inl (cJ, 120, .inr (.inl mxf))), (mp, .inl (cJ, 324, .inr (.inl (vp_updL (vp_updL (vp_updL (vp_updL (vp_updL (vp_updL mpf (18 * pp + (6 * cc)) y_14) (18 * pp + (6 * cc) + 1) y_24) (18 * pp + (6 * cc) + 2) r_28) (18 * pp + (6 * cc) + 3) y_37) (18 * pp + (6 * cc) + 4) y_46) (18 * pp + (6 * cc) + 5) y_55)))), (mq, .inl (cJ, 18, .inr (.inl mqf)))] H := hP
  have hD : va_D A [(mo, .inr (3, [.int 0, .int wi, .int hi, .int fo, .ref mt, .ref mr, .int ma, .ref mx, .int mn, .ref mp, .ref mq, .int (nI ct)])), (mt, .inl (cJ, 18, .inr (.inl mtf))), (mr, .inl (cJ, 120, .inr (.inl mrf))), (mx, .inl (cJ, 120, .inr (.inl mxf))), (mp, .inl (cJ, 324, .inr (.inl (vp_updL (vp_updL (vp_updL (vp_updL (vp_updL (vp_updL mpf (18 * pp + (6 * cc)) y_14) (18 * pp + (6 * cc) + 1) y_24) (18 * pp + (6 * cc) + 2) r_28) (18 * pp + (6 * cc) + 3) y_37) (18 * pp + (6 * cc) + 4) y_46) (18 * pp + (6 * cc) + 5) y_55)))), (mq, .inl (cJ, 18, .inr (.inl mqf)))] := hD
  refine lv_iinc (v := 6) (lv' := [(7, .int 6), (5, .long y_8), (4, .int (nI (18 * pp + (6 * cc)))), (0, .ref mo), (1, .int (nI pp)), (2, .int (nI cc)), (3, .int (nI co))]) hx hb d_Mo_lay_159 hl (k := 0) rfl (by decide) (by decide) rfl (fun ls hl => ?_)
  refine lv_goto (tgt := 130) hx hb d_Mo_lay_162 (by decide) ?_
  refine lv_iload hx hb d_Mo_lay_130 (lv_at hl 0 rfl) ?_
  refine lv_bipush (v := 6) hx hb d_Mo_lay_132 (by decide) ?_
  refine lv_icmp_ge (tgt := 165) hx hb d_Mo_lay_134 (by decide) (fun _ => ?_) (fun c_58 => absurd (by decide) c_58)
  subst ey_8
  subst ey_12
  subst er_13
  subst ey_14
  subst ey_22
  subst er_23
  subst ey_24
  subst er_28
  subst ey_37
  subst ey_46
  subst ey_55
  have hst : vp_updL (vp_updL (vp_updL (vp_updL (vp_updL (vp_updL mpf (18 * pp + (6 * cc)) ((pu_div ((16 * fo.toInt64) * (mrf (6 * co))) (mrf (6 * co + 2))) + (8 * wi.toInt64))) (18 * pp + (6 * cc) + 1) ((pu_div ((16 * fo.toInt64) * (mrf (6 * co + 1))) (mrf (6 * co + 2))) + (8 * hi.toInt64))) (18 * pp + (6 * cc) + 2) (pu_div 4294967296 (mrf (6 * co + 2)))) (18 * pp + (6 * cc) + 3) (mrf (6 * co + 3))) (18 * pp + (6 * cc) + 4) (mrf (6 * co + 4))) (18 * pp + (6 * cc) + 5) (mrf (6 * co + 5)) = pu_put mpf (3 * pp + cc) (fun q9 => pu_lay fo wi hi mrf co q9) := six_eq (fun q9 => pu_lay fo wi hi mrf co q9) (by omega) (by omega) (by omega) (by omega) (by omega) (by omega) rfl rfl rfl rfl rfl rfl
  rw [hst] at hP hD
  exact W.vret hx hb hr (fun t ht hW => ⟨⟨(), rfl, trivial, by rw [ht]; exact hP, hD⟩, hS.F ht⟩) hS.2.2 d_Mo_lay_165
