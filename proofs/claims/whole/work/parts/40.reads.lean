def f_PC_isPixel (wi : Int32) (hi : Int32) (xx : Int32) (yy : Int32) : Int32 := if xx < 0 then 0 else (if wi ≤ xx then 0 else (if yy < 0 then 0 else (if hi ≤ yy then 0 else 1)))
set_option maxHeartbeats 4000000 in
set_option maxRecDepth 100000 in
theorem c_PC_isPixel (l : Launch) (dC : Nat → ClassId) (dI : Nat → Nat → Nat) (cJ cI : ClassId) (ob : Nat) (wi : Int32) (hi : Int32) (fo : Int32) (gi : Nat) (gia : Nat) (gin : Int32) (gif : Nat → Int64) (ke : Nat) (kea : Nat) (ken : Int32) (kef : Nat → Int64) (sp : Nat) (spa : Nat) (spn : Int32) (spf : Nat → Int64) (pi : Nat) (pia : Nat) (pin : Int32) (pif : Nat → Int64) (fa : Nat) (fas : Nat) (fat : Nat) (faa : Nat) (fan : Int32) (faS : Nat → Int32) (faT : Nat → Int32) (faA : Nat → Int32) (xx : Int32) (yy : Int32) : Met l y_PC_isPixel w_PC_isPixel ({ frames := 0, cells := 0, slots := 0, locals := 0 } : Room) (rq_ro (dC, dI) cJ cI [.ref ob, .int xx, .int yy] [(ob, .inr (0, [.int wi, .int hi, .int fo, .ref gi, .ref ke, .ref sp, .ref pi, .ref fa])), (gi, .inr (1, [.ref gia, .int gin])), (gia, .inl (cJ, 114, .inr (.inl gif))), (ke, .inr (1, [.ref kea, .int ken])), (kea, .inl (cJ, 114, .inr (.inl kef))), (sp, .inr (1, [.ref spa, .int spn])), (spa, .inl (cJ, 114, .inr (.inl spf))), (pi, .inr (1, [.ref pia, .int pin])), (pia, .inl (cJ, 114, .inr (.inl pif))), (fa, .inr (2, [.ref fas, .ref fat, .ref faa, .int fan])), (fas, .inl (cI, 17, .inl faS)), (fat, .inl (cI, 17, .inl faT)), (faa, .inl (cI, 17, .inl faA))]) (vp_Si (fun r => r = f_PC_isPixel wi hi xx yy)) 0 0 (fun _ => False) := by
  refine Met.ofW (cc := b_PC_isPixel) (maxL := 3) (ret := (some .boolean)) (by decide) rfl ?_
  intro p e s m args below meth c s₁ B hml hv
  obtain ⟨rfl, hP, hK, hN⟩ := hv
  have hx := B.exec
  have hb := B.bytes
  have hr := B.returns
  have hts := atoms_spec (ws := w_PC_isPixel) B.pre
  have hown : s.vm.findClass R_PC = some m.cls := findClass_of_methodNamed B.named
  have hlocks := B.notSynchronized
  have hl := lv_entry ([.ref ob, .int xx, .int yy]) (n := 3) (Nat.le_of_ble_eq_true rfl)
  rw [lg_entry_eq]
  generalize (lg_sl ([.ref ob, .int xx, .int yy]) ++ List.replicate (3 - (lg_sl ([.ref ob, .int xx, .int yy])).length) Slot.unset).toArray = ls at hl ⊢
  have hl : lv_has ls 3 [(0, .ref ob), (1, .int xx), (2, .int yy)] := hl
  refine lv_iload_n hx hb d_PC_isPixel_0 rfl (lv_at hl 1 rfl) ?_
  refine lv_if_lt (tgt := 28) hx hb d_PC_isPixel_1 (by decide) (fun c_1 => ?_) (fun c_1 => ?_)
  · have c_1 : xx < 0 := c_1
    refine lv_iconst (v := 0) hx hb d_PC_isPixel_28 (by decide) ?_
    exact W.zret (v := 0) hx hb hr (by decide) (fun t ht hW => ⟨_, rfl, by rw [f_PC_isPixel, if_pos c_1], ht⟩) (fun q h => by cases h) d_PC_isPixel_29
  · have c_1 : ¬ (xx < 0) := c_1
    refine lv_iload_n hx hb d_PC_isPixel_4 rfl (lv_at hl 1 rfl) ?_
    refine lv_aload_n hx hb d_PC_isPixel_5 rfl (lv_at hl 0 rfl) ?_
    refine va_get (D := (dC, dI)) (ci := 0) (v := .int wi) (C := R_PC) (T := F_PC) (N := 8) hx hb hts (fun w h => mw (i_PC w h)) hown hK hP 0 rfl rfl 0 (by decide) (hts _ (mw wd_81)) (fun _ h9 => h9) rfl d_PC_isPixel_6 ?_
    refine lv_icmp_ge (tgt := 28) hx hb d_PC_isPixel_9 (by decide) (fun c_2 => ?_) (fun c_2 => ?_)
    · have c_2 : wi ≤ xx := c_2
      refine lv_iconst (v := 0) hx hb d_PC_isPixel_28 (by decide) ?_
      exact W.zret (v := 0) hx hb hr (by decide) (fun t ht hW => ⟨_, rfl, by rw [f_PC_isPixel, if_neg c_1, if_pos c_2], ht⟩) (fun q h => by cases h) d_PC_isPixel_29
    · have c_2 : ¬ (wi ≤ xx) := c_2
      refine lv_iload_n hx hb d_PC_isPixel_12 rfl (lv_at hl 2 rfl) ?_
      refine lv_if_lt (tgt := 28) hx hb d_PC_isPixel_13 (by decide) (fun c_3 => ?_) (fun c_3 => ?_)
      · have c_3 : yy < 0 := c_3
        refine lv_iconst (v := 0) hx hb d_PC_isPixel_28 (by decide) ?_
        exact W.zret (v := 0) hx hb hr (by decide) (fun t ht hW => ⟨_, rfl, by rw [f_PC_isPixel, if_neg c_1, if_neg c_2, if_pos c_3], ht⟩) (fun q h => by cases h) d_PC_isPixel_29
      · have c_3 : ¬ (yy < 0) := c_3
        refine lv_iload_n hx hb d_PC_isPixel_16 rfl (lv_at hl 2 rfl) ?_
        refine lv_aload_n hx hb d_PC_isPixel_17 rfl (lv_at hl 0 rfl) ?_
        refine va_get (D := (dC, dI)) (ci := 0) (v := .int hi) (C := R_PC) (T := F_PC) (N := 8) hx hb hts (fun w h => mw (i_PC w h)) hown hK hP 0 rfl rfl 1 (by decide) (hts _ (mw wd_82)) (fun _ h9 => h9) rfl d_PC_isPixel_18 ?_
        refine lv_icmp_ge (tgt := 28) hx hb d_PC_isPixel_21 (by decide) (fun c_4 => ?_) (fun c_4 => ?_)
        · have c_4 : hi ≤ yy := c_4
          refine lv_iconst (v := 0) hx hb d_PC_isPixel_28 (by decide) ?_
          exact W.zret (v := 0) hx hb hr (by decide) (fun t ht hW => ⟨_, rfl, by rw [f_PC_isPixel, if_neg c_1, if_neg c_2, if_neg c_3, if_pos c_4], ht⟩) (fun q h => by cases h) d_PC_isPixel_29
        · have c_4 : ¬ (hi ≤ yy) := c_4
          refine lv_iconst (v := 1) hx hb d_PC_isPixel_24 (by decide) ?_
          refine lv_goto (tgt := 29) hx hb d_PC_isPixel_25 (by decide) ?_
          exact W.zret (v := 1) hx hb hr (by decide) (fun t ht hW => ⟨_, rfl, by rw [f_PC_isPixel, if_neg c_1, if_neg c_2, if_neg c_3, if_neg c_4], ht⟩) (fun q h => by cases h) d_PC_isPixel_29
def f_PC_sideNumber (wi : Int32) (hi : Int32) (fo : Int32) (ken : Int32) (kef : Nat → Int64) (ix : Int32) (sd : Int32) : Int64 := if sd = 0 then ((f_Ri_at ken kef ix 2) - 4096) else (if sd = 1 then ((fo.toInt64 * (f_Ri_at ken kef ix 0)) + (wi.toInt64 * (f_Ri_at ken kef ix 2))) else (if sd = 2 then ((wi.toInt64 * (f_Ri_at ken kef ix 2)) - (fo.toInt64 * (f_Ri_at ken kef ix 0))) else (if sd = 3 then ((fo.toInt64 * (f_Ri_at ken kef ix 1)) + (hi.toInt64 * (f_Ri_at ken kef ix 2))) else ((hi.toInt64 * (f_Ri_at ken kef ix 2)) - (fo.toInt64 * (f_Ri_at ken kef ix 1))))))
set_option maxHeartbeats 4000000 in
set_option maxRecDepth 100000 in
theorem c_PC_sideNumber (l : Launch) (dC : Nat → ClassId) (dI : Nat → Nat → Nat) (cJ cI : ClassId) (ob : Nat) (wi : Int32) (hi : Int32) (fo : Int32) (gi : Nat) (gia : Nat) (gin : Int32) (gif : Nat → Int64) (ke : Nat) (kea : Nat) (ken : Int32) (kef : Nat → Int64) (sp : Nat) (spa : Nat) (spn : Int32) (spf : Nat → Int64) (pi : Nat) (pia : Nat) (pin : Int32) (pif : Nat → Int64) (fa : Nat) (fas : Nat) (fat : Nat) (faa : Nat) (fan : Int32) (faS : Nat → Int32) (faT : Nat → Int32) (faA : Nat → Int32) (ix : Int32) (sd : Int32) : Met l y_PC_sideNumber w_PC_sideNumber ({ frames := 2, cells := 0, slots := 0, locals := 43 } : Room) (rq_ro (dC, dI) cJ cI [.ref ob, .int ix, .int sd] [(ob, .inr (0, [.int wi, .int hi, .int fo, .ref gi, .ref ke, .ref sp, .ref pi, .ref fa])), (gi, .inr (1, [.ref gia, .int gin])), (gia, .inl (cJ, 114, .inr (.inl gif))), (ke, .inr (1, [.ref kea, .int ken])), (kea, .inl (cJ, 114, .inr (.inl kef))), (sp, .inr (1, [.ref spa, .int spn])), (spa, .inl (cJ, 114, .inr (.inl spf))), (pi, .inr (1, [.ref pia, .int pin])), (pia, .inl (cJ, 114, .inr (.inl pif))), (fa, .inr (2, [.ref fas, .ref fat, .ref faa, .int fan])), (fas, .inl (cI, 17, .inl faS)), (fat, .inl (cI, 17, .inl faT)), (faa, .inl (cI, 17, .inl faA))]) (vp_Sl (fun r => r = f_PC_sideNumber wi hi fo ken kef ix sd)) 0 0 (fun _ => False) := by
  refine Met.ofW (cc := b_PC_sideNumber) (maxL := 9) (ret := (some .long)) (by decide) rfl ?_
  intro p e s m args below meth c s₁ B hml hv
  obtain ⟨rfl, hP, hK, hN⟩ := hv
  have hx := B.exec
  have hb := B.bytes
  have hr := B.returns
  have hts := atoms_spec (ws := w_PC_sideNumber) B.pre
  have hown : s.vm.findClass R_PC = some m.cls := findClass_of_methodNamed B.named
  have hlocks := B.notSynchronized
  have hl := lv_entry ([.ref ob, .int ix, .int sd]) (n := 9) (Nat.le_of_ble_eq_true rfl)
  rw [lg_entry_eq]
  generalize (lg_sl ([.ref ob, .int ix, .int sd]) ++ List.replicate (9 - (lg_sl ([.ref ob, .int ix, .int sd])).length) Slot.unset).toArray = ls at hl ⊢
  have hl : lv_has ls 9 [(0, .ref ob), (1, .int ix), (2, .int sd)] := hl
  refine lv_aload_n hx hb d_PC_sideNumber_0 rfl (lv_at hl 0 rfl) ?_
  refine va_get (D := (dC, dI)) (ci := 0) (v := .int fo) (C := R_PC) (T := F_PC) (N := 8) hx hb hts (fun w h => mw (i_PC w h)) hown hK hP 0 rfl rfl 2 (by decide) (hts _ (mw wd_83)) (fun _ h9 => h9) rfl d_PC_sideNumber_1 ?_
  refine lv_i2l hx hb d_PC_sideNumber_4 rfl ?_
  refine lv_aload_n hx hb d_PC_sideNumber_5 rfl (lv_at hl 0 rfl) ?_
  refine va_get (D := (dC, dI)) (ci := 0) (v := .ref ke) (C := R_PC) (T := F_PC) (N := 8) hx hb hts (fun w h => mw (i_PC w h)) hown hK hP 0 rfl rfl 4 (by decide) (hts _ (mw wd_85)) (fun _ h9 => h9) rfl d_PC_sideNumber_6 ?_
  refine lv_iload_n hx hb d_PC_sideNumber_9 rfl (lv_at hl 1 rfl) ?_
  refine lv_iconst (v := 0) hx hb d_PC_sideNumber_10 (by decide) ?_
  have hPc := hP.sub (ws' := [(ke, .inr (1, [.ref kea, .int ken])), (kea, .inl (cJ, 114, .inr (.inl kef)))]) [3, 4] rfl
  refine vp_callSl (va_Run.run (va_runVN (As := [.int ix, .int 0]) (rest := [.long fo.toInt64]) ⟨hx, hb, hml, hown, hts⟩ (c_Ri_at l dC dI cJ cI ke kea ken kef ix 0) (⟨va_cnB 2 hts (gd_0 wd_136) rfl rfl rfl (hN _ nw_10) (hts _ (mw wd_35)) (by decide +kernel) ⟨Nat.le_of_ble_eq_true rfl, Nat.le_of_ble_eq_true rfl⟩, (hts _ (mw wd_135)), (hts _ (mw wd_5))⟩) ⟨fb_ro, va_recv hK hPc (ci := 1) (q0 := 0) rfl rfl, pre_ro hK hN hPc⟩ rfl rfl hl.1 rfl (lv_room (Nat.le_of_ble_eq_true rfl)) d_PC_sideNumber_11 ⟨Nat.le_of_ble_eq_true rfl, Nat.le_of_ble_eq_true rfl⟩)) (fun r_1 er_1 => ?_)
  have er_1 : r_1 = f_Ri_at ken kef ix 0 := er_1
  refine lv_lmul hx hb d_PC_sideNumber_14 ?_
  refine lv_topl (fun y_2 ey_2 => ?_)
  refine lv_lstore_n (lv' := [(3, .long y_2), (0, .ref ob), (1, .int ix), (2, .int sd)]) hx hb d_PC_sideNumber_15 rfl hl (by decide) rfl (fun ls hl => ?_)
  refine lv_aload_n hx hb d_PC_sideNumber_16 rfl (lv_at hl 1 rfl) ?_
  refine va_get (D := (dC, dI)) (ci := 0) (v := .int fo) (C := R_PC) (T := F_PC) (N := 8) hx hb hts (fun w h => mw (i_PC w h)) hown hK hP 0 rfl rfl 2 (by decide) (hts _ (mw wd_83)) (fun _ h9 => h9) rfl d_PC_sideNumber_17 ?_
  refine lv_i2l hx hb d_PC_sideNumber_20 rfl ?_
  refine lv_aload_n hx hb d_PC_sideNumber_21 rfl (lv_at hl 1 rfl) ?_
  refine va_get (D := (dC, dI)) (ci := 0) (v := .ref ke) (C := R_PC) (T := F_PC) (N := 8) hx hb hts (fun w h => mw (i_PC w h)) hown hK hP 0 rfl rfl 4 (by decide) (hts _ (mw wd_85)) (fun _ h9 => h9) rfl d_PC_sideNumber_22 ?_
  refine lv_iload_n hx hb d_PC_sideNumber_25 rfl (lv_at hl 2 rfl) ?_
  refine lv_iconst (v := 1) hx hb d_PC_sideNumber_26 (by decide) ?_
  have hPc := hP.sub (ws' := [(ke, .inr (1, [.ref kea, .int ken])), (kea, .inl (cJ, 114, .inr (.inl kef)))]) [3, 4] rfl
  refine vp_callSl (va_Run.run (va_runVN (As := [.int ix, .int 1]) (rest := [.long fo.toInt64]) ⟨hx, hb, hml, hown, hts⟩ (c_Ri_at l dC dI cJ cI ke kea ken kef ix 1) (⟨va_cnB 2 hts (gd_0 wd_136) rfl rfl rfl (hN _ nw_10) (hts _ (mw wd_35)) (by decide +kernel) ⟨Nat.le_of_ble_eq_true rfl, Nat.le_of_ble_eq_true rfl⟩, (hts _ (mw wd_135)), (hts _ (mw wd_5))⟩) ⟨fb_ro, va_recv hK hPc (ci := 1) (q0 := 0) rfl rfl, pre_ro hK hN hPc⟩ rfl rfl hl.1 rfl (lv_room (Nat.le_of_ble_eq_true rfl)) d_PC_sideNumber_27 ⟨Nat.le_of_ble_eq_true rfl, Nat.le_of_ble_eq_true rfl⟩)) (fun r_3 er_3 => ?_)
  have er_3 : r_3 = f_Ri_at ken kef ix 1 := er_3
  refine lv_lmul hx hb d_PC_sideNumber_30 ?_
  refine lv_topl (fun y_4 ey_4 => ?_)
  refine lv_lstore (lv' := [(5, .long y_4), (3, .long y_2), (0, .ref ob), (1, .int ix), (2, .int sd)]) hx hb d_PC_sideNumber_31 hl (by decide) rfl (fun ls hl => ?_)
  refine lv_aload_n hx hb d_PC_sideNumber_33 rfl (lv_at hl 2 rfl) ?_
  refine va_get (D := (dC, dI)) (ci := 0) (v := .ref ke) (C := R_PC) (T := F_PC) (N := 8) hx hb hts (fun w h => mw (i_PC w h)) hown hK hP 0 rfl rfl 4 (by decide) (hts _ (mw wd_85)) (fun _ h9 => h9) rfl d_PC_sideNumber_34 ?_
  refine lv_iload_n hx hb d_PC_sideNumber_37 rfl (lv_at hl 3 rfl) ?_
  refine lv_iconst (v := 2) hx hb d_PC_sideNumber_38 (by decide) ?_
  have hPc := hP.sub (ws' := [(ke, .inr (1, [.ref kea, .int ken])), (kea, .inl (cJ, 114, .inr (.inl kef)))]) [3, 4] rfl
  refine vp_callSl (va_Run.run (va_runVN (As := [.int ix, .int 2]) (rest := []) ⟨hx, hb, hml, hown, hts⟩ (c_Ri_at l dC dI cJ cI ke kea ken kef ix 2) (⟨va_cnB 2 hts (gd_0 wd_136) rfl rfl rfl (hN _ nw_10) (hts _ (mw wd_35)) (by decide +kernel) ⟨Nat.le_of_ble_eq_true rfl, Nat.le_of_ble_eq_true rfl⟩, (hts _ (mw wd_135)), (hts _ (mw wd_5))⟩) ⟨fb_ro, va_recv hK hPc (ci := 1) (q0 := 0) rfl rfl, pre_ro hK hN hPc⟩ rfl rfl hl.1 rfl (lv_room (Nat.le_of_ble_eq_true rfl)) d_PC_sideNumber_39 ⟨Nat.le_of_ble_eq_true rfl, Nat.le_of_ble_eq_true rfl⟩)) (fun r_5 er_5 => ?_)
  have er_5 : r_5 = f_Ri_at ken kef ix 2 := er_5
  refine lv_lstore (lv' := [(7, .long r_5), (5, .long y_4), (3, .long y_2), (0, .ref ob), (1, .int ix), (2, .int sd)]) hx hb d_PC_sideNumber_42 hl (by decide) rfl (fun ls hl => ?_)
  refine lv_iload_n hx hb d_PC_sideNumber_44 rfl (lv_at hl 5 rfl) ?_
  by_cases c_6 : sd = 0
  · refine lv_tableIn (off := 31) (tgt := 76) hx hb d_PC_sideNumber_45 (by rw [c_6]; decide) (by rw [c_6]; decide) (by rw [c_6]; rfl) (by decide) ?_
    refine lv_lload hx hb d_PC_sideNumber_76 (lv_at hl 0 rfl) ?_
    refine lv_ldc2 hx hb hown (hts _ (mw wd_144)) d_PC_sideNumber_78 ?_
    refine lv_lsub hx hb d_PC_sideNumber_81 ?_
    subst er_1
    subst ey_2
    subst er_3
    subst ey_4
    subst er_5
    exact W.lret (v := (f_Ri_at ken kef ix 2) - 4096) hx hb hr (fun t ht hW => ⟨_, rfl, by rw [f_PC_sideNumber, if_pos c_6], ht⟩) (fun q h => by cases h) d_PC_sideNumber_82
  by_cases c_7 : sd = 1
  · refine lv_tableIn (off := 38) (tgt := 83) hx hb d_PC_sideNumber_45 (by rw [c_7]; decide) (by rw [c_7]; decide) (by rw [c_7]; rfl) (by decide) ?_
    refine lv_lload_n hx hb d_PC_sideNumber_83 rfl (lv_at hl 2 rfl) ?_
    refine lv_aload_n hx hb d_PC_sideNumber_84 rfl (lv_at hl 3 rfl) ?_
    refine va_get (D := (dC, dI)) (ci := 0) (v := .int wi) (C := R_PC) (T := F_PC) (N := 8) hx hb hts (fun w h => mw (i_PC w h)) hown hK hP 0 rfl rfl 0 (by decide) (hts _ (mw wd_81)) (fun _ h9 => h9) rfl d_PC_sideNumber_85 ?_
    refine lv_i2l hx hb d_PC_sideNumber_88 rfl ?_
    refine lv_lload hx hb d_PC_sideNumber_89 (lv_at hl 0 rfl) ?_
    refine lv_lmul hx hb d_PC_sideNumber_91 ?_
    refine lv_ladd hx hb d_PC_sideNumber_92 ?_
    subst er_1
    subst ey_2
    subst er_3
    subst ey_4
    subst er_5
    exact W.lret (v := (fo.toInt64 * (f_Ri_at ken kef ix 0)) + (wi.toInt64 * (f_Ri_at ken kef ix 2))) hx hb hr (fun t ht hW => ⟨_, rfl, by rw [f_PC_sideNumber, if_neg c_6, if_pos c_7], ht⟩) (fun q h => by cases h) d_PC_sideNumber_93
  by_cases c_8 : sd = 2
  · refine lv_tableIn (off := 49) (tgt := 94) hx hb d_PC_sideNumber_45 (by rw [c_8]; decide) (by rw [c_8]; decide) (by rw [c_8]; rfl) (by decide) ?_
    refine lv_aload_n hx hb d_PC_sideNumber_94 rfl (lv_at hl 3 rfl) ?_
    refine va_get (D := (dC, dI)) (ci := 0) (v := .int wi) (C := R_PC) (T := F_PC) (N := 8) hx hb hts (fun w h => mw (i_PC w h)) hown hK hP 0 rfl rfl 0 (by decide) (hts _ (mw wd_81)) (fun _ h9 => h9) rfl d_PC_sideNumber_95 ?_
    refine lv_i2l hx hb d_PC_sideNumber_98 rfl ?_
    refine lv_lload hx hb d_PC_sideNumber_99 (lv_at hl 0 rfl) ?_
    refine lv_lmul hx hb d_PC_sideNumber_101 ?_
    refine lv_lload_n hx hb d_PC_sideNumber_102 rfl (lv_at hl 2 rfl) ?_
    refine lv_lsub hx hb d_PC_sideNumber_103 ?_
    subst er_1
    subst ey_2
    subst er_3
    subst ey_4
    subst er_5
    exact W.lret (v := (wi.toInt64 * (f_Ri_at ken kef ix 2)) - (fo.toInt64 * (f_Ri_at ken kef ix 0))) hx hb hr (fun t ht hW => ⟨_, rfl, by rw [f_PC_sideNumber, if_neg c_6, if_neg c_7, if_pos c_8], ht⟩) (fun q h => by cases h) d_PC_sideNumber_104
  by_cases c_9 : sd = 3
  · refine lv_tableIn (off := 60) (tgt := 105) hx hb d_PC_sideNumber_45 (by rw [c_9]; decide) (by rw [c_9]; decide) (by rw [c_9]; rfl) (by decide) ?_
    refine lv_lload hx hb d_PC_sideNumber_105 (lv_at hl 1 rfl) ?_
    refine lv_aload_n hx hb d_PC_sideNumber_107 rfl (lv_at hl 3 rfl) ?_
    refine va_get (D := (dC, dI)) (ci := 0) (v := .int hi) (C := R_PC) (T := F_PC) (N := 8) hx hb hts (fun w h => mw (i_PC w h)) hown hK hP 0 rfl rfl 1 (by decide) (hts _ (mw wd_82)) (fun _ h9 => h9) rfl d_PC_sideNumber_108 ?_
    refine lv_i2l hx hb d_PC_sideNumber_111 rfl ?_
    refine lv_lload hx hb d_PC_sideNumber_112 (lv_at hl 0 rfl) ?_
    refine lv_lmul hx hb d_PC_sideNumber_114 ?_
    refine lv_ladd hx hb d_PC_sideNumber_115 ?_
    subst er_1
    subst ey_2
    subst er_3
    subst ey_4
    subst er_5
    exact W.lret (v := (fo.toInt64 * (f_Ri_at ken kef ix 1)) + (hi.toInt64 * (f_Ri_at ken kef ix 2))) hx hb hr (fun t ht hW => ⟨_, rfl, by rw [f_PC_sideNumber, if_neg c_6, if_neg c_7, if_neg c_8, if_pos c_9], ht⟩) (fun q h => by cases h) d_PC_sideNumber_116
  · have hsw : sd.toInt < 0 ∨ 3 < sd.toInt := sw_out0_3 c_6 c_7 c_8 c_9
    refine lv_tableOut (tgt := 117) hx hb d_PC_sideNumber_45 hsw (by decide) ?_
    refine lv_aload_n hx hb d_PC_sideNumber_117 rfl (lv_at hl 3 rfl) ?_
    refine va_get (D := (dC, dI)) (ci := 0) (v := .int hi) (C := R_PC) (T := F_PC) (N := 8) hx hb hts (fun w h => mw (i_PC w h)) hown hK hP 0 rfl rfl 1 (by decide) (hts _ (mw wd_82)) (fun _ h9 => h9) rfl d_PC_sideNumber_118 ?_
    refine lv_i2l hx hb d_PC_sideNumber_121 rfl ?_
    refine lv_lload hx hb d_PC_sideNumber_122 (lv_at hl 0 rfl) ?_
    refine lv_lmul hx hb d_PC_sideNumber_124 ?_
    refine lv_lload hx hb d_PC_sideNumber_125 (lv_at hl 1 rfl) ?_
    refine lv_lsub hx hb d_PC_sideNumber_127 ?_
    subst er_1
    subst ey_2
    subst er_3
    subst ey_4
    subst er_5
    exact W.lret (v := (hi.toInt64 * (f_Ri_at ken kef ix 2)) - (fo.toInt64 * (f_Ri_at ken kef ix 1))) hx hb hr (fun t ht hW => ⟨_, rfl, by rw [f_PC_sideNumber, if_neg c_6, if_neg c_7, if_neg c_8, if_neg c_9], ht⟩) (fun q h => by cases h) d_PC_sideNumber_128
def f_PC_areaWith (pin : Int32) (pif : Nat → Int64) (se : Int32) (th : Int32) : Int64 := (((f_Ri_at pin pif se 0) - (f_Ri_at pin pif 0 0)) * ((f_Ri_at pin pif th 1) - (f_Ri_at pin pif 0 1))) - (((f_Ri_at pin pif th 0) - (f_Ri_at pin pif 0 0)) * ((f_Ri_at pin pif se 1) - (f_Ri_at pin pif 0 1)))
set_option maxHeartbeats 4000000 in
set_option maxRecDepth 100000 in
theorem c_PC_areaWith (l : Launch) (dC : Nat → ClassId) (dI : Nat → Nat → Nat) (cJ cI : ClassId) (ob : Nat) (wi : Int32) (hi : Int32) (fo : Int32) (gi : Nat) (gia : Nat) (gin : Int32) (gif : Nat → Int64) (ke : Nat) (kea : Nat) (ken : Int32) (kef : Nat → Int64) (sp : Nat) (spa : Nat) (spn : Int32) (spf : Nat → Int64) (pi : Nat) (pia : Nat) (pin : Int32) (pif : Nat → Int64) (fa : Nat) (fas : Nat) (fat : Nat) (faa : Nat) (fan : Int32) (faS : Nat → Int32) (faT : Nat → Int32) (faA : Nat → Int32) (se : Int32) (th : Int32) : Met l y_PC_areaWith w_PC_areaWith ({ frames := 2, cells := 0, slots := 0, locals := 43 } : Room) (rq_ro (dC, dI) cJ cI [.ref ob, .int se, .int th] [(ob, .inr (0, [.int wi, .int hi, .int fo, .ref gi, .ref ke, .ref sp, .ref pi, .ref fa])), (gi, .inr (1, [.ref gia, .int gin])), (gia, .inl (cJ, 114, .inr (.inl gif))), (ke, .inr (1, [.ref kea, .int ken])), (kea, .inl (cJ, 114, .inr (.inl kef))), (sp, .inr (1, [.ref spa, .int spn])), (spa, .inl (cJ, 114, .inr (.inl spf))), (pi, .inr (1, [.ref pia, .int pin])), (pia, .inl (cJ, 114, .inr (.inl pif))), (fa, .inr (2, [.ref fas, .ref fat, .ref faa, .int fan])), (fas, .inl (cI, 17, .inl faS)), (fat, .inl (cI, 17, .inl faT)), (faa, .inl (cI, 17, .inl faA))]) (vp_Sl (fun r => r = f_PC_areaWith pin pif se th)) 0 0 (fun _ => False) := by
  refine Met.ofW (cc := b_PC_areaWith) (maxL := 7) (ret := (some .long)) (by decide) rfl ?_
  intro p e s m args below meth c s₁ B hml hv
  obtain ⟨rfl, hP, hK, hN⟩ := hv
  have hx := B.exec
  have hb := B.bytes
  have hr := B.returns
  have hts := atoms_spec (ws := w_PC_areaWith) B.pre
  have hown : s.vm.findClass R_PC = some m.cls := findClass_of_methodNamed B.named
  have hlocks := B.notSynchronized
  have hl := lv_entry ([.ref ob, .int se, .int th]) (n := 7) (Nat.le_of_ble_eq_true rfl)
  rw [lg_entry_eq]
  generalize (lg_sl ([.ref ob, .int se, .int th]) ++ List.replicate (7 - (lg_sl ([.ref ob, .int se, .int th])).length) Slot.unset).toArray = ls at hl ⊢
  have hl : lv_has ls 7 [(0, .ref ob), (1, .int se), (2, .int th)] := hl
  refine lv_aload_n hx hb d_PC_areaWith_0 rfl (lv_at hl 0 rfl) ?_
  refine va_get (D := (dC, dI)) (ci := 0) (v := .ref pi) (C := R_PC) (T := F_PC) (N := 8) hx hb hts (fun w h => mw (i_PC w h)) hown hK hP 0 rfl rfl 6 (by decide) (hts _ (mw wd_87)) (fun _ h9 => h9) rfl d_PC_areaWith_1 ?_
  refine lv_iconst (v := 0) hx hb d_PC_areaWith_4 (by decide) ?_
  refine lv_iconst (v := 0) hx hb d_PC_areaWith_5 (by decide) ?_
  have hPc := hP.sub (ws' := [(pi, .inr (1, [.ref pia, .int pin])), (pia, .inl (cJ, 114, .inr (.inl pif)))]) [7, 8] rfl
  refine vp_callSl (va_Run.run (va_runVN (As := [.int 0, .int 0]) (rest := []) ⟨hx, hb, hml, hown, hts⟩ (c_Ri_at l dC dI cJ cI pi pia pin pif 0 0) (⟨va_cnB 2 hts (gd_0 wd_136) rfl rfl rfl (hN _ nw_10) (hts _ (mw wd_35)) (by decide +kernel) ⟨Nat.le_of_ble_eq_true rfl, Nat.le_of_ble_eq_true rfl⟩, (hts _ (mw wd_135)), (hts _ (mw wd_5))⟩) ⟨fb_ro, va_recv hK hPc (ci := 1) (q0 := 0) rfl rfl, pre_ro hK hN hPc⟩ rfl rfl hl.1 rfl (lv_room (Nat.le_of_ble_eq_true rfl)) d_PC_areaWith_6 ⟨Nat.le_of_ble_eq_true rfl, Nat.le_of_ble_eq_true rfl⟩)) (fun r_1 er_1 => ?_)
  have er_1 : r_1 = f_Ri_at pin pif 0 0 := er_1
  refine lv_lstore_n (lv' := [(3, .long r_1), (0, .ref ob), (1, .int se), (2, .int th)]) hx hb d_PC_areaWith_9 rfl hl (by decide) rfl (fun ls hl => ?_)
  refine lv_aload_n hx hb d_PC_areaWith_10 rfl (lv_at hl 1 rfl) ?_
  refine va_get (D := (dC, dI)) (ci := 0) (v := .ref pi) (C := R_PC) (T := F_PC) (N := 8) hx hb hts (fun w h => mw (i_PC w h)) hown hK hP 0 rfl rfl 6 (by decide) (hts _ (mw wd_87)) (fun _ h9 => h9) rfl d_PC_areaWith_11 ?_
  refine lv_iconst (v := 0) hx hb d_PC_areaWith_14 (by decide) ?_
  refine lv_iconst (v := 1) hx hb d_PC_areaWith_15 (by decide) ?_
  have hPc := hP.sub (ws' := [(pi, .inr (1, [.ref pia, .int pin])), (pia, .inl (cJ, 114, .inr (.inl pif)))]) [7, 8] rfl
  refine vp_callSl (va_Run.run (va_runVN (As := [.int 0, .int 1]) (rest := []) ⟨hx, hb, hml, hown, hts⟩ (c_Ri_at l dC dI cJ cI pi pia pin pif 0 1) (⟨va_cnB 2 hts (gd_0 wd_136) rfl rfl rfl (hN _ nw_10) (hts _ (mw wd_35)) (by decide +kernel) ⟨Nat.le_of_ble_eq_true rfl, Nat.le_of_ble_eq_true rfl⟩, (hts _ (mw wd_135)), (hts _ (mw wd_5))⟩) ⟨fb_ro, va_recv hK hPc (ci := 1) (q0 := 0) rfl rfl, pre_ro hK hN hPc⟩ rfl rfl hl.1 rfl (lv_room (Nat.le_of_ble_eq_true rfl)) d_PC_areaWith_16 ⟨Nat.le_of_ble_eq_true rfl, Nat.le_of_ble_eq_true rfl⟩)) (fun r_2 er_2 => ?_)
  have er_2 : r_2 = f_Ri_at pin pif 0 1 := er_2
  refine lv_lstore (lv' := [(5, .long r_2), (3, .long r_1), (0, .ref ob), (1, .int se), (2, .int th)]) hx hb d_PC_areaWith_19 hl (by decide) rfl (fun ls hl => ?_)
  refine lv_aload_n hx hb d_PC_areaWith_21 rfl (lv_at hl 2 rfl) ?_
  refine va_get (D := (dC, dI)) (ci := 0) (v := .ref pi) (C := R_PC) (T := F_PC) (N := 8) hx hb hts (fun w h => mw (i_PC w h)) hown hK hP 0 rfl rfl 6 (by decide) (hts _ (mw wd_87)) (fun _ h9 => h9) rfl d_PC_areaWith_22 ?_
  refine lv_iload_n hx hb d_PC_areaWith_25 rfl (lv_at hl 3 rfl) ?_
  refine lv_iconst (v := 0) hx hb d_PC_areaWith_26 (by decide) ?_
  have hPc := hP.sub (ws' := [(pi, .inr (1, [.ref pia, .int pin])), (pia, .inl (cJ, 114, .inr (.inl pif)))]) [7, 8] rfl
  refine vp_callSl (va_Run.run (va_runVN (As := [.int se, .int 0]) (rest := []) ⟨hx, hb, hml, hown, hts⟩ (c_Ri_at l dC dI cJ cI pi pia pin pif se 0) (⟨va_cnB 2 hts (gd_0 wd_136) rfl rfl rfl (hN _ nw_10) (hts _ (mw wd_35)) (by decide +kernel) ⟨Nat.le_of_ble_eq_true rfl, Nat.le_of_ble_eq_true rfl⟩, (hts _ (mw wd_135)), (hts _ (mw wd_5))⟩) ⟨fb_ro, va_recv hK hPc (ci := 1) (q0 := 0) rfl rfl, pre_ro hK hN hPc⟩ rfl rfl hl.1 rfl (lv_room (Nat.le_of_ble_eq_true rfl)) d_PC_areaWith_27 ⟨Nat.le_of_ble_eq_true rfl, Nat.le_of_ble_eq_true rfl⟩)) (fun r_3 er_3 => ?_)
  have er_3 : r_3 = f_Ri_at pin pif se 0 := er_3
  refine lv_lload_n hx hb d_PC_areaWith_30 rfl (lv_at hl 1 rfl) ?_
  refine lv_lsub hx hb d_PC_areaWith_31 ?_
  refine lv_aload_n hx hb d_PC_areaWith_32 rfl (lv_at hl 2 rfl) ?_
  refine va_get (D := (dC, dI)) (ci := 0) (v := .ref pi) (C := R_PC) (T := F_PC) (N := 8) hx hb hts (fun w h => mw (i_PC w h)) hown hK hP 0 rfl rfl 6 (by decide) (hts _ (mw wd_87)) (fun _ h9 => h9) rfl d_PC_areaWith_33 ?_
  refine lv_iload_n hx hb d_PC_areaWith_36 rfl (lv_at hl 4 rfl) ?_
  refine lv_iconst (v := 1) hx hb d_PC_areaWith_37 (by decide) ?_
  have hPc := hP.sub (ws' := [(pi, .inr (1, [.ref pia, .int pin])), (pia, .inl (cJ, 114, .inr (.inl pif)))]) [7, 8] rfl
  refine vp_callSl (va_Run.run (va_runVN (As := [.int th, .int 1]) (rest := [.long (r_3 - r_1)]) ⟨hx, hb, hml, hown, hts⟩ (c_Ri_at l dC dI cJ cI pi pia pin pif th 1) (⟨va_cnB 2 hts (gd_0 wd_136) rfl rfl rfl (hN _ nw_10) (hts _ (mw wd_35)) (by decide +kernel) ⟨Nat.le_of_ble_eq_true rfl, Nat.le_of_ble_eq_true rfl⟩, (hts _ (mw wd_135)), (hts _ (mw wd_5))⟩) ⟨fb_ro, va_recv hK hPc (ci := 1) (q0 := 0) rfl rfl, pre_ro hK hN hPc⟩ rfl rfl hl.1 rfl (lv_room (Nat.le_of_ble_eq_true rfl)) d_PC_areaWith_38 ⟨Nat.le_of_ble_eq_true rfl, Nat.le_of_ble_eq_true rfl⟩)) (fun r_4 er_4 => ?_)
  have er_4 : r_4 = f_Ri_at pin pif th 1 := er_4
  refine lv_lload hx hb d_PC_areaWith_41 (lv_at hl 0 rfl) ?_
  refine lv_lsub hx hb d_PC_areaWith_43 ?_
  refine lv_lmul hx hb d_PC_areaWith_44 ?_
  refine lv_aload_n hx hb d_PC_areaWith_45 rfl (lv_at hl 2 rfl) ?_
  refine va_get (D := (dC, dI)) (ci := 0) (v := .ref pi) (C := R_PC) (T := F_PC) (N := 8) hx hb hts (fun w h => mw (i_PC w h)) hown hK hP 0 rfl rfl 6 (by decide) (hts _ (mw wd_87)) (fun _ h9 => h9) rfl d_PC_areaWith_46 ?_
  refine lv_iload_n hx hb d_PC_areaWith_49 rfl (lv_at hl 4 rfl) ?_
  refine lv_iconst (v := 0) hx hb d_PC_areaWith_50 (by decide) ?_
  have hPc := hP.sub (ws' := [(pi, .inr (1, [.ref pia, .int pin])), (pia, .inl (cJ, 114, .inr (.inl pif)))]) [7, 8] rfl
  refine vp_callSl (va_Run.run (va_runVN (As := [.int th, .int 0]) (rest := [.long ((r_3 - r_1) * (r_4 - r_2))]) ⟨hx, hb, hml, hown, hts⟩ (c_Ri_at l dC dI cJ cI pi pia pin pif th 0) (⟨va_cnB 2 hts (gd_0 wd_136) rfl rfl rfl (hN _ nw_10) (hts _ (mw wd_35)) (by decide +kernel) ⟨Nat.le_of_ble_eq_true rfl, Nat.le_of_ble_eq_true rfl⟩, (hts _ (mw wd_135)), (hts _ (mw wd_5))⟩) ⟨fb_ro, va_recv hK hPc (ci := 1) (q0 := 0) rfl rfl, pre_ro hK hN hPc⟩ rfl rfl hl.1 rfl (lv_room (Nat.le_of_ble_eq_true rfl)) d_PC_areaWith_51 ⟨Nat.le_of_ble_eq_true rfl, Nat.le_of_ble_eq_true rfl⟩)) (fun r_5 er_5 => ?_)
  have er_5 : r_5 = f_Ri_at pin pif th 0 := er_5
  refine lv_lload_n hx hb d_PC_areaWith_54 rfl (lv_at hl 1 rfl) ?_
  refine lv_lsub hx hb d_PC_areaWith_55 ?_
  refine lv_aload_n hx hb d_PC_areaWith_56 rfl (lv_at hl 2 rfl) ?_
  refine va_get (D := (dC, dI)) (ci := 0) (v := .ref pi) (C := R_PC) (T := F_PC) (N := 8) hx hb hts (fun w h => mw (i_PC w h)) hown hK hP 0 rfl rfl 6 (by decide) (hts _ (mw wd_87)) (fun _ h9 => h9) rfl d_PC_areaWith_57 ?_
  refine lv_iload_n hx hb d_PC_areaWith_60 rfl (lv_at hl 3 rfl) ?_
  refine lv_iconst (v := 1) hx hb d_PC_areaWith_61 (by decide) ?_
  have hPc := hP.sub (ws' := [(pi, .inr (1, [.ref pia, .int pin])), (pia, .inl (cJ, 114, .inr (.inl pif)))]) [7, 8] rfl
  refine vp_callSl (va_Run.run (va_runVN (As := [.int se, .int 1]) (rest := [.long (r_5 - r_1), .long ((r_3 - r_1) * (r_4 - r_2))]) ⟨hx, hb, hml, hown, hts⟩ (c_Ri_at l dC dI cJ cI pi pia pin pif se 1) (⟨va_cnB 2 hts (gd_0 wd_136) rfl rfl rfl (hN _ nw_10) (hts _ (mw wd_35)) (by decide +kernel) ⟨Nat.le_of_ble_eq_true rfl, Nat.le_of_ble_eq_true rfl⟩, (hts _ (mw wd_135)), (hts _ (mw wd_5))⟩) ⟨fb_ro, va_recv hK hPc (ci := 1) (q0 := 0) rfl rfl, pre_ro hK hN hPc⟩ rfl rfl hl.1 rfl (lv_room (Nat.le_of_ble_eq_true rfl)) d_PC_areaWith_62 ⟨Nat.le_of_ble_eq_true rfl, Nat.le_of_ble_eq_true rfl⟩)) (fun r_6 er_6 => ?_)
  have er_6 : r_6 = f_Ri_at pin pif se 1 := er_6
  refine lv_lload hx hb d_PC_areaWith_65 (lv_at hl 0 rfl) ?_
  refine lv_lsub hx hb d_PC_areaWith_67 ?_
  refine lv_lmul hx hb d_PC_areaWith_68 ?_
  refine lv_lsub hx hb d_PC_areaWith_69 ?_
  subst er_1
  subst er_2
  subst er_3
  subst er_4
  subst er_5
  subst er_6
  exact W.lret (v := (((f_Ri_at pin pif se 0) - (f_Ri_at pin pif 0 0)) * ((f_Ri_at pin pif th 1) - (f_Ri_at pin pif 0 1))) - (((f_Ri_at pin pif th 0) - (f_Ri_at pin pif 0 0)) * ((f_Ri_at pin pif se 1) - (f_Ri_at pin pif 0 1)))) hx hb hr (fun t ht hW => ⟨_, rfl, rfl, ht⟩) (fun q h => by cases h) d_PC_areaWith_70
def f_PC_edgeNumber (pin : Int32) (pif : Nat → Int64) (fan : Int32) (faS : Nat → Int32) (faT : Nat → Int32) (ix : Int32) (co : Int32) (xx : Int32) (yy : Int32) : Int64 := (((f_Ri_at pin pif (f_Fa_corner fan faS faT ix (f_PC_cornerAfter (f_PC_cornerAfter co))) 0) - (f_Ri_at pin pif (f_Fa_corner fan faS faT ix (f_PC_cornerAfter co)) 0)) * ((f_PC_middle yy) - (f_Ri_at pin pif (f_Fa_corner fan faS faT ix (f_PC_cornerAfter co)) 1))) - (((f_Ri_at pin pif (f_Fa_corner fan faS faT ix (f_PC_cornerAfter (f_PC_cornerAfter co))) 1) - (f_Ri_at pin pif (f_Fa_corner fan faS faT ix (f_PC_cornerAfter co)) 1)) * ((f_PC_middle xx) - (f_Ri_at pin pif (f_Fa_corner fan faS faT ix (f_PC_cornerAfter co)) 0)))
set_option maxHeartbeats 4000000 in
set_option maxRecDepth 100000 in
theorem c_PC_edgeNumber (l : Launch) (dC : Nat → ClassId) (dI : Nat → Nat → Nat) (cJ cI : ClassId) (ob : Nat) (wi : Int32) (hi : Int32) (fo : Int32) (gi : Nat) (gia : Nat) (gin : Int32) (gif : Nat → Int64) (ke : Nat) (kea : Nat) (ken : Int32) (kef : Nat → Int64) (sp : Nat) (spa : Nat) (spn : Int32) (spf : Nat → Int64) (pi : Nat) (pia : Nat) (pin : Int32) (pif : Nat → Int64) (fa : Nat) (fas : Nat) (fat : Nat) (faa : Nat) (fan : Int32) (faS : Nat → Int32) (faT : Nat → Int32) (faA : Nat → Int32) (ix : Int32) (co : Int32) (xx : Int32) (yy : Int32) : Met l y_PC_edgeNumber w_PC_edgeNumber ({ frames := 2, cells := 0, slots := 0, locals := 43 } : Room) (rq_ro (dC, dI) cJ cI [.ref ob, .int ix, .int co, .int xx, .int yy] [(ob, .inr (0, [.int wi, .int hi, .int fo, .ref gi, .ref ke, .ref sp, .ref pi, .ref fa])), (gi, .inr (1, [.ref gia, .int gin])), (gia, .inl (cJ, 114, .inr (.inl gif))), (ke, .inr (1, [.ref kea, .int ken])), (kea, .inl (cJ, 114, .inr (.inl kef))), (sp, .inr (1, [.ref spa, .int spn])), (spa, .inl (cJ, 114, .inr (.inl spf))), (pi, .inr (1, [.ref pia, .int pin])), (pia, .inl (cJ, 114, .inr (.inl pif))), (fa, .inr (2, [.ref fas, .ref fat, .ref faa, .int fan])), (fas, .inl (cI, 17, .inl faS)), (fat, .inl (cI, 17, .inl faT)), (faa, .inl (cI, 17, .inl faA))]) (vp_Sl (fun r => r = f_PC_edgeNumber pin pif fan faS faT ix co xx yy)) 0 0 (fun _ => False) := by
  refine Met.ofW (cc := b_PC_edgeNumber) (maxL := 11) (ret := (some .long)) (by decide) rfl ?_
  intro p e s m args below meth c s₁ B hml hv
  obtain ⟨rfl, hP, hK, hN⟩ := hv
  have hx := B.exec
  have hb := B.bytes
  have hr := B.returns
  have hts := atoms_spec (ws := w_PC_edgeNumber) B.pre
  have hown : s.vm.findClass R_PC = some m.cls := findClass_of_methodNamed B.named
  have hlocks := B.notSynchronized
  have hl := lv_entry ([.ref ob, .int ix, .int co, .int xx, .int yy]) (n := 11) (Nat.le_of_ble_eq_true rfl)
  rw [lg_entry_eq]
  generalize (lg_sl ([.ref ob, .int ix, .int co, .int xx, .int yy]) ++ List.replicate (11 - (lg_sl ([.ref ob, .int ix, .int co, .int xx, .int yy])).length) Slot.unset).toArray = ls at hl ⊢
  have hl : lv_has ls 11 [(0, .ref ob), (1, .int ix), (2, .int co), (3, .int xx), (4, .int yy)] := hl
  refine lv_aload_n hx hb d_PC_edgeNumber_0 rfl (lv_at hl 0 rfl) ?_
  refine va_get (D := (dC, dI)) (ci := 0) (v := .ref fa) (C := R_PC) (T := F_PC) (N := 8) hx hb hts (fun w h => mw (i_PC w h)) hown hK hP 0 rfl rfl 7 (by decide) (hts _ (mw wd_88)) (fun _ h9 => h9) rfl d_PC_edgeNumber_1 ?_
  refine lv_iload_n hx hb d_PC_edgeNumber_4 rfl (lv_at hl 1 rfl) ?_
  refine lv_iload_n hx hb d_PC_edgeNumber_5 rfl (lv_at hl 2 rfl) ?_
  refine vp_callSi (va_Run.run (va_runS (As := [.int co]) (rest := [.int ix, .ref fa]) ⟨hx, hb, hml, hown, hts⟩ (c_PC_cornerAfter l dC dI cJ cI co) (va_cwS 1 hts (gd_S wd_199 wd_200 wd_33 wd_201) rfl rfl rfl (by decide +kernel) ⟨Nat.le_of_ble_eq_true rfl, Nat.le_of_ble_eq_true rfl⟩) ⟨fb_ro, pre_ro hK hN va_nil⟩ rfl rfl hl.1 rfl (lv_room (Nat.le_of_ble_eq_true rfl)) d_PC_edgeNumber_6 ⟨Nat.le_of_ble_eq_true rfl, Nat.le_of_ble_eq_true rfl⟩)) (fun r_1 er_1 => ?_)
  have er_1 : r_1 = f_PC_cornerAfter co := er_1
  have hPc := hP.sub (ws' := [(fa, .inr (2, [.ref fas, .ref fat, .ref faa, .int fan])), (fas, .inl (cI, 17, .inl faS)), (fat, .inl (cI, 17, .inl faT)), (faa, .inl (cI, 17, .inl faA))]) [9, 10, 11, 12] rfl
  refine vp_callSi (va_Run.run (va_runVN (As := [.int ix, .int r_1]) (rest := []) ⟨hx, hb, hml, hown, hts⟩ (c_Fa_corner l dC dI cJ cI fa fas fat faa fan faS faT faA ix r_1) (⟨va_cnB 2 hts (gd_0 wd_175) rfl rfl rfl (hN _ nw_13) (hts _ (mw wd_36)) (by decide +kernel) ⟨Nat.le_of_ble_eq_true rfl, Nat.le_of_ble_eq_true rfl⟩, (hts _ (mw wd_174)), (hts _ (mw wd_14))⟩) ⟨fb_ro, va_recv hK hPc (ci := 2) (q0 := 0) rfl rfl, pre_ro hK hN hPc⟩ rfl rfl hl.1 rfl (lv_room (Nat.le_of_ble_eq_true rfl)) d_PC_edgeNumber_9 ⟨Nat.le_of_ble_eq_true rfl, Nat.le_of_ble_eq_true rfl⟩)) (fun r_2 er_2 => ?_)
  have er_2 : r_2 = f_Fa_corner fan faS faT ix r_1 := er_2
  refine lv_istore (lv' := [(5, .int r_2), (0, .ref ob), (1, .int ix), (2, .int co), (3, .int xx), (4, .int yy)]) hx hb d_PC_edgeNumber_12 hl (by decide) rfl (fun ls hl => ?_)
  refine lv_aload_n hx hb d_PC_edgeNumber_14 rfl (lv_at hl 1 rfl) ?_
  refine va_get (D := (dC, dI)) (ci := 0) (v := .ref fa) (C := R_PC) (T := F_PC) (N := 8) hx hb hts (fun w h => mw (i_PC w h)) hown hK hP 0 rfl rfl 7 (by decide) (hts _ (mw wd_88)) (fun _ h9 => h9) rfl d_PC_edgeNumber_15 ?_
  refine lv_iload_n hx hb d_PC_edgeNumber_18 rfl (lv_at hl 2 rfl) ?_
  refine lv_iload_n hx hb d_PC_edgeNumber_19 rfl (lv_at hl 3 rfl) ?_
  refine vp_callSi (va_Run.run (va_runS (As := [.int co]) (rest := [.int ix, .ref fa]) ⟨hx, hb, hml, hown, hts⟩ (c_PC_cornerAfter l dC dI cJ cI co) (va_cwS 1 hts (gd_S wd_199 wd_200 wd_33 wd_201) rfl rfl rfl (by decide +kernel) ⟨Nat.le_of_ble_eq_true rfl, Nat.le_of_ble_eq_true rfl⟩) ⟨fb_ro, pre_ro hK hN va_nil⟩ rfl rfl hl.1 rfl (lv_room (Nat.le_of_ble_eq_true rfl)) d_PC_edgeNumber_20 ⟨Nat.le_of_ble_eq_true rfl, Nat.le_of_ble_eq_true rfl⟩)) (fun r_3 er_3 => ?_)
  have er_3 : r_3 = f_PC_cornerAfter co := er_3
  refine vp_callSi (va_Run.run (va_runS (As := [.int r_3]) (rest := [.int ix, .ref fa]) ⟨hx, hb, hml, hown, hts⟩ (c_PC_cornerAfter l dC dI cJ cI r_3) (va_cwS 1 hts (gd_S wd_199 wd_200 wd_33 wd_201) rfl rfl rfl (by decide +kernel) ⟨Nat.le_of_ble_eq_true rfl, Nat.le_of_ble_eq_true rfl⟩) ⟨fb_ro, pre_ro hK hN va_nil⟩ rfl rfl hl.1 rfl (lv_room (Nat.le_of_ble_eq_true rfl)) d_PC_edgeNumber_23 ⟨Nat.le_of_ble_eq_true rfl, Nat.le_of_ble_eq_true rfl⟩)) (fun r_4 er_4 => ?_)
  have er_4 : r_4 = f_PC_cornerAfter r_3 := er_4
  have hPc := hP.sub (ws' := [(fa, .inr (2, [.ref fas, .ref fat, .ref faa, .int fan])), (fas, .inl (cI, 17, .inl faS)), (fat, .inl (cI, 17, .inl faT)), (faa, .inl (cI, 17, .inl faA))]) [9, 10, 11, 12] rfl
  refine vp_callSi (va_Run.run (va_runVN (As := [.int ix, .int r_4]) (rest := []) ⟨hx, hb, hml, hown, hts⟩ (c_Fa_corner l dC dI cJ cI fa fas fat faa fan faS faT faA ix r_4) (⟨va_cnB 2 hts (gd_0 wd_175) rfl rfl rfl (hN _ nw_13) (hts _ (mw wd_36)) (by decide +kernel) ⟨Nat.le_of_ble_eq_true rfl, Nat.le_of_ble_eq_true rfl⟩, (hts _ (mw wd_174)), (hts _ (mw wd_14))⟩) ⟨fb_ro, va_recv hK hPc (ci := 2) (q0 := 0) rfl rfl, pre_ro hK hN hPc⟩ rfl rfl hl.1 rfl (lv_room (Nat.le_of_ble_eq_true rfl)) d_PC_edgeNumber_26 ⟨Nat.le_of_ble_eq_true rfl, Nat.le_of_ble_eq_true rfl⟩)) (fun r_5 er_5 => ?_)
  have er_5 : r_5 = f_Fa_corner fan faS faT ix r_4 := er_5
  refine lv_istore (lv' := [(6, .int r_5), (5, .int r_2), (0, .ref ob), (1, .int ix), (2, .int co), (3, .int xx), (4, .int yy)]) hx hb d_PC_edgeNumber_29 hl (by decide) rfl (fun ls hl => ?_)
  refine lv_aload_n hx hb d_PC_edgeNumber_31 rfl (lv_at hl 2 rfl) ?_
  refine va_get (D := (dC, dI)) (ci := 0) (v := .ref pi) (C := R_PC) (T := F_PC) (N := 8) hx hb hts (fun w h => mw (i_PC w h)) hown hK hP 0 rfl rfl 6 (by decide) (hts _ (mw wd_87)) (fun _ h9 => h9) rfl d_PC_edgeNumber_32 ?_
  refine lv_iload hx hb d_PC_edgeNumber_35 (lv_at hl 1 rfl) ?_
  refine lv_iconst (v := 0) hx hb d_PC_edgeNumber_37 (by decide) ?_
  have hPc := hP.sub (ws' := [(pi, .inr (1, [.ref pia, .int pin])), (pia, .inl (cJ, 114, .inr (.inl pif)))]) [7, 8] rfl
  refine vp_callSl (va_Run.run (va_runVN (As := [.int r_2, .int 0]) (rest := []) ⟨hx, hb, hml, hown, hts⟩ (c_Ri_at l dC dI cJ cI pi pia pin pif r_2 0) (⟨va_cnB 2 hts (gd_0 wd_136) rfl rfl rfl (hN _ nw_10) (hts _ (mw wd_35)) (by decide +kernel) ⟨Nat.le_of_ble_eq_true rfl, Nat.le_of_ble_eq_true rfl⟩, (hts _ (mw wd_135)), (hts _ (mw wd_5))⟩) ⟨fb_ro, va_recv hK hPc (ci := 1) (q0 := 0) rfl rfl, pre_ro hK hN hPc⟩ rfl rfl hl.1 rfl (lv_room (Nat.le_of_ble_eq_true rfl)) d_PC_edgeNumber_38 ⟨Nat.le_of_ble_eq_true rfl, Nat.le_of_ble_eq_true rfl⟩)) (fun r_6 er_6 => ?_)
  have er_6 : r_6 = f_Ri_at pin pif r_2 0 := er_6
  refine lv_lstore (lv' := [(7, .long r_6), (6, .int r_5), (5, .int r_2), (0, .ref ob), (1, .int ix), (2, .int co), (3, .int xx), (4, .int yy)]) hx hb d_PC_edgeNumber_41 hl (by decide) rfl (fun ls hl => ?_)
  refine lv_aload_n hx hb d_PC_edgeNumber_43 rfl (lv_at hl 3 rfl) ?_
  refine va_get (D := (dC, dI)) (ci := 0) (v := .ref pi) (C := R_PC) (T := F_PC) (N := 8) hx hb hts (fun w h => mw (i_PC w h)) hown hK hP 0 rfl rfl 6 (by decide) (hts _ (mw wd_87)) (fun _ h9 => h9) rfl d_PC_edgeNumber_44 ?_
  refine lv_iload hx hb d_PC_edgeNumber_47 (lv_at hl 2 rfl) ?_
  refine lv_iconst (v := 1) hx hb d_PC_edgeNumber_49 (by decide) ?_
  have hPc := hP.sub (ws' := [(pi, .inr (1, [.ref pia, .int pin])), (pia, .inl (cJ, 114, .inr (.inl pif)))]) [7, 8] rfl
  refine vp_callSl (va_Run.run (va_runVN (As := [.int r_2, .int 1]) (rest := []) ⟨hx, hb, hml, hown, hts⟩ (c_Ri_at l dC dI cJ cI pi pia pin pif r_2 1) (⟨va_cnB 2 hts (gd_0 wd_136) rfl rfl rfl (hN _ nw_10) (hts _ (mw wd_35)) (by decide +kernel) ⟨Nat.le_of_ble_eq_true rfl, Nat.le_of_ble_eq_true rfl⟩, (hts _ (mw wd_135)), (hts _ (mw wd_5))⟩) ⟨fb_ro, va_recv hK hPc (ci := 1) (q0 := 0) rfl rfl, pre_ro hK hN hPc⟩ rfl rfl hl.1 rfl (lv_room (Nat.le_of_ble_eq_true rfl)) d_PC_edgeNumber_50 ⟨Nat.le_of_ble_eq_true rfl, Nat.le_of_ble_eq_true rfl⟩)) (fun r_7 er_7 => ?_)
  have er_7 : r_7 = f_Ri_at pin pif r_2 1 := er_7
  refine lv_lstore (lv' := [(9, .long r_7), (7, .long r_6), (6, .int r_5), (5, .int r_2), (0, .ref ob), (1, .int ix), (2, .int co), (3, .int xx), (4, .int yy)]) hx hb d_PC_edgeNumber_53 hl (by decide) rfl (fun ls hl => ?_)
  refine lv_aload_n hx hb d_PC_edgeNumber_55 rfl (lv_at hl 4 rfl) ?_
  refine va_get (D := (dC, dI)) (ci := 0) (v := .ref pi) (C := R_PC) (T := F_PC) (N := 8) hx hb hts (fun w h => mw (i_PC w h)) hown hK hP 0 rfl rfl 6 (by decide) (hts _ (mw wd_87)) (fun _ h9 => h9) rfl d_PC_edgeNumber_56 ?_
  refine lv_iload hx hb d_PC_edgeNumber_59 (lv_at hl 2 rfl) ?_
  refine lv_iconst (v := 0) hx hb d_PC_edgeNumber_61 (by decide) ?_
  have hPc := hP.sub (ws' := [(pi, .inr (1, [.ref pia, .int pin])), (pia, .inl (cJ, 114, .inr (.inl pif)))]) [7, 8] rfl
  refine vp_callSl (va_Run.run (va_runVN (As := [.int r_5, .int 0]) (rest := []) ⟨hx, hb, hml, hown, hts⟩ (c_Ri_at l dC dI cJ cI pi pia pin pif r_5 0) (⟨va_cnB 2 hts (gd_0 wd_136) rfl rfl rfl (hN _ nw_10) (hts _ (mw wd_35)) (by decide +kernel) ⟨Nat.le_of_ble_eq_true rfl, Nat.le_of_ble_eq_true rfl⟩, (hts _ (mw wd_135)), (hts _ (mw wd_5))⟩) ⟨fb_ro, va_recv hK hPc (ci := 1) (q0 := 0) rfl rfl, pre_ro hK hN hPc⟩ rfl rfl hl.1 rfl (lv_room (Nat.le_of_ble_eq_true rfl)) d_PC_edgeNumber_62 ⟨Nat.le_of_ble_eq_true rfl, Nat.le_of_ble_eq_true rfl⟩)) (fun r_8 er_8 => ?_)
  have er_8 : r_8 = f_Ri_at pin pif r_5 0 := er_8
  refine lv_lload hx hb d_PC_edgeNumber_65 (lv_at hl 1 rfl) ?_
  refine lv_lsub hx hb d_PC_edgeNumber_67 ?_
  refine lv_iload hx hb d_PC_edgeNumber_68 (lv_at hl 8 rfl) ?_
  refine vp_callSl (va_Run.run (va_runS (As := [.int yy]) (rest := [.long (r_8 - r_6)]) ⟨hx, hb, hml, hown, hts⟩ (c_PC_middle l dC dI cJ cI yy) (va_cwS 1 hts (gd_S wd_202 wd_203 wd_33 wd_204) rfl rfl rfl (by decide +kernel) ⟨Nat.le_of_ble_eq_true rfl, Nat.le_of_ble_eq_true rfl⟩) ⟨fb_ro, pre_ro hK hN va_nil⟩ rfl rfl hl.1 rfl (lv_room (Nat.le_of_ble_eq_true rfl)) d_PC_edgeNumber_70 ⟨Nat.le_of_ble_eq_true rfl, Nat.le_of_ble_eq_true rfl⟩)) (fun r_9 er_9 => ?_)
  have er_9 : r_9 = f_PC_middle yy := er_9
  refine lv_lload hx hb d_PC_edgeNumber_73 (lv_at hl 0 rfl) ?_
  refine lv_lsub hx hb d_PC_edgeNumber_75 ?_
  refine lv_lmul hx hb d_PC_edgeNumber_76 ?_
  refine lv_aload_n hx hb d_PC_edgeNumber_77 rfl (lv_at hl 4 rfl) ?_
  refine va_get (D := (dC, dI)) (ci := 0) (v := .ref pi) (C := R_PC) (T := F_PC) (N := 8) hx hb hts (fun w h => mw (i_PC w h)) hown hK hP 0 rfl rfl 6 (by decide) (hts _ (mw wd_87)) (fun _ h9 => h9) rfl d_PC_edgeNumber_78 ?_
  refine lv_iload hx hb d_PC_edgeNumber_81 (lv_at hl 2 rfl) ?_
  refine lv_iconst (v := 1) hx hb d_PC_edgeNumber_83 (by decide) ?_
  have hPc := hP.sub (ws' := [(pi, .inr (1, [.ref pia, .int pin])), (pia, .inl (cJ, 114, .inr (.inl pif)))]) [7, 8] rfl
  refine vp_callSl (va_Run.run (va_runVN (As := [.int r_5, .int 1]) (rest := [.long ((r_8 - r_6) * (r_9 - r_7))]) ⟨hx, hb, hml, hown, hts⟩ (c_Ri_at l dC dI cJ cI pi pia pin pif r_5 1) (⟨va_cnB 2 hts (gd_0 wd_136) rfl rfl rfl (hN _ nw_10) (hts _ (mw wd_35)) (by decide +kernel) ⟨Nat.le_of_ble_eq_true rfl, Nat.le_of_ble_eq_true rfl⟩, (hts _ (mw wd_135)), (hts _ (mw wd_5))⟩) ⟨fb_ro, va_recv hK hPc (ci := 1) (q0 := 0) rfl rfl, pre_ro hK hN hPc⟩ rfl rfl hl.1 rfl (lv_room (Nat.le_of_ble_eq_true rfl)) d_PC_edgeNumber_84 ⟨Nat.le_of_ble_eq_true rfl, Nat.le_of_ble_eq_true rfl⟩)) (fun r_10 er_10 => ?_)
  have er_10 : r_10 = f_Ri_at pin pif r_5 1 := er_10
  refine lv_lload hx hb d_PC_edgeNumber_87 (lv_at hl 0 rfl) ?_
  refine lv_lsub hx hb d_PC_edgeNumber_89 ?_
  refine lv_iload_n hx hb d_PC_edgeNumber_90 rfl (lv_at hl 7 rfl) ?_
  refine vp_callSl (va_Run.run (va_runS (As := [.int xx]) (rest := [.long (r_10 - r_7), .long ((r_8 - r_6) * (r_9 - r_7))]) ⟨hx, hb, hml, hown, hts⟩ (c_PC_middle l dC dI cJ cI xx) (va_cwS 1 hts (gd_S wd_202 wd_203 wd_33 wd_204) rfl rfl rfl (by decide +kernel) ⟨Nat.le_of_ble_eq_true rfl, Nat.le_of_ble_eq_true rfl⟩) ⟨fb_ro, pre_ro hK hN va_nil⟩ rfl rfl hl.1 rfl (lv_room (Nat.le_of_ble_eq_true rfl)) d_PC_edgeNumber_91 ⟨Nat.le_of_ble_eq_true rfl, Nat.le_of_ble_eq_true rfl⟩)) (fun r_11 er_11 => ?_)
  have er_11 : r_11 = f_PC_middle xx := er_11
  refine lv_lload hx hb d_PC_edgeNumber_94 (lv_at hl 1 rfl) ?_
  refine lv_lsub hx hb d_PC_edgeNumber_96 ?_
  refine lv_lmul hx hb d_PC_edgeNumber_97 ?_
  refine lv_lsub hx hb d_PC_edgeNumber_98 ?_
  subst er_1
  subst er_2
  subst er_3
  subst er_4
  subst er_5
  subst er_6
  subst er_7
  subst er_8
  subst er_9
  subst er_10
  subst er_11
  exact W.lret (v := (((f_Ri_at pin pif (f_Fa_corner fan faS faT ix (f_PC_cornerAfter (f_PC_cornerAfter co))) 0) - (f_Ri_at pin pif (f_Fa_corner fan faS faT ix (f_PC_cornerAfter co)) 0)) * ((f_PC_middle yy) - (f_Ri_at pin pif (f_Fa_corner fan faS faT ix (f_PC_cornerAfter co)) 1))) - (((f_Ri_at pin pif (f_Fa_corner fan faS faT ix (f_PC_cornerAfter (f_PC_cornerAfter co))) 1) - (f_Ri_at pin pif (f_Fa_corner fan faS faT ix (f_PC_cornerAfter co)) 1)) * ((f_PC_middle xx) - (f_Ri_at pin pif (f_Fa_corner fan faS faT ix (f_PC_cornerAfter co)) 0)))) hx hb hr (fun t ht hW => ⟨_, rfl, rfl, ht⟩) (fun q h => by cases h) d_PC_edgeNumber_99
def f_PC_isInside (pin : Int32) (pif : Nat → Int64) (fan : Int32) (faS : Nat → Int32) (faT : Nat → Int32) (ix : Int32) (co : Int32) (xx : Int32) (yy : Int32) : Int32 := if (f_PC_edgeNumber pin pif fan faS faT ix co xx yy) = 0 then (if ((f_Ri_at pin pif (f_Fa_corner fan faS faT ix (f_PC_cornerAfter (f_PC_cornerAfter co))) 1) - (f_Ri_at pin pif (f_Fa_corner fan faS faT ix (f_PC_cornerAfter co)) 1)) < 0 then 1 else (if ((f_Ri_at pin pif (f_Fa_corner fan faS faT ix (f_PC_cornerAfter (f_PC_cornerAfter co))) 1) - (f_Ri_at pin pif (f_Fa_corner fan faS faT ix (f_PC_cornerAfter co)) 1)) = 0 then (if (f_Ri_at pin pif (f_Fa_corner fan faS faT ix (f_PC_cornerAfter (f_PC_cornerAfter co))) 0) ≤ (f_Ri_at pin pif (f_Fa_corner fan faS faT ix (f_PC_cornerAfter co)) 0) then 0 else 1) else 0)) else (if (f_PC_edgeNumber pin pif fan faS faT ix co xx yy) ≤ 0 then 0 else 1)
set_option maxHeartbeats 4000000 in
set_option maxRecDepth 100000 in
theorem c_PC_isInside (l : Launch) (dC : Nat → ClassId) (dI : Nat → Nat → Nat) (cJ cI : ClassId) (ob : Nat) (wi : Int32) (hi : Int32) (fo : Int32) (gi : Nat) (gia : Nat) (gin : Int32) (gif : Nat → Int64) (ke : Nat) (kea : Nat) (ken : Int32) (kef : Nat → Int64) (sp : Nat) (spa : Nat) (spn : Int32) (spf : Nat → Int64) (pi : Nat) (pia : Nat) (pin : Int32) (pif : Nat → Int64) (fa : Nat) (fas : Nat) (fat : Nat) (faa : Nat) (fan : Int32) (faS : Nat → Int32) (faT : Nat → Int32) (faA : Nat → Int32) (ix : Int32) (co : Int32) (xx : Int32) (yy : Int32) : Met l y_PC_isInside w_PC_isInside ({ frames := 3, cells := 0, slots := 0, locals := 73 } : Room) (rq_ro (dC, dI) cJ cI [.ref ob, .int ix, .int co, .int xx, .int yy] [(ob, .inr (0, [.int wi, .int hi, .int fo, .ref gi, .ref ke, .ref sp, .ref pi, .ref fa])), (gi, .inr (1, [.ref gia, .int gin])), (gia, .inl (cJ, 114, .inr (.inl gif))), (ke, .inr (1, [.ref kea, .int ken])), (kea, .inl (cJ, 114, .inr (.inl kef))), (sp, .inr (1, [.ref spa, .int spn])), (spa, .inl (cJ, 114, .inr (.inl spf))), (pi, .inr (1, [.ref pia, .int pin])), (pia, .inl (cJ, 114, .inr (.inl pif))), (fa, .inr (2, [.ref fas, .ref fat, .ref faa, .int fan])), (fas, .inl (cI, 17, .inl faS)), (fat, .inl (cI, 17, .inl faT)), (faa, .inl (cI, 17, .inl faA))]) (vp_Si (fun r => r = f_PC_isInside pin pif fan faS faT ix co xx yy)) 0 0 (fun _ => False) := by
  refine Met.ofW (cc := b_PC_isInside) (maxL := 11) (ret := (some .boolean)) (by decide) rfl ?_
  intro p e s m args below meth c s₁ B hml hv
  obtain ⟨rfl, hP, hK, hN⟩ := hv
  have hx := B.exec
  have hb := B.bytes
  have hr := B.returns
  have hts := atoms_spec (ws := w_PC_isInside) B.pre
  have hown : s.vm.findClass R_PC = some m.cls := findClass_of_methodNamed B.named
  have hlocks := B.notSynchronized
  have hl := lv_entry ([.ref ob, .int ix, .int co, .int xx, .int yy]) (n := 11) (Nat.le_of_ble_eq_true rfl)
  rw [lg_entry_eq]
  generalize (lg_sl ([.ref ob, .int ix, .int co, .int xx, .int yy]) ++ List.replicate (11 - (lg_sl ([.ref ob, .int ix, .int co, .int xx, .int yy])).length) Slot.unset).toArray = ls at hl ⊢
  have hl : lv_has ls 11 [(0, .ref ob), (1, .int ix), (2, .int co), (3, .int xx), (4, .int yy)] := hl
  refine lv_aload_n hx hb d_PC_isInside_0 rfl (lv_at hl 0 rfl) ?_
  refine lv_iload_n hx hb d_PC_isInside_1 rfl (lv_at hl 1 rfl) ?_
  refine lv_iload_n hx hb d_PC_isInside_2 rfl (lv_at hl 2 rfl) ?_
  refine lv_iload_n hx hb d_PC_isInside_3 rfl (lv_at hl 3 rfl) ?_
  refine lv_iload hx hb d_PC_isInside_4 (lv_at hl 4 rfl) ?_
  have hPc := hP
  refine vp_callSl (va_Run.run (va_runV (As := [.int ix, .int co, .int xx, .int yy]) (rest := []) ⟨hx, hb, hml, hown, hts⟩ (c_PC_edgeNumber l dC dI cJ cI ob wi hi fo gi gia gin gif ke kea ken kef sp spa spn spf pi pia pin pif fa fas fat faa fan faS faT faA ix co xx yy) (cwV 4 hts (gd_V wd_196 wd_197 wd_19 wd_33 wd_198) rfl rfl rfl (by decide +kernel) ⟨Nat.le_of_ble_eq_true rfl, Nat.le_of_ble_eq_true rfl⟩) ⟨fb_ro, va_recv hK hPc (ci := 0) (q0 := 0) rfl rfl, pre_ro hK hN hPc⟩ rfl rfl hl.1 rfl (lv_room (Nat.le_of_ble_eq_true rfl)) d_PC_isInside_6 ⟨Nat.le_of_ble_eq_true rfl, Nat.le_of_ble_eq_true rfl⟩)) (fun r_1 er_1 => ?_)
  have er_1 : r_1 = f_PC_edgeNumber pin pif fan faS faT ix co xx yy := er_1
  refine lv_lstore (lv' := [(5, .long r_1), (0, .ref ob), (1, .int ix), (2, .int co), (3, .int xx), (4, .int yy)]) hx hb d_PC_isInside_9 hl (by decide) rfl (fun ls hl => ?_)
  refine lv_lload hx hb d_PC_isInside_11 (lv_at hl 0 rfl) ?_
  refine lv_lconst (v := 0) hx hb d_PC_isInside_13 (by decide) ?_
  refine W.lcmp hx hb d_PC_isInside_14 ?_
  refine lv_if_eq (tgt := 31) hx hb d_PC_isInside_15 (by decide) (fun c_2 => ?_) (fun c_2 => ?_)
  · rw [lg_cmp_eq] at c_2
    have c_2 : r_1 = 0 := c_2
    refine lv_aload_n hx hb d_PC_isInside_31 rfl (lv_at hl 1 rfl) ?_
    refine va_get (D := (dC, dI)) (ci := 0) (v := .ref fa) (C := R_PC) (T := F_PC) (N := 8) hx hb hts (fun w h => mw (i_PC w h)) hown hK hP 0 rfl rfl 7 (by decide) (hts _ (mw wd_88)) (fun _ h9 => h9) rfl d_PC_isInside_32 ?_
    refine lv_iload_n hx hb d_PC_isInside_35 rfl (lv_at hl 2 rfl) ?_
    refine lv_iload_n hx hb d_PC_isInside_36 rfl (lv_at hl 3 rfl) ?_
    refine vp_callSi (va_Run.run (va_runS (As := [.int co]) (rest := [.int ix, .ref fa]) ⟨hx, hb, hml, hown, hts⟩ (c_PC_cornerAfter l dC dI cJ cI co) (va_cwS 1 hts (gd_S wd_199 wd_200 wd_33 wd_201) rfl rfl rfl (by decide +kernel) ⟨Nat.le_of_ble_eq_true rfl, Nat.le_of_ble_eq_true rfl⟩) ⟨fb_ro, pre_ro hK hN va_nil⟩ rfl rfl hl.1 rfl (lv_room (Nat.le_of_ble_eq_true rfl)) d_PC_isInside_37 ⟨Nat.le_of_ble_eq_true rfl, Nat.le_of_ble_eq_true rfl⟩)) (fun r_3 er_3 => ?_)
    have er_3 : r_3 = f_PC_cornerAfter co := er_3
    have hPc := hP.sub (ws' := [(fa, .inr (2, [.ref fas, .ref fat, .ref faa, .int fan])), (fas, .inl (cI, 17, .inl faS)), (fat, .inl (cI, 17, .inl faT)), (faa, .inl (cI, 17, .inl faA))]) [9, 10, 11, 12] rfl
    refine vp_callSi (va_Run.run (va_runVN (As := [.int ix, .int r_3]) (rest := []) ⟨hx, hb, hml, hown, hts⟩ (c_Fa_corner l dC dI cJ cI fa fas fat faa fan faS faT faA ix r_3) (⟨va_cnB 2 hts (gd_0 wd_175) rfl rfl rfl (hN _ nw_13) (hts _ (mw wd_36)) (by decide +kernel) ⟨Nat.le_of_ble_eq_true rfl, Nat.le_of_ble_eq_true rfl⟩, (hts _ (mw wd_174)), (hts _ (mw wd_14))⟩) ⟨fb_ro, va_recv hK hPc (ci := 2) (q0 := 0) rfl rfl, pre_ro hK hN hPc⟩ rfl rfl hl.1 rfl (lv_room (Nat.le_of_ble_eq_true rfl)) d_PC_isInside_40 ⟨Nat.le_of_ble_eq_true rfl, Nat.le_of_ble_eq_true rfl⟩)) (fun r_4 er_4 => ?_)
    have er_4 : r_4 = f_Fa_corner fan faS faT ix r_3 := er_4
    refine lv_istore (lv' := [(7, .int r_4), (5, .long r_1), (0, .ref ob), (1, .int ix), (2, .int co), (3, .int xx), (4, .int yy)]) hx hb d_PC_isInside_43 hl (by decide) rfl (fun ls hl => ?_)
    refine lv_aload_n hx hb d_PC_isInside_45 rfl (lv_at hl 2 rfl) ?_
    refine va_get (D := (dC, dI)) (ci := 0) (v := .ref fa) (C := R_PC) (T := F_PC) (N := 8) hx hb hts (fun w h => mw (i_PC w h)) hown hK hP 0 rfl rfl 7 (by decide) (hts _ (mw wd_88)) (fun _ h9 => h9) rfl d_PC_isInside_46 ?_
    refine lv_iload_n hx hb d_PC_isInside_49 rfl (lv_at hl 3 rfl) ?_
    refine lv_iload_n hx hb d_PC_isInside_50 rfl (lv_at hl 4 rfl) ?_
    refine vp_callSi (va_Run.run (va_runS (As := [.int co]) (rest := [.int ix, .ref fa]) ⟨hx, hb, hml, hown, hts⟩ (c_PC_cornerAfter l dC dI cJ cI co) (va_cwS 1 hts (gd_S wd_199 wd_200 wd_33 wd_201) rfl rfl rfl (by decide +kernel) ⟨Nat.le_of_ble_eq_true rfl, Nat.le_of_ble_eq_true rfl⟩) ⟨fb_ro, pre_ro hK hN va_nil⟩ rfl rfl hl.1 rfl (lv_room (Nat.le_of_ble_eq_true rfl)) d_PC_isInside_51 ⟨Nat.le_of_ble_eq_true rfl, Nat.le_of_ble_eq_true rfl⟩)) (fun r_5 er_5 => ?_)
    have er_5 : r_5 = f_PC_cornerAfter co := er_5
    refine vp_callSi (va_Run.run (va_runS (As := [.int r_5]) (rest := [.int ix, .ref fa]) ⟨hx, hb, hml, hown, hts⟩ (c_PC_cornerAfter l dC dI cJ cI r_5) (va_cwS 1 hts (gd_S wd_199 wd_200 wd_33 wd_201) rfl rfl rfl (by decide +kernel) ⟨Nat.le_of_ble_eq_true rfl, Nat.le_of_ble_eq_true rfl⟩) ⟨fb_ro, pre_ro hK hN va_nil⟩ rfl rfl hl.1 rfl (lv_room (Nat.le_of_ble_eq_true rfl)) d_PC_isInside_54 ⟨Nat.le_of_ble_eq_true rfl, Nat.le_of_ble_eq_true rfl⟩)) (fun r_6 er_6 => ?_)
    have er_6 : r_6 = f_PC_cornerAfter r_5 := er_6
    have hPc := hP.sub (ws' := [(fa, .inr (2, [.ref fas, .ref fat, .ref faa, .int fan])), (fas, .inl (cI, 17, .inl faS)), (fat, .inl (cI, 17, .inl faT)), (faa, .inl (cI, 17, .inl faA))]) [9, 10, 11, 12] rfl
    refine vp_callSi (va_Run.run (va_runVN (As := [.int ix, .int r_6]) (rest := []) ⟨hx, hb, hml, hown, hts⟩ (c_Fa_corner l dC dI cJ cI fa fas fat faa fan faS faT faA ix r_6) (⟨va_cnB 2 hts (gd_0 wd_175) rfl rfl rfl (hN _ nw_13) (hts _ (mw wd_36)) (by decide +kernel) ⟨Nat.le_of_ble_eq_true rfl, Nat.le_of_ble_eq_true rfl⟩, (hts _ (mw wd_174)), (hts _ (mw wd_14))⟩) ⟨fb_ro, va_recv hK hPc (ci := 2) (q0 := 0) rfl rfl, pre_ro hK hN hPc⟩ rfl rfl hl.1 rfl (lv_room (Nat.le_of_ble_eq_true rfl)) d_PC_isInside_57 ⟨Nat.le_of_ble_eq_true rfl, Nat.le_of_ble_eq_true rfl⟩)) (fun r_7 er_7 => ?_)
    have er_7 : r_7 = f_Fa_corner fan faS faT ix r_6 := er_7
    refine lv_istore (lv' := [(8, .int r_7), (7, .int r_4), (5, .long r_1), (0, .ref ob), (1, .int ix), (2, .int co), (3, .int xx), (4, .int yy)]) hx hb d_PC_isInside_60 hl (by decide) rfl (fun ls hl => ?_)
    refine lv_aload_n hx hb d_PC_isInside_62 rfl (lv_at hl 3 rfl) ?_
    refine va_get (D := (dC, dI)) (ci := 0) (v := .ref pi) (C := R_PC) (T := F_PC) (N := 8) hx hb hts (fun w h => mw (i_PC w h)) hown hK hP 0 rfl rfl 6 (by decide) (hts _ (mw wd_87)) (fun _ h9 => h9) rfl d_PC_isInside_63 ?_
    refine lv_iload hx hb d_PC_isInside_66 (lv_at hl 0 rfl) ?_
    refine lv_iconst (v := 1) hx hb d_PC_isInside_68 (by decide) ?_
    have hPc := hP.sub (ws' := [(pi, .inr (1, [.ref pia, .int pin])), (pia, .inl (cJ, 114, .inr (.inl pif)))]) [7, 8] rfl
    refine vp_callSl (va_Run.run (va_runVN (As := [.int r_7, .int 1]) (rest := []) ⟨hx, hb, hml, hown, hts⟩ (c_Ri_at l dC dI cJ cI pi pia pin pif r_7 1) (⟨va_cnB 2 hts (gd_0 wd_136) rfl rfl rfl (hN _ nw_10) (hts _ (mw wd_35)) (by decide +kernel) ⟨Nat.le_of_ble_eq_true rfl, Nat.le_of_ble_eq_true rfl⟩, (hts _ (mw wd_135)), (hts _ (mw wd_5))⟩) ⟨fb_ro, va_recv hK hPc (ci := 1) (q0 := 0) rfl rfl, pre_ro hK hN hPc⟩ rfl rfl hl.1 rfl (lv_room (Nat.le_of_ble_eq_true rfl)) d_PC_isInside_69 ⟨Nat.le_of_ble_eq_true rfl, Nat.le_of_ble_eq_true rfl⟩)) (fun r_8 er_8 => ?_)
    have er_8 : r_8 = f_Ri_at pin pif r_7 1 := er_8
    refine lv_aload_n hx hb d_PC_isInside_72 rfl (lv_at hl 3 rfl) ?_
    refine va_get (D := (dC, dI)) (ci := 0) (v := .ref pi) (C := R_PC) (T := F_PC) (N := 8) hx hb hts (fun w h => mw (i_PC w h)) hown hK hP 0 rfl rfl 6 (by decide) (hts _ (mw wd_87)) (fun _ h9 => h9) rfl d_PC_isInside_73 ?_
    refine lv_iload hx hb d_PC_isInside_76 (lv_at hl 1 rfl) ?_
    refine lv_iconst (v := 1) hx hb d_PC_isInside_78 (by decide) ?_
    have hPc := hP.sub (ws' := [(pi, .inr (1, [.ref pia, .int pin])), (pia, .inl (cJ, 114, .inr (.inl pif)))]) [7, 8] rfl
    refine vp_callSl (va_Run.run (va_runVN (As := [.int r_4, .int 1]) (rest := [.long r_8]) ⟨hx, hb, hml, hown, hts⟩ (c_Ri_at l dC dI cJ cI pi pia pin pif r_4 1) (⟨va_cnB 2 hts (gd_0 wd_136) rfl rfl rfl (hN _ nw_10) (hts _ (mw wd_35)) (by decide +kernel) ⟨Nat.le_of_ble_eq_true rfl, Nat.le_of_ble_eq_true rfl⟩, (hts _ (mw wd_135)), (hts _ (mw wd_5))⟩) ⟨fb_ro, va_recv hK hPc (ci := 1) (q0 := 0) rfl rfl, pre_ro hK hN hPc⟩ rfl rfl hl.1 rfl (lv_room (Nat.le_of_ble_eq_true rfl)) d_PC_isInside_79 ⟨Nat.le_of_ble_eq_true rfl, Nat.le_of_ble_eq_true rfl⟩)) (fun r_9 er_9 => ?_)
    have er_9 : r_9 = f_Ri_at pin pif r_4 1 := er_9
    refine lv_lsub hx hb d_PC_isInside_82 ?_
    refine lv_topl (fun y_10 ey_10 => ?_)
    refine lv_lstore (lv' := [(9, .long y_10), (8, .int r_7), (7, .int r_4), (5, .long r_1), (0, .ref ob), (1, .int ix), (2, .int co), (3, .int xx), (4, .int yy)]) hx hb d_PC_isInside_83 hl (by decide) rfl (fun ls hl => ?_)
    refine lv_lload hx hb d_PC_isInside_85 (lv_at hl 0 rfl) ?_
    refine lv_lconst (v := 0) hx hb d_PC_isInside_87 (by decide) ?_
    refine W.lcmp hx hb d_PC_isInside_88 ?_
    refine lv_if_lt (tgt := 123) hx hb d_PC_isInside_89 (by decide) (fun c_11 => ?_) (fun c_11 => ?_)
    · rw [lg_cmp_lt] at c_11
      have c_11 : y_10 < 0 := c_11
      refine lv_iconst (v := 1) hx hb d_PC_isInside_123 (by decide) ?_
      refine lv_goto (tgt := 128) hx hb d_PC_isInside_124 (by decide) ?_
      subst er_1
      subst er_3
      subst er_4
      subst er_5
      subst er_6
      subst er_7
      subst er_8
      subst er_9
      subst ey_10
      exact W.zret (v := 1) hx hb hr (by decide) (fun t ht hW => ⟨_, rfl, by rw [f_PC_isInside, if_pos c_2, if_pos c_11], ht⟩) (fun q h => by cases h) d_PC_isInside_128
    · rw [lg_cmp_lt] at c_11
      have c_11 : ¬ (y_10 < 0) := c_11
      refine lv_lload hx hb d_PC_isInside_92 (lv_at hl 0 rfl) ?_
      refine lv_lconst (v := 0) hx hb d_PC_isInside_94 (by decide) ?_
      refine W.lcmp hx hb d_PC_isInside_95 ?_
      refine lv_if_ne (tgt := 127) hx hb d_PC_isInside_96 (by decide) (fun c_12 => ?_) (fun c_12 => ?_)
      · rw [lg_cmp_eq] at c_12
        have c_12 : ¬ (y_10 = 0) := c_12
        refine lv_iconst (v := 0) hx hb d_PC_isInside_127 (by decide) ?_
        subst er_1
        subst er_3
        subst er_4
        subst er_5
        subst er_6
        subst er_7
        subst er_8
        subst er_9
        subst ey_10
        exact W.zret (v := 0) hx hb hr (by decide) (fun t ht hW => ⟨_, rfl, by rw [f_PC_isInside, if_pos c_2, if_neg c_11, if_neg c_12], ht⟩) (fun q h => by cases h) d_PC_isInside_128
      · rw [lg_cmp_eq] at c_12
        have c_12 : y_10 = 0 := c_12
        refine lv_aload_n hx hb d_PC_isInside_99 rfl (lv_at hl 4 rfl) ?_
        refine va_get (D := (dC, dI)) (ci := 0) (v := .ref pi) (C := R_PC) (T := F_PC) (N := 8) hx hb hts (fun w h => mw (i_PC w h)) hown hK hP 0 rfl rfl 6 (by decide) (hts _ (mw wd_87)) (fun _ h9 => h9) rfl d_PC_isInside_100 ?_
        refine lv_iload hx hb d_PC_isInside_103 (lv_at hl 1 rfl) ?_
        refine lv_iconst (v := 0) hx hb d_PC_isInside_105 (by decide) ?_
        have hPc := hP.sub (ws' := [(pi, .inr (1, [.ref pia, .int pin])), (pia, .inl (cJ, 114, .inr (.inl pif)))]) [7, 8] rfl
        refine vp_callSl (va_Run.run (va_runVN (As := [.int r_7, .int 0]) (rest := []) ⟨hx, hb, hml, hown, hts⟩ (c_Ri_at l dC dI cJ cI pi pia pin pif r_7 0) (⟨va_cnB 2 hts (gd_0 wd_136) rfl rfl rfl (hN _ nw_10) (hts _ (mw wd_35)) (by decide +kernel) ⟨Nat.le_of_ble_eq_true rfl, Nat.le_of_ble_eq_true rfl⟩, (hts _ (mw wd_135)), (hts _ (mw wd_5))⟩) ⟨fb_ro, va_recv hK hPc (ci := 1) (q0 := 0) rfl rfl, pre_ro hK hN hPc⟩ rfl rfl hl.1 rfl (lv_room (Nat.le_of_ble_eq_true rfl)) d_PC_isInside_106 ⟨Nat.le_of_ble_eq_true rfl, Nat.le_of_ble_eq_true rfl⟩)) (fun r_13 er_13 => ?_)
        have er_13 : r_13 = f_Ri_at pin pif r_7 0 := er_13
        refine lv_aload_n hx hb d_PC_isInside_109 rfl (lv_at hl 4 rfl) ?_
        refine va_get (D := (dC, dI)) (ci := 0) (v := .ref pi) (C := R_PC) (T := F_PC) (N := 8) hx hb hts (fun w h => mw (i_PC w h)) hown hK hP 0 rfl rfl 6 (by decide) (hts _ (mw wd_87)) (fun _ h9 => h9) rfl d_PC_isInside_110 ?_
        refine lv_iload hx hb d_PC_isInside_113 (lv_at hl 2 rfl) ?_
        refine lv_iconst (v := 0) hx hb d_PC_isInside_115 (by decide) ?_
        have hPc := hP.sub (ws' := [(pi, .inr (1, [.ref pia, .int pin])), (pia, .inl (cJ, 114, .inr (.inl pif)))]) [7, 8] rfl
        refine vp_callSl (va_Run.run (va_runVN (As := [.int r_4, .int 0]) (rest := [.long r_13]) ⟨hx, hb, hml, hown, hts⟩ (c_Ri_at l dC dI cJ cI pi pia pin pif r_4 0) (⟨va_cnB 2 hts (gd_0 wd_136) rfl rfl rfl (hN _ nw_10) (hts _ (mw wd_35)) (by decide +kernel) ⟨Nat.le_of_ble_eq_true rfl, Nat.le_of_ble_eq_true rfl⟩, (hts _ (mw wd_135)), (hts _ (mw wd_5))⟩) ⟨fb_ro, va_recv hK hPc (ci := 1) (q0 := 0) rfl rfl, pre_ro hK hN hPc⟩ rfl rfl hl.1 rfl (lv_room (Nat.le_of_ble_eq_true rfl)) d_PC_isInside_116 ⟨Nat.le_of_ble_eq_true rfl, Nat.le_of_ble_eq_true rfl⟩)) (fun r_14 er_14 => ?_)
        have er_14 : r_14 = f_Ri_at pin pif r_4 0 := er_14
        refine W.lcmp hx hb d_PC_isInside_119 ?_
        refine lv_if_le (tgt := 127) hx hb d_PC_isInside_120 (by decide) (fun c_15 => ?_) (fun c_15 => ?_)
        · rw [lg_cmp_le] at c_15
          have c_15 : r_13 ≤ r_14 := c_15
          refine lv_iconst (v := 0) hx hb d_PC_isInside_127 (by decide) ?_
          subst er_1
          subst er_3
          subst er_4
          subst er_5
          subst er_6
          subst er_7
          subst er_8
          subst er_9
          subst ey_10
          subst er_13
          subst er_14
          exact W.zret (v := 0) hx hb hr (by decide) (fun t ht hW => ⟨_, rfl, by rw [f_PC_isInside, if_pos c_2, if_neg c_11, if_pos c_12, if_pos c_15], ht⟩) (fun q h => by cases h) d_PC_isInside_128
        · rw [lg_cmp_le] at c_15
          have c_15 : ¬ (r_13 ≤ r_14) := c_15
          refine lv_iconst (v := 1) hx hb d_PC_isInside_123 (by decide) ?_
          refine lv_goto (tgt := 128) hx hb d_PC_isInside_124 (by decide) ?_
          subst er_1
          subst er_3
          subst er_4
          subst er_5
          subst er_6
          subst er_7
          subst er_8
          subst er_9
          subst ey_10
          subst er_13
          subst er_14
          exact W.zret (v := 1) hx hb hr (by decide) (fun t ht hW => ⟨_, rfl, by rw [f_PC_isInside, if_pos c_2, if_neg c_11, if_pos c_12, if_neg c_15], ht⟩) (fun q h => by cases h) d_PC_isInside_128
  · rw [lg_cmp_eq] at c_2
    have c_2 : ¬ (r_1 = 0) := c_2
    refine lv_lload hx hb d_PC_isInside_18 (lv_at hl 0 rfl) ?_
    refine lv_lconst (v := 0) hx hb d_PC_isInside_20 (by decide) ?_
    refine W.lcmp hx hb d_PC_isInside_21 ?_
    refine lv_if_le (tgt := 29) hx hb d_PC_isInside_22 (by decide) (fun c_16 => ?_) (fun c_16 => ?_)
    · rw [lg_cmp_le] at c_16
      have c_16 : r_1 ≤ 0 := c_16
      refine lv_iconst (v := 0) hx hb d_PC_isInside_29 (by decide) ?_
      subst er_1
      exact W.zret (v := 0) hx hb hr (by decide) (fun t ht hW => ⟨_, rfl, by rw [f_PC_isInside, if_neg c_2, if_pos c_16], ht⟩) (fun q h => by cases h) d_PC_isInside_30
    · rw [lg_cmp_le] at c_16
      have c_16 : ¬ (r_1 ≤ 0) := c_16
      refine lv_iconst (v := 1) hx hb d_PC_isInside_25 (by decide) ?_
      refine lv_goto (tgt := 30) hx hb d_PC_isInside_26 (by decide) ?_
      subst er_1
      exact W.zret (v := 1) hx hb hr (by decide) (fun t ht hW => ⟨_, rfl, by rw [f_PC_isInside, if_neg c_2, if_neg c_16], ht⟩) (fun q h => by cases h) d_PC_isInside_30
def f_PC_covers (wi : Int32) (hi : Int32) (pin : Int32) (pif : Nat → Int64) (fan : Int32) (faS : Nat → Int32) (faT : Nat → Int32) (ix : Int32) (xx : Int32) (yy : Int32) : Int32 := if (f_PC_isPixel wi hi xx yy) = 0 then 0 else (if (f_Fa_has fan ix) = 0 then 0 else (if (f_PC_isInside pin pif fan faS faT ix 0 xx yy) = 0 then 0 else (if (f_PC_isInside pin pif fan faS faT ix 1 xx yy) = 0 then 0 else (if (f_PC_isInside pin pif fan faS faT ix 2 xx yy) = 0 then 0 else 1))))
set_option maxHeartbeats 4000000 in
set_option maxRecDepth 100000 in
theorem c_PC_covers (l : Launch) (dC : Nat → ClassId) (dI : Nat → Nat → Nat) (cJ cI : ClassId) (ob : Nat) (wi : Int32) (hi : Int32) (fo : Int32) (gi : Nat) (gia : Nat) (gin : Int32) (gif : Nat → Int64) (ke : Nat) (kea : Nat) (ken : Int32) (kef : Nat → Int64) (sp : Nat) (spa : Nat) (spn : Int32) (spf : Nat → Int64) (pi : Nat) (pia : Nat) (pin : Int32) (pif : Nat → Int64) (fa : Nat) (fas : Nat) (fat : Nat) (faa : Nat) (fan : Int32) (faS : Nat → Int32) (faT : Nat → Int32) (faA : Nat → Int32) (ix : Int32) (xx : Int32) (yy : Int32) : Met l y_PC_covers w_PC_covers ({ frames := 4, cells := 0, slots := 0, locals := 103 } : Room) (rq_ro (dC, dI) cJ cI [.ref ob, .int ix, .int xx, .int yy] [(ob, .inr (0, [.int wi, .int hi, .int fo, .ref gi, .ref ke, .ref sp, .ref pi, .ref fa])), (gi, .inr (1, [.ref gia, .int gin])), (gia, .inl (cJ, 114, .inr (.inl gif))), (ke, .inr (1, [.ref kea, .int ken])), (kea, .inl (cJ, 114, .inr (.inl kef))), (sp, .inr (1, [.ref spa, .int spn])), (spa, .inl (cJ, 114, .inr (.inl spf))), (pi, .inr (1, [.ref pia, .int pin])), (pia, .inl (cJ, 114, .inr (.inl pif))), (fa, .inr (2, [.ref fas, .ref fat, .ref faa, .int fan])), (fas, .inl (cI, 17, .inl faS)), (fat, .inl (cI, 17, .inl faT)), (faa, .inl (cI, 17, .inl faA))]) (vp_Si (fun r => r = f_PC_covers wi hi pin pif fan faS faT ix xx yy)) 0 0 (fun _ => False) := by
  refine Met.ofW (cc := b_PC_covers) (maxL := 5) (ret := (some .boolean)) (by decide) rfl ?_
  intro p e s m args below meth c s₁ B hml hv
  obtain ⟨rfl, hP, hK, hN⟩ := hv
  have hx := B.exec
  have hb := B.bytes
  have hr := B.returns
  have hts := atoms_spec (ws := w_PC_covers) B.pre
  have hown : s.vm.findClass R_PC = some m.cls := findClass_of_methodNamed B.named
  have hlocks := B.notSynchronized
  have hl := lv_entry ([.ref ob, .int ix, .int xx, .int yy]) (n := 5) (Nat.le_of_ble_eq_true rfl)
  rw [lg_entry_eq]
  generalize (lg_sl ([.ref ob, .int ix, .int xx, .int yy]) ++ List.replicate (5 - (lg_sl ([.ref ob, .int ix, .int xx, .int yy])).length) Slot.unset).toArray = ls at hl ⊢
  have hl : lv_has ls 5 [(0, .ref ob), (1, .int ix), (2, .int xx), (3, .int yy)] := hl
  refine lv_aload_n hx hb d_PC_covers_0 rfl (lv_at hl 0 rfl) ?_
  refine lv_iload_n hx hb d_PC_covers_1 rfl (lv_at hl 2 rfl) ?_
  refine lv_iload_n hx hb d_PC_covers_2 rfl (lv_at hl 3 rfl) ?_
  have hPc := hP
  refine vp_callSi (va_Run.run (va_runV (As := [.int xx, .int yy]) (rest := []) ⟨hx, hb, hml, hown, hts⟩ (c_PC_isPixel l dC dI cJ cI ob wi hi fo gi gia gin gif ke kea ken kef sp spa spn spf pi pia pin pif fa fas fat faa fan faS faT faA xx yy) (cwV 2 hts (gd_V wd_190 wd_191 wd_17 wd_33 wd_192) rfl rfl rfl (by decide +kernel) ⟨Nat.le_of_ble_eq_true rfl, Nat.le_of_ble_eq_true rfl⟩) ⟨fb_ro, va_recv hK hPc (ci := 0) (q0 := 0) rfl rfl, pre_ro hK hN hPc⟩ rfl rfl hl.1 rfl (lv_room (Nat.le_of_ble_eq_true rfl)) d_PC_covers_3 ⟨Nat.le_of_ble_eq_true rfl, Nat.le_of_ble_eq_true rfl⟩)) (fun r_1 er_1 => ?_)
  have er_1 : r_1 = f_PC_isPixel wi hi xx yy := er_1
  refine lv_if_eq (tgt := 20) hx hb d_PC_covers_6 (by decide) (fun c_2 => ?_) (fun c_2 => ?_)
  · have c_2 : r_1 = 0 := c_2
    refine lv_iconst (v := 0) hx hb d_PC_covers_20 (by decide) ?_
    subst er_1
    exact W.zret (v := 0) hx hb hr (by decide) (fun t ht hW => ⟨_, rfl, by rw [f_PC_covers, if_pos c_2], ht⟩) (fun q h => by cases h) d_PC_covers_21
  · have c_2 : ¬ (r_1 = 0) := c_2
    refine lv_aload_n hx hb d_PC_covers_9 rfl (lv_at hl 0 rfl) ?_
    refine va_get (D := (dC, dI)) (ci := 0) (v := .ref fa) (C := R_PC) (T := F_PC) (N := 8) hx hb hts (fun w h => mw (i_PC w h)) hown hK hP 0 rfl rfl 7 (by decide) (hts _ (mw wd_88)) (fun _ h9 => h9) rfl d_PC_covers_10 ?_
    refine lv_iload_n hx hb d_PC_covers_13 rfl (lv_at hl 1 rfl) ?_
    have hPc := hP.sub (ws' := [(fa, .inr (2, [.ref fas, .ref fat, .ref faa, .int fan])), (fas, .inl (cI, 17, .inl faS)), (fat, .inl (cI, 17, .inl faT)), (faa, .inl (cI, 17, .inl faA))]) [9, 10, 11, 12] rfl
    refine vp_callSi (va_Run.run (va_runVN (As := [.int ix]) (rest := []) ⟨hx, hb, hml, hown, hts⟩ (c_Fa_has l dC dI cJ cI fa fas fat faa fan faS faT faA ix) (⟨va_cnB 1 hts (gd_0 wd_178) rfl rfl rfl (hN _ nw_14) (hts _ (mw wd_36)) (by decide +kernel) ⟨Nat.le_of_ble_eq_true rfl, Nat.le_of_ble_eq_true rfl⟩, (hts _ (mw wd_177)), (hts _ (mw wd_15))⟩) ⟨fb_ro, va_recv hK hPc (ci := 2) (q0 := 0) rfl rfl, pre_ro hK hN hPc⟩ rfl rfl hl.1 rfl (lv_room (Nat.le_of_ble_eq_true rfl)) d_PC_covers_14 ⟨Nat.le_of_ble_eq_true rfl, Nat.le_of_ble_eq_true rfl⟩)) (fun r_3 er_3 => ?_)
    have er_3 : r_3 = f_Fa_has fan ix := er_3
    refine lv_if_ne (tgt := 22) hx hb d_PC_covers_17 (by decide) (fun c_4 => ?_) (fun c_4 => ?_)
    · have c_4 : ¬ (r_3 = 0) := c_4
      refine lv_iconst (v := 0) hx hb d_PC_covers_22 (by decide) ?_
      refine lv_istore (lv' := [(4, .int 0), (0, .ref ob), (1, .int ix), (2, .int xx), (3, .int yy)]) hx hb d_PC_covers_23 hl (by decide) rfl (fun ls hl => ?_)
      refine lv_iload hx hb d_PC_covers_25 (lv_at hl 0 rfl) ?_
      refine lv_iconst (v := 3) hx hb d_PC_covers_27 (by decide) ?_
      refine lv_icmp_ge (tgt := 51) hx hb d_PC_covers_28 (by decide) (fun c_5 => absurd c_5 (by decide)) (fun _ => ?_)
      refine lv_aload_n hx hb d_PC_covers_31 rfl (lv_at hl 1 rfl) ?_
      refine lv_iload_n hx hb d_PC_covers_32 rfl (lv_at hl 2 rfl) ?_
      refine lv_iload hx hb d_PC_covers_33 (lv_at hl 0 rfl) ?_
      refine lv_iload_n hx hb d_PC_covers_35 rfl (lv_at hl 3 rfl) ?_
      refine lv_iload_n hx hb d_PC_covers_36 rfl (lv_at hl 4 rfl) ?_
      have hPc := hP
      refine vp_callSi (va_Run.run (va_runV (As := [.int ix, .int 0, .int xx, .int yy]) (rest := []) ⟨hx, hb, hml, hown, hts⟩ (c_PC_isInside l dC dI cJ cI ob wi hi fo gi gia gin gif ke kea ken kef sp spa spn spf pi pia pin pif fa fas fat faa fan faS faT faA ix 0 xx yy) (cwV 4 hts (gd_V wd_193 wd_194 wd_18 wd_33 wd_195) rfl rfl rfl (by decide +kernel) ⟨Nat.le_of_ble_eq_true rfl, Nat.le_of_ble_eq_true rfl⟩) ⟨fb_ro, va_recv hK hPc (ci := 0) (q0 := 0) rfl rfl, pre_ro hK hN hPc⟩ rfl rfl hl.1 rfl (lv_room (Nat.le_of_ble_eq_true rfl)) d_PC_covers_37 ⟨Nat.le_of_ble_eq_true rfl, Nat.le_of_ble_eq_true rfl⟩)) (fun r_6 er_6 => ?_)
      have er_6 : r_6 = f_PC_isInside pin pif fan faS faT ix 0 xx yy := er_6
      refine lv_if_ne (tgt := 45) hx hb d_PC_covers_40 (by decide) (fun c_7 => ?_) (fun c_7 => ?_)
      · have c_7 : ¬ (r_6 = 0) := c_7
        refine lv_iinc (v := 1) (lv' := [(4, .int 1), (0, .ref ob), (1, .int ix), (2, .int xx), (3, .int yy)]) hx hb d_PC_covers_45 hl (k := 0) rfl (by decide) (by decide) rfl (fun ls hl => ?_)
        refine lv_goto (tgt := 25) hx hb d_PC_covers_48 (by decide) ?_
        refine lv_iload hx hb d_PC_covers_25 (lv_at hl 0 rfl) ?_
        refine lv_iconst (v := 3) hx hb d_PC_covers_27 (by decide) ?_
        refine lv_icmp_ge (tgt := 51) hx hb d_PC_covers_28 (by decide) (fun c_8 => absurd c_8 (by decide)) (fun _ => ?_)
        refine lv_aload_n hx hb d_PC_covers_31 rfl (lv_at hl 1 rfl) ?_
        refine lv_iload_n hx hb d_PC_covers_32 rfl (lv_at hl 2 rfl) ?_
        refine lv_iload hx hb d_PC_covers_33 (lv_at hl 0 rfl) ?_
        refine lv_iload_n hx hb d_PC_covers_35 rfl (lv_at hl 3 rfl) ?_
        refine lv_iload_n hx hb d_PC_covers_36 rfl (lv_at hl 4 rfl) ?_
        have hPc := hP
        refine vp_callSi (va_Run.run (va_runV (As := [.int ix, .int 1, .int xx, .int yy]) (rest := []) ⟨hx, hb, hml, hown, hts⟩ (c_PC_isInside l dC dI cJ cI ob wi hi fo gi gia gin gif ke kea ken kef sp spa spn spf pi pia pin pif fa fas fat faa fan faS faT faA ix 1 xx yy) (cwV 4 hts (gd_V wd_193 wd_194 wd_18 wd_33 wd_195) rfl rfl rfl (by decide +kernel) ⟨Nat.le_of_ble_eq_true rfl, Nat.le_of_ble_eq_true rfl⟩) ⟨fb_ro, va_recv hK hPc (ci := 0) (q0 := 0) rfl rfl, pre_ro hK hN hPc⟩ rfl rfl hl.1 rfl (lv_room (Nat.le_of_ble_eq_true rfl)) d_PC_covers_37 ⟨Nat.le_of_ble_eq_true rfl, Nat.le_of_ble_eq_true rfl⟩)) (fun r_9 er_9 => ?_)
        have er_9 : r_9 = f_PC_isInside pin pif fan faS faT ix 1 xx yy := er_9
        refine lv_if_ne (tgt := 45) hx hb d_PC_covers_40 (by decide) (fun c_10 => ?_) (fun c_10 => ?_)
        · have c_10 : ¬ (r_9 = 0) := c_10
          refine lv_iinc (v := 2) (lv' := [(4, .int 2), (0, .ref ob), (1, .int ix), (2, .int xx), (3, .int yy)]) hx hb d_PC_covers_45 hl (k := 0) rfl (by decide) (by decide) rfl (fun ls hl => ?_)
          refine lv_goto (tgt := 25) hx hb d_PC_covers_48 (by decide) ?_
          refine lv_iload hx hb d_PC_covers_25 (lv_at hl 0 rfl) ?_
          refine lv_iconst (v := 3) hx hb d_PC_covers_27 (by decide) ?_
          refine lv_icmp_ge (tgt := 51) hx hb d_PC_covers_28 (by decide) (fun c_11 => absurd c_11 (by decide)) (fun _ => ?_)
          refine lv_aload_n hx hb d_PC_covers_31 rfl (lv_at hl 1 rfl) ?_
          refine lv_iload_n hx hb d_PC_covers_32 rfl (lv_at hl 2 rfl) ?_
          refine lv_iload hx hb d_PC_covers_33 (lv_at hl 0 rfl) ?_
          refine lv_iload_n hx hb d_PC_covers_35 rfl (lv_at hl 3 rfl) ?_
          refine lv_iload_n hx hb d_PC_covers_36 rfl (lv_at hl 4 rfl) ?_
          have hPc := hP
          refine vp_callSi (va_Run.run (va_runV (As := [.int ix, .int 2, .int xx, .int yy]) (rest := []) ⟨hx, hb, hml, hown, hts⟩ (c_PC_isInside l dC dI cJ cI ob wi hi fo gi gia gin gif ke kea ken kef sp spa spn spf pi pia pin pif fa fas fat faa fan faS faT faA ix 2 xx yy) (cwV 4 hts (gd_V wd_193 wd_194 wd_18 wd_33 wd_195) rfl rfl rfl (by decide +kernel) ⟨Nat.le_of_ble_eq_true rfl, Nat.le_of_ble_eq_true rfl⟩) ⟨fb_ro, va_recv hK hPc (ci := 0) (q0 := 0) rfl rfl, pre_ro hK hN hPc⟩ rfl rfl hl.1 rfl (lv_room (Nat.le_of_ble_eq_true rfl)) d_PC_covers_37 ⟨Nat.le_of_ble_eq_true rfl, Nat.le_of_ble_eq_true rfl⟩)) (fun r_12 er_12 => ?_)
          have er_12 : r_12 = f_PC_isInside pin pif fan faS faT ix 2 xx yy := er_12
          refine lv_if_ne (tgt := 45) hx hb d_PC_covers_40 (by decide) (fun c_13 => ?_) (fun c_13 => ?_)
          · have c_13 : ¬ (r_12 = 0) := c_13
            refine lv_iinc (v := 3) (lv' := [(4, .int 3), (0, .ref ob), (1, .int ix), (2, .int xx), (3, .int yy)]) hx hb d_PC_covers_45 hl (k := 0) rfl (by decide) (by decide) rfl (fun ls hl => ?_)
            refine lv_goto (tgt := 25) hx hb d_PC_covers_48 (by decide) ?_
            refine lv_iload hx hb d_PC_covers_25 (lv_at hl 0 rfl) ?_
            refine lv_iconst (v := 3) hx hb d_PC_covers_27 (by decide) ?_
            refine lv_icmp_ge (tgt := 51) hx hb d_PC_covers_28 (by decide) (fun _ => ?_) (fun c_14 => absurd (by decide) c_14)
            refine lv_iconst (v := 1) hx hb d_PC_covers_51 (by decide) ?_
            subst er_1
            subst er_3
            subst er_6
            subst er_9
            subst er_12
            exact W.zret (v := 1) hx hb hr (by decide) (fun t ht hW => ⟨_, rfl, by rw [f_PC_covers, if_neg c_2, if_neg c_4, if_neg c_7, if_neg c_10, if_neg c_13], ht⟩) (fun q h => by cases h) d_PC_covers_52
          · have c_13 : r_12 = 0 := c_13
            refine lv_iconst (v := 0) hx hb d_PC_covers_43 (by decide) ?_
            subst er_1
            subst er_3
            subst er_6
            subst er_9
            subst er_12
            exact W.zret (v := 0) hx hb hr (by decide) (fun t ht hW => ⟨_, rfl, by rw [f_PC_covers, if_neg c_2, if_neg c_4, if_neg c_7, if_neg c_10, if_pos c_13], ht⟩) (fun q h => by cases h) d_PC_covers_44
        · have c_10 : r_9 = 0 := c_10
          refine lv_iconst (v := 0) hx hb d_PC_covers_43 (by decide) ?_
          subst er_1
          subst er_3
          subst er_6
          subst er_9
          exact W.zret (v := 0) hx hb hr (by decide) (fun t ht hW => ⟨_, rfl, by rw [f_PC_covers, if_neg c_2, if_neg c_4, if_neg c_7, if_pos c_10], ht⟩) (fun q h => by cases h) d_PC_covers_44
      · have c_7 : r_6 = 0 := c_7
        refine lv_iconst (v := 0) hx hb d_PC_covers_43 (by decide) ?_
        subst er_1
        subst er_3
        subst er_6
        exact W.zret (v := 0) hx hb hr (by decide) (fun t ht hW => ⟨_, rfl, by rw [f_PC_covers, if_neg c_2, if_neg c_4, if_pos c_7], ht⟩) (fun q h => by cases h) d_PC_covers_44
    · have c_4 : r_3 = 0 := c_4
      refine lv_iconst (v := 0) hx hb d_PC_covers_20 (by decide) ?_
      subst er_1
      subst er_3
      exact W.zret (v := 0) hx hb hr (by decide) (fun t ht hW => ⟨_, rfl, by rw [f_PC_covers, if_neg c_2, if_pos c_4], ht⟩) (fun q h => by cases h) d_PC_covers_21
def f_PC_weight (pin : Int32) (pif : Nat → Int64) (fan : Int32) (faS : Nat → Int32) (faT : Nat → Int32) (ix : Int32) (co : Int32) (xx : Int32) (yy : Int32) : Int64 := (f_PC_edgeNumber pin pif fan faS faT ix co xx yy) * (f_Ri_at pin pif (f_Fa_corner fan faS faT ix co) 2)
set_option maxHeartbeats 4000000 in
set_option maxRecDepth 100000 in
theorem c_PC_weight (l : Launch) (dC : Nat → ClassId) (dI : Nat → Nat → Nat) (cJ cI : ClassId) (ob : Nat) (wi : Int32) (hi : Int32) (fo : Int32) (gi : Nat) (gia : Nat) (gin : Int32) (gif : Nat → Int64) (ke : Nat) (kea : Nat) (ken : Int32) (kef : Nat → Int64) (sp : Nat) (spa : Nat) (spn : Int32) (spf : Nat → Int64) (pi : Nat) (pia : Nat) (pin : Int32) (pif : Nat → Int64) (fa : Nat) (fas : Nat) (fat : Nat) (faa : Nat) (fan : Int32) (faS : Nat → Int32) (faT : Nat → Int32) (faA : Nat → Int32) (ix : Int32) (co : Int32) (xx : Int32) (yy : Int32) : Met l y_PC_weight w_PC_weight ({ frames := 3, cells := 0, slots := 0, locals := 73 } : Room) (rq_ro (dC, dI) cJ cI [.ref ob, .int ix, .int co, .int xx, .int yy] [(ob, .inr (0, [.int wi, .int hi, .int fo, .ref gi, .ref ke, .ref sp, .ref pi, .ref fa])), (gi, .inr (1, [.ref gia, .int gin])), (gia, .inl (cJ, 114, .inr (.inl gif))), (ke, .inr (1, [.ref kea, .int ken])), (kea, .inl (cJ, 114, .inr (.inl kef))), (sp, .inr (1, [.ref spa, .int spn])), (spa, .inl (cJ, 114, .inr (.inl spf))), (pi, .inr (1, [.ref pia, .int pin])), (pia, .inl (cJ, 114, .inr (.inl pif))), (fa, .inr (2, [.ref fas, .ref fat, .ref faa, .int fan])), (fas, .inl (cI, 17, .inl faS)), (fat, .inl (cI, 17, .inl faT)), (faa, .inl (cI, 17, .inl faA))]) (vp_Sl (fun r => r = f_PC_weight pin pif fan faS faT ix co xx yy)) 0 0 (fun _ => False) := by
  refine Met.ofW (cc := b_PC_weight) (maxL := 5) (ret := (some .long)) (by decide) rfl ?_
  intro p e s m args below meth c s₁ B hml hv
  obtain ⟨rfl, hP, hK, hN⟩ := hv
  have hx := B.exec
  have hb := B.bytes
  have hr := B.returns
  have hts := atoms_spec (ws := w_PC_weight) B.pre
  have hown : s.vm.findClass R_PC = some m.cls := findClass_of_methodNamed B.named
  have hlocks := B.notSynchronized
  have hl := lv_entry ([.ref ob, .int ix, .int co, .int xx, .int yy]) (n := 5) (Nat.le_of_ble_eq_true rfl)
  rw [lg_entry_eq]
  generalize (lg_sl ([.ref ob, .int ix, .int co, .int xx, .int yy]) ++ List.replicate (5 - (lg_sl ([.ref ob, .int ix, .int co, .int xx, .int yy])).length) Slot.unset).toArray = ls at hl ⊢
  have hl : lv_has ls 5 [(0, .ref ob), (1, .int ix), (2, .int co), (3, .int xx), (4, .int yy)] := hl
  refine lv_aload_n hx hb d_PC_weight_0 rfl (lv_at hl 0 rfl) ?_
  refine lv_iload_n hx hb d_PC_weight_1 rfl (lv_at hl 1 rfl) ?_
  refine lv_iload_n hx hb d_PC_weight_2 rfl (lv_at hl 2 rfl) ?_
  refine lv_iload_n hx hb d_PC_weight_3 rfl (lv_at hl 3 rfl) ?_
  refine lv_iload hx hb d_PC_weight_4 (lv_at hl 4 rfl) ?_
  have hPc := hP
  refine vp_callSl (va_Run.run (va_runV (As := [.int ix, .int co, .int xx, .int yy]) (rest := []) ⟨hx, hb, hml, hown, hts⟩ (c_PC_edgeNumber l dC dI cJ cI ob wi hi fo gi gia gin gif ke kea ken kef sp spa spn spf pi pia pin pif fa fas fat faa fan faS faT faA ix co xx yy) (cwV 4 hts (gd_V wd_196 wd_197 wd_19 wd_33 wd_198) rfl rfl rfl (by decide +kernel) ⟨Nat.le_of_ble_eq_true rfl, Nat.le_of_ble_eq_true rfl⟩) ⟨fb_ro, va_recv hK hPc (ci := 0) (q0 := 0) rfl rfl, pre_ro hK hN hPc⟩ rfl rfl hl.1 rfl (lv_room (Nat.le_of_ble_eq_true rfl)) d_PC_weight_6 ⟨Nat.le_of_ble_eq_true rfl, Nat.le_of_ble_eq_true rfl⟩)) (fun r_1 er_1 => ?_)
  have er_1 : r_1 = f_PC_edgeNumber pin pif fan faS faT ix co xx yy := er_1
  refine lv_aload_n hx hb d_PC_weight_9 rfl (lv_at hl 0 rfl) ?_
  refine va_get (D := (dC, dI)) (ci := 0) (v := .ref pi) (C := R_PC) (T := F_PC) (N := 8) hx hb hts (fun w h => mw (i_PC w h)) hown hK hP 0 rfl rfl 6 (by decide) (hts _ (mw wd_87)) (fun _ h9 => h9) rfl d_PC_weight_10 ?_
  refine lv_aload_n hx hb d_PC_weight_13 rfl (lv_at hl 0 rfl) ?_
  refine va_get (D := (dC, dI)) (ci := 0) (v := .ref fa) (C := R_PC) (T := F_PC) (N := 8) hx hb hts (fun w h => mw (i_PC w h)) hown hK hP 0 rfl rfl 7 (by decide) (hts _ (mw wd_88)) (fun _ h9 => h9) rfl d_PC_weight_14 ?_
  refine lv_iload_n hx hb d_PC_weight_17 rfl (lv_at hl 1 rfl) ?_
  refine lv_iload_n hx hb d_PC_weight_18 rfl (lv_at hl 2 rfl) ?_
  have hPc := hP.sub (ws' := [(fa, .inr (2, [.ref fas, .ref fat, .ref faa, .int fan])), (fas, .inl (cI, 17, .inl faS)), (fat, .inl (cI, 17, .inl faT)), (faa, .inl (cI, 17, .inl faA))]) [9, 10, 11, 12] rfl
  refine vp_callSi (va_Run.run (va_runVN (As := [.int ix, .int co]) (rest := [.ref pi, .long r_1]) ⟨hx, hb, hml, hown, hts⟩ (c_Fa_corner l dC dI cJ cI fa fas fat faa fan faS faT faA ix co) (⟨va_cnB 2 hts (gd_0 wd_175) rfl rfl rfl (hN _ nw_13) (hts _ (mw wd_36)) (by decide +kernel) ⟨Nat.le_of_ble_eq_true rfl, Nat.le_of_ble_eq_true rfl⟩, (hts _ (mw wd_174)), (hts _ (mw wd_14))⟩) ⟨fb_ro, va_recv hK hPc (ci := 2) (q0 := 0) rfl rfl, pre_ro hK hN hPc⟩ rfl rfl hl.1 rfl (lv_room (Nat.le_of_ble_eq_true rfl)) d_PC_weight_19 ⟨Nat.le_of_ble_eq_true rfl, Nat.le_of_ble_eq_true rfl⟩)) (fun r_2 er_2 => ?_)
  have er_2 : r_2 = f_Fa_corner fan faS faT ix co := er_2
  refine lv_iconst (v := 2) hx hb d_PC_weight_22 (by decide) ?_
  have hPc := hP.sub (ws' := [(pi, .inr (1, [.ref pia, .int pin])), (pia, .inl (cJ, 114, .inr (.inl pif)))]) [7, 8] rfl
  refine vp_callSl (va_Run.run (va_runVN (As := [.int r_2, .int 2]) (rest := [.long r_1]) ⟨hx, hb, hml, hown, hts⟩ (c_Ri_at l dC dI cJ cI pi pia pin pif r_2 2) (⟨va_cnB 2 hts (gd_0 wd_136) rfl rfl rfl (hN _ nw_10) (hts _ (mw wd_35)) (by decide +kernel) ⟨Nat.le_of_ble_eq_true rfl, Nat.le_of_ble_eq_true rfl⟩, (hts _ (mw wd_135)), (hts _ (mw wd_5))⟩) ⟨fb_ro, va_recv hK hPc (ci := 1) (q0 := 0) rfl rfl, pre_ro hK hN hPc⟩ rfl rfl hl.1 rfl (lv_room (Nat.le_of_ble_eq_true rfl)) d_PC_weight_23 ⟨Nat.le_of_ble_eq_true rfl, Nat.le_of_ble_eq_true rfl⟩)) (fun r_3 er_3 => ?_)
  have er_3 : r_3 = f_Ri_at pin pif r_2 2 := er_3
  refine lv_lmul hx hb d_PC_weight_26 ?_
  subst er_1
  subst er_2
  subst er_3
  exact W.lret (v := (f_PC_edgeNumber pin pif fan faS faT ix co xx yy) * (f_Ri_at pin pif (f_Fa_corner fan faS faT ix co) 2)) hx hb hr (fun t ht hW => ⟨_, rfl, rfl, ht⟩) (fun q h => by cases h) d_PC_weight_27
def f_PC_weightSum (pin : Int32) (pif : Nat → Int64) (fan : Int32) (faS : Nat → Int32) (faT : Nat → Int32) (ix : Int32) (xx : Int32) (yy : Int32) : Int64 := ((f_PC_weight pin pif fan faS faT ix 0 xx yy) + (f_PC_weight pin pif fan faS faT ix 1 xx yy)) + (f_PC_weight pin pif fan faS faT ix 2 xx yy)
set_option maxHeartbeats 4000000 in
set_option maxRecDepth 100000 in
theorem c_PC_weightSum (l : Launch) (dC : Nat → ClassId) (dI : Nat → Nat → Nat) (cJ cI : ClassId) (ob : Nat) (wi : Int32) (hi : Int32) (fo : Int32) (gi : Nat) (gia : Nat) (gin : Int32) (gif : Nat → Int64) (ke : Nat) (kea : Nat) (ken : Int32) (kef : Nat → Int64) (sp : Nat) (spa : Nat) (spn : Int32) (spf : Nat → Int64) (pi : Nat) (pia : Nat) (pin : Int32) (pif : Nat → Int64) (fa : Nat) (fas : Nat) (fat : Nat) (faa : Nat) (fan : Int32) (faS : Nat → Int32) (faT : Nat → Int32) (faA : Nat → Int32) (ix : Int32) (xx : Int32) (yy : Int32) : Met l y_PC_weightSum w_PC_weightSum ({ frames := 4, cells := 0, slots := 0, locals := 97 } : Room) (rq_ro (dC, dI) cJ cI [.ref ob, .int ix, .int xx, .int yy] [(ob, .inr (0, [.int wi, .int hi, .int fo, .ref gi, .ref ke, .ref sp, .ref pi, .ref fa])), (gi, .inr (1, [.ref gia, .int gin])), (gia, .inl (cJ, 114, .inr (.inl gif))), (ke, .inr (1, [.ref kea, .int ken])), (kea, .inl (cJ, 114, .inr (.inl kef))), (sp, .inr (1, [.ref spa, .int spn])), (spa, .inl (cJ, 114, .inr (.inl spf))), (pi, .inr (1, [.ref pia, .int pin])), (pia, .inl (cJ, 114, .inr (.inl pif))), (fa, .inr (2, [.ref fas, .ref fat, .ref faa, .int fan])), (fas, .inl (cI, 17, .inl faS)), (fat, .inl (cI, 17, .inl faT)), (faa, .inl (cI, 17, .inl faA))]) (vp_Sl (fun r => r = f_PC_weightSum pin pif fan faS faT ix xx yy)) 0 0 (fun _ => False) := by
  refine Met.ofW (cc := b_PC_weightSum) (maxL := 4) (ret := (some .long)) (by decide) rfl ?_
  intro p e s m args below meth c s₁ B hml hv
  obtain ⟨rfl, hP, hK, hN⟩ := hv
  have hx := B.exec
  have hb := B.bytes
  have hr := B.returns
  have hts := atoms_spec (ws := w_PC_weightSum) B.pre
  have hown : s.vm.findClass R_PC = some m.cls := findClass_of_methodNamed B.named
  have hlocks := B.notSynchronized
  have hl := lv_entry ([.ref ob, .int ix, .int xx, .int yy]) (n := 4) (Nat.le_of_ble_eq_true rfl)
  rw [lg_entry_eq]
  generalize (lg_sl ([.ref ob, .int ix, .int xx, .int yy]) ++ List.replicate (4 - (lg_sl ([.ref ob, .int ix, .int xx, .int yy])).length) Slot.unset).toArray = ls at hl ⊢
  have hl : lv_has ls 4 [(0, .ref ob), (1, .int ix), (2, .int xx), (3, .int yy)] := hl
  refine lv_aload_n hx hb d_PC_weightSum_0 rfl (lv_at hl 0 rfl) ?_
  refine lv_iload_n hx hb d_PC_weightSum_1 rfl (lv_at hl 1 rfl) ?_
  refine lv_iconst (v := 0) hx hb d_PC_weightSum_2 (by decide) ?_
  refine lv_iload_n hx hb d_PC_weightSum_3 rfl (lv_at hl 2 rfl) ?_
  refine lv_iload_n hx hb d_PC_weightSum_4 rfl (lv_at hl 3 rfl) ?_
  have hPc := hP
  refine vp_callSl (va_Run.run (va_runV (As := [.int ix, .int 0, .int xx, .int yy]) (rest := []) ⟨hx, hb, hml, hown, hts⟩ (c_PC_weight l dC dI cJ cI ob wi hi fo gi gia gin gif ke kea ken kef sp spa spn spf pi pia pin pif fa fas fat faa fan faS faT faA ix 0 xx yy) (cwV 4 hts (gd_V wd_216 wd_217 wd_21 wd_33 wd_218) rfl rfl rfl (by decide +kernel) ⟨Nat.le_of_ble_eq_true rfl, Nat.le_of_ble_eq_true rfl⟩) ⟨fb_ro, va_recv hK hPc (ci := 0) (q0 := 0) rfl rfl, pre_ro hK hN hPc⟩ rfl rfl hl.1 rfl (lv_room (Nat.le_of_ble_eq_true rfl)) d_PC_weightSum_5 ⟨Nat.le_of_ble_eq_true rfl, Nat.le_of_ble_eq_true rfl⟩)) (fun r_1 er_1 => ?_)
  have er_1 : r_1 = f_PC_weight pin pif fan faS faT ix 0 xx yy := er_1
  refine lv_aload_n hx hb d_PC_weightSum_8 rfl (lv_at hl 0 rfl) ?_
  refine lv_iload_n hx hb d_PC_weightSum_9 rfl (lv_at hl 1 rfl) ?_
  refine lv_iconst (v := 1) hx hb d_PC_weightSum_10 (by decide) ?_
  refine lv_iload_n hx hb d_PC_weightSum_11 rfl (lv_at hl 2 rfl) ?_
  refine lv_iload_n hx hb d_PC_weightSum_12 rfl (lv_at hl 3 rfl) ?_
  have hPc := hP
  refine vp_callSl (va_Run.run (va_runV (As := [.int ix, .int 1, .int xx, .int yy]) (rest := [.long r_1]) ⟨hx, hb, hml, hown, hts⟩ (c_PC_weight l dC dI cJ cI ob wi hi fo gi gia gin gif ke kea ken kef sp spa spn spf pi pia pin pif fa fas fat faa fan faS faT faA ix 1 xx yy) (cwV 4 hts (gd_V wd_216 wd_217 wd_21 wd_33 wd_218) rfl rfl rfl (by decide +kernel) ⟨Nat.le_of_ble_eq_true rfl, Nat.le_of_ble_eq_true rfl⟩) ⟨fb_ro, va_recv hK hPc (ci := 0) (q0 := 0) rfl rfl, pre_ro hK hN hPc⟩ rfl rfl hl.1 rfl (lv_room (Nat.le_of_ble_eq_true rfl)) d_PC_weightSum_13 ⟨Nat.le_of_ble_eq_true rfl, Nat.le_of_ble_eq_true rfl⟩)) (fun r_2 er_2 => ?_)
  have er_2 : r_2 = f_PC_weight pin pif fan faS faT ix 1 xx yy := er_2
  refine lv_ladd hx hb d_PC_weightSum_16 ?_
  refine lv_aload_n hx hb d_PC_weightSum_17 rfl (lv_at hl 0 rfl) ?_
  refine lv_iload_n hx hb d_PC_weightSum_18 rfl (lv_at hl 1 rfl) ?_
  refine lv_iconst (v := 2) hx hb d_PC_weightSum_19 (by decide) ?_
  refine lv_iload_n hx hb d_PC_weightSum_20 rfl (lv_at hl 2 rfl) ?_
  refine lv_iload_n hx hb d_PC_weightSum_21 rfl (lv_at hl 3 rfl) ?_
  have hPc := hP
  refine vp_callSl (va_Run.run (va_runV (As := [.int ix, .int 2, .int xx, .int yy]) (rest := [.long (r_1 + r_2)]) ⟨hx, hb, hml, hown, hts⟩ (c_PC_weight l dC dI cJ cI ob wi hi fo gi gia gin gif ke kea ken kef sp spa spn spf pi pia pin pif fa fas fat faa fan faS faT faA ix 2 xx yy) (cwV 4 hts (gd_V wd_216 wd_217 wd_21 wd_33 wd_218) rfl rfl rfl (by decide +kernel) ⟨Nat.le_of_ble_eq_true rfl, Nat.le_of_ble_eq_true rfl⟩) ⟨fb_ro, va_recv hK hPc (ci := 0) (q0 := 0) rfl rfl, pre_ro hK hN hPc⟩ rfl rfl hl.1 rfl (lv_room (Nat.le_of_ble_eq_true rfl)) d_PC_weightSum_22 ⟨Nat.le_of_ble_eq_true rfl, Nat.le_of_ble_eq_true rfl⟩)) (fun r_3 er_3 => ?_)
  have er_3 : r_3 = f_PC_weight pin pif fan faS faT ix 2 xx yy := er_3
  refine lv_ladd hx hb d_PC_weightSum_25 ?_
  subst er_1
  subst er_2
  subst er_3
  exact W.lret (v := ((f_PC_weight pin pif fan faS faT ix 0 xx yy) + (f_PC_weight pin pif fan faS faT ix 1 xx yy)) + (f_PC_weight pin pif fan faS faT ix 2 xx yy)) hx hb hr (fun t ht hW => ⟨_, rfl, rfl, ht⟩) (fun q h => by cases h) d_PC_weightSum_26
def f_PC_piece (pin : Int32) (pif : Nat → Int64) (fan : Int32) (faS : Nat → Int32) (faT : Nat → Int32) (ix : Int32) (co : Int32) (wh : Int32) : Int32 := (f_Ri_at pin pif (f_Fa_corner fan faS faT ix co) wh).toInt32
set_option maxHeartbeats 4000000 in
set_option maxRecDepth 100000 in
theorem c_PC_piece (l : Launch) (dC : Nat → ClassId) (dI : Nat → Nat → Nat) (cJ cI : ClassId) (ob : Nat) (wi : Int32) (hi : Int32) (fo : Int32) (gi : Nat) (gia : Nat) (gin : Int32) (gif : Nat → Int64) (ke : Nat) (kea : Nat) (ken : Int32) (kef : Nat → Int64) (sp : Nat) (spa : Nat) (spn : Int32) (spf : Nat → Int64) (pi : Nat) (pia : Nat) (pin : Int32) (pif : Nat → Int64) (fa : Nat) (fas : Nat) (fat : Nat) (faa : Nat) (fan : Int32) (faS : Nat → Int32) (faT : Nat → Int32) (faA : Nat → Int32) (ix : Int32) (co : Int32) (wh : Int32) : Met l y_PC_piece w_PC_piece ({ frames := 2, cells := 0, slots := 0, locals := 43 } : Room) (rq_ro (dC, dI) cJ cI [.ref ob, .int ix, .int co, .int wh] [(ob, .inr (0, [.int wi, .int hi, .int fo, .ref gi, .ref ke, .ref sp, .ref pi, .ref fa])), (gi, .inr (1, [.ref gia, .int gin])), (gia, .inl (cJ, 114, .inr (.inl gif))), (ke, .inr (1, [.ref kea, .int ken])), (kea, .inl (cJ, 114, .inr (.inl kef))), (sp, .inr (1, [.ref spa, .int spn])), (spa, .inl (cJ, 114, .inr (.inl spf))), (pi, .inr (1, [.ref pia, .int pin])), (pia, .inl (cJ, 114, .inr (.inl pif))), (fa, .inr (2, [.ref fas, .ref fat, .ref faa, .int fan])), (fas, .inl (cI, 17, .inl faS)), (fat, .inl (cI, 17, .inl faT)), (faa, .inl (cI, 17, .inl faA))]) (vp_Si (fun r => r = f_PC_piece pin pif fan faS faT ix co wh)) 0 0 (fun _ => False) := by
  refine Met.ofW (cc := b_PC_piece) (maxL := 4) (ret := (some .int)) (by decide) rfl ?_
  intro p e s m args below meth c s₁ B hml hv
  obtain ⟨rfl, hP, hK, hN⟩ := hv
  have hx := B.exec
  have hb := B.bytes
  have hr := B.returns
  have hts := atoms_spec (ws := w_PC_piece) B.pre
  have hown : s.vm.findClass R_PC = some m.cls := findClass_of_methodNamed B.named
  have hlocks := B.notSynchronized
  have hl := lv_entry ([.ref ob, .int ix, .int co, .int wh]) (n := 4) (Nat.le_of_ble_eq_true rfl)
  rw [lg_entry_eq]
  generalize (lg_sl ([.ref ob, .int ix, .int co, .int wh]) ++ List.replicate (4 - (lg_sl ([.ref ob, .int ix, .int co, .int wh])).length) Slot.unset).toArray = ls at hl ⊢
  have hl : lv_has ls 4 [(0, .ref ob), (1, .int ix), (2, .int co), (3, .int wh)] := hl
  refine lv_aload_n hx hb d_PC_piece_0 rfl (lv_at hl 0 rfl) ?_
  refine va_get (D := (dC, dI)) (ci := 0) (v := .ref pi) (C := R_PC) (T := F_PC) (N := 8) hx hb hts (fun w h => mw (i_PC w h)) hown hK hP 0 rfl rfl 6 (by decide) (hts _ (mw wd_87)) (fun _ h9 => h9) rfl d_PC_piece_1 ?_
  refine lv_aload_n hx hb d_PC_piece_4 rfl (lv_at hl 0 rfl) ?_
  refine va_get (D := (dC, dI)) (ci := 0) (v := .ref fa) (C := R_PC) (T := F_PC) (N := 8) hx hb hts (fun w h => mw (i_PC w h)) hown hK hP 0 rfl rfl 7 (by decide) (hts _ (mw wd_88)) (fun _ h9 => h9) rfl d_PC_piece_5 ?_
  refine lv_iload_n hx hb d_PC_piece_8 rfl (lv_at hl 1 rfl) ?_
  refine lv_iload_n hx hb d_PC_piece_9 rfl (lv_at hl 2 rfl) ?_
  have hPc := hP.sub (ws' := [(fa, .inr (2, [.ref fas, .ref fat, .ref faa, .int fan])), (fas, .inl (cI, 17, .inl faS)), (fat, .inl (cI, 17, .inl faT)), (faa, .inl (cI, 17, .inl faA))]) [9, 10, 11, 12] rfl
  refine vp_callSi (va_Run.run (va_runVN (As := [.int ix, .int co]) (rest := [.ref pi]) ⟨hx, hb, hml, hown, hts⟩ (c_Fa_corner l dC dI cJ cI fa fas fat faa fan faS faT faA ix co) (⟨va_cnB 2 hts (gd_0 wd_175) rfl rfl rfl (hN _ nw_13) (hts _ (mw wd_36)) (by decide +kernel) ⟨Nat.le_of_ble_eq_true rfl, Nat.le_of_ble_eq_true rfl⟩, (hts _ (mw wd_174)), (hts _ (mw wd_14))⟩) ⟨fb_ro, va_recv hK hPc (ci := 2) (q0 := 0) rfl rfl, pre_ro hK hN hPc⟩ rfl rfl hl.1 rfl (lv_room (Nat.le_of_ble_eq_true rfl)) d_PC_piece_10 ⟨Nat.le_of_ble_eq_true rfl, Nat.le_of_ble_eq_true rfl⟩)) (fun r_1 er_1 => ?_)
  have er_1 : r_1 = f_Fa_corner fan faS faT ix co := er_1
  refine lv_iload_n hx hb d_PC_piece_13 rfl (lv_at hl 3 rfl) ?_
  have hPc := hP.sub (ws' := [(pi, .inr (1, [.ref pia, .int pin])), (pia, .inl (cJ, 114, .inr (.inl pif)))]) [7, 8] rfl
  refine vp_callSl (va_Run.run (va_runVN (As := [.int r_1, .int wh]) (rest := []) ⟨hx, hb, hml, hown, hts⟩ (c_Ri_at l dC dI cJ cI pi pia pin pif r_1 wh) (⟨va_cnB 2 hts (gd_0 wd_136) rfl rfl rfl (hN _ nw_10) (hts _ (mw wd_35)) (by decide +kernel) ⟨Nat.le_of_ble_eq_true rfl, Nat.le_of_ble_eq_true rfl⟩, (hts _ (mw wd_135)), (hts _ (mw wd_5))⟩) ⟨fb_ro, va_recv hK hPc (ci := 1) (q0 := 0) rfl rfl, pre_ro hK hN hPc⟩ rfl rfl hl.1 rfl (lv_room (Nat.le_of_ble_eq_true rfl)) d_PC_piece_14 ⟨Nat.le_of_ble_eq_true rfl, Nat.le_of_ble_eq_true rfl⟩)) (fun r_2 er_2 => ?_)
  have er_2 : r_2 = f_Ri_at pin pif r_1 wh := er_2
  refine lv_l2i hx hb d_PC_piece_17 rfl ?_
  subst er_1
  subst er_2
  exact W.iret (v := (f_Ri_at pin pif (f_Fa_corner fan faS faT ix co) wh).toInt32) hx hb hr (fun t ht hW => ⟨_, rfl, rfl, ht⟩) (fun q h => by cases h) d_PC_piece_18
def f_PC_area (fan : Int32) (faA : Nat → Int32) (ix : Int32) : Int32 := if (f_Fa_has fan ix) = 0 then (-1) else (faA ix.toNatClampNeg)
set_option maxHeartbeats 4000000 in
set_option maxRecDepth 100000 in
theorem c_PC_area (l : Launch) (dC : Nat → ClassId) (dI : Nat → Nat → Nat) (cJ cI : ClassId) (ob : Nat) (wi : Int32) (hi : Int32) (fo : Int32) (gi : Nat) (gia : Nat) (gin : Int32) (gif : Nat → Int64) (ke : Nat) (kea : Nat) (ken : Int32) (kef : Nat → Int64) (sp : Nat) (spa : Nat) (spn : Int32) (spf : Nat → Int64) (pi : Nat) (pia : Nat) (pin : Int32) (pif : Nat → Int64) (fa : Nat) (fas : Nat) (fat : Nat) (faa : Nat) (fan : Int32) (faS : Nat → Int32) (faT : Nat → Int32) (faA : Nat → Int32) (ix : Int32) : Met l y_PC_area w_PC_area ({ frames := 1, cells := 0, slots := 0, locals := 21 } : Room) (rq_ro (dC, dI) cJ cI [.ref ob, .int ix] [(ob, .inr (0, [.int wi, .int hi, .int fo, .ref gi, .ref ke, .ref sp, .ref pi, .ref fa])), (gi, .inr (1, [.ref gia, .int gin])), (gia, .inl (cJ, 114, .inr (.inl gif))), (ke, .inr (1, [.ref kea, .int ken])), (kea, .inl (cJ, 114, .inr (.inl kef))), (sp, .inr (1, [.ref spa, .int spn])), (spa, .inl (cJ, 114, .inr (.inl spf))), (pi, .inr (1, [.ref pia, .int pin])), (pia, .inl (cJ, 114, .inr (.inl pif))), (fa, .inr (2, [.ref fas, .ref fat, .ref faa, .int fan])), (fas, .inl (cI, 17, .inl faS)), (fat, .inl (cI, 17, .inl faT)), (faa, .inl (cI, 17, .inl faA))]) (vp_Si (fun r => r = f_PC_area fan faA ix)) 0 0 (fun _ => False) := by
  refine Met.ofW (cc := b_PC_area) (maxL := 2) (ret := (some .int)) (by decide) rfl ?_
  intro p e s m args below meth c s₁ B hml hv
  obtain ⟨rfl, hP, hK, hN⟩ := hv
  have hx := B.exec
  have hb := B.bytes
  have hr := B.returns
  have hts := atoms_spec (ws := w_PC_area) B.pre
  have hown : s.vm.findClass R_PC = some m.cls := findClass_of_methodNamed B.named
  have hlocks := B.notSynchronized
  have hl := lv_entry ([.ref ob, .int ix]) (n := 2) (Nat.le_of_ble_eq_true rfl)
  rw [lg_entry_eq]
  generalize (lg_sl ([.ref ob, .int ix]) ++ List.replicate (2 - (lg_sl ([.ref ob, .int ix])).length) Slot.unset).toArray = ls at hl ⊢
  have hl : lv_has ls 2 [(0, .ref ob), (1, .int ix)] := hl
  refine lv_aload_n hx hb d_PC_area_0 rfl (lv_at hl 0 rfl) ?_
  refine va_get (D := (dC, dI)) (ci := 0) (v := .ref fa) (C := R_PC) (T := F_PC) (N := 8) hx hb hts (fun w h => mw (i_PC w h)) hown hK hP 0 rfl rfl 7 (by decide) (hts _ (mw wd_88)) (fun _ h9 => h9) rfl d_PC_area_1 ?_
  refine lv_iload_n hx hb d_PC_area_4 rfl (lv_at hl 1 rfl) ?_
  have hPc := hP.sub (ws' := [(fa, .inr (2, [.ref fas, .ref fat, .ref faa, .int fan])), (fas, .inl (cI, 17, .inl faS)), (fat, .inl (cI, 17, .inl faT)), (faa, .inl (cI, 17, .inl faA))]) [9, 10, 11, 12] rfl
  refine vp_callSi (va_Run.run (va_runVN (As := [.int ix]) (rest := []) ⟨hx, hb, hml, hown, hts⟩ (c_Fa_has l dC dI cJ cI fa fas fat faa fan faS faT faA ix) (⟨va_cnB 1 hts (gd_0 wd_178) rfl rfl rfl (hN _ nw_14) (hts _ (mw wd_36)) (by decide +kernel) ⟨Nat.le_of_ble_eq_true rfl, Nat.le_of_ble_eq_true rfl⟩, (hts _ (mw wd_177)), (hts _ (mw wd_15))⟩) ⟨fb_ro, va_recv hK hPc (ci := 2) (q0 := 0) rfl rfl, pre_ro hK hN hPc⟩ rfl rfl hl.1 rfl (lv_room (Nat.le_of_ble_eq_true rfl)) d_PC_area_5 ⟨Nat.le_of_ble_eq_true rfl, Nat.le_of_ble_eq_true rfl⟩)) (fun r_1 er_1 => ?_)
  have er_1 : r_1 = f_Fa_has fan ix := er_1
  refine lv_if_eq (tgt := 23) hx hb d_PC_area_8 (by decide) (fun c_2 => ?_) (fun c_2 => ?_)
  · have c_2 : r_1 = 0 := c_2
    refine lv_iconst (v := (-1)) hx hb d_PC_area_23 (by decide) ?_
    subst er_1
    exact W.iret (v := (-1)) hx hb hr (fun t ht hW => ⟨_, rfl, by rw [f_PC_area, if_pos c_2], ht⟩) (fun q h => by cases h) d_PC_area_24
  · have c_2 : ¬ (r_1 = 0) := c_2
    refine lv_aload_n hx hb d_PC_area_11 rfl (lv_at hl 0 rfl) ?_
    refine va_get (D := (dC, dI)) (ci := 0) (v := .ref fa) (C := R_PC) (T := F_PC) (N := 8) hx hb hts (fun w h => mw (i_PC w h)) hown hK hP 0 rfl rfl 7 (by decide) (hts _ (mw wd_88)) (fun _ h9 => h9) rfl d_PC_area_12 ?_
    refine va_getN (D := (dC, dI)) (ci := 2) (v := .ref faa) (C := R_Fa) (T := F_Fa) (N := 4) hx hb hts (fun w h => mw (i_Fa w h)) hown hK hP 9 rfl rfl 2 (by decide) (va_Nw.use rfl (hN _ nw_4)) (fun _ h9 => h9) rfl d_PC_area_15 ?_
    refine lv_iload_n hx hb d_PC_area_18 rfl (lv_at hl 1 rfl) ?_
    have hi_4 : vp_in ix 17 := fa_has (by rw [← er_1]; exact c_2)
    refine va_iald hx hb hK hP 12 1 rfl rfl hi_4 d_PC_area_19 ?_
    refine lv_topi (fun y_5 ey_5 => ?_)
    refine lv_goto (tgt := 24) hx hb d_PC_area_20 (by decide) ?_
    subst er_1
    subst ey_5
    exact W.iret (v := faA ix.toNatClampNeg) hx hb hr (fun t ht hW => ⟨_, rfl, by rw [f_PC_area, if_neg c_2], ht⟩) (fun q h => by cases h) d_PC_area_24
def f_PC_near (wi : Int32) (hi : Int32) (pin : Int32) (pif : Nat → Int64) (fan : Int32) (faS : Nat → Int32) (faT : Nat → Int32) (faA : Nat → Int32) (ix : Int32) (xx : Int32) (yy : Int32) : Int32 := if (f_PC_covers wi hi pin pif fan faS faT ix xx yy) = 0 then (-1) else ((f_PC_div (f_PC_weightSum pin pif fan faS faT ix xx yy) ((f_PC_area fan faA ix).toInt64)).toInt32)
set_option maxHeartbeats 4000000 in
set_option maxRecDepth 100000 in
theorem c_PC_near (l : Launch) (dC : Nat → ClassId) (dI : Nat → Nat → Nat) (cJ cI : ClassId) (ob : Nat) (wi : Int32) (hi : Int32) (fo : Int32) (gi : Nat) (gia : Nat) (gin : Int32) (gif : Nat → Int64) (ke : Nat) (kea : Nat) (ken : Int32) (kef : Nat → Int64) (sp : Nat) (spa : Nat) (spn : Int32) (spf : Nat → Int64) (pi : Nat) (pia : Nat) (pin : Int32) (pif : Nat → Int64) (fa : Nat) (fas : Nat) (fat : Nat) (faa : Nat) (fan : Int32) (faS : Nat → Int32) (faT : Nat → Int32) (faA : Nat → Int32) (ix : Int32) (xx : Int32) (yy : Int32) : Met l y_PC_near w_PC_near ({ frames := 5, cells := 0, slots := 0, locals := 127 } : Room) (rq_ro (dC, dI) cJ cI [.ref ob, .int ix, .int xx, .int yy] [(ob, .inr (0, [.int wi, .int hi, .int fo, .ref gi, .ref ke, .ref sp, .ref pi, .ref fa])), (gi, .inr (1, [.ref gia, .int gin])), (gia, .inl (cJ, 114, .inr (.inl gif))), (ke, .inr (1, [.ref kea, .int ken])), (kea, .inl (cJ, 114, .inr (.inl kef))), (sp, .inr (1, [.ref spa, .int spn])), (spa, .inl (cJ, 114, .inr (.inl spf))), (pi, .inr (1, [.ref pia, .int pin])), (pia, .inl (cJ, 114, .inr (.inl pif))), (fa, .inr (2, [.ref fas, .ref fat, .ref faa, .int fan])), (fas, .inl (cI, 17, .inl faS)), (fat, .inl (cI, 17, .inl faT)), (faa, .inl (cI, 17, .inl faA))]) (vp_Si (fun r => r = f_PC_near wi hi pin pif fan faS faT faA ix xx yy)) 0 0 (fun _ => False) := by
  refine Met.ofW (cc := b_PC_near) (maxL := 4) (ret := (some .int)) (by decide) rfl ?_
  intro p e s m args below meth c s₁ B hml hv
  obtain ⟨rfl, hP, hK, hN⟩ := hv
  have hx := B.exec
  have hb := B.bytes
  have hr := B.returns
  have hts := atoms_spec (ws := w_PC_near) B.pre
  have hown : s.vm.findClass R_PC = some m.cls := findClass_of_methodNamed B.named
  have hlocks := B.notSynchronized
  have hl := lv_entry ([.ref ob, .int ix, .int xx, .int yy]) (n := 4) (Nat.le_of_ble_eq_true rfl)
  rw [lg_entry_eq]
  generalize (lg_sl ([.ref ob, .int ix, .int xx, .int yy]) ++ List.replicate (4 - (lg_sl ([.ref ob, .int ix, .int xx, .int yy])).length) Slot.unset).toArray = ls at hl ⊢
  have hl : lv_has ls 4 [(0, .ref ob), (1, .int ix), (2, .int xx), (3, .int yy)] := hl
  refine lv_aload_n hx hb d_PC_near_0 rfl (lv_at hl 0 rfl) ?_
  refine lv_iload_n hx hb d_PC_near_1 rfl (lv_at hl 1 rfl) ?_
  refine lv_iload_n hx hb d_PC_near_2 rfl (lv_at hl 2 rfl) ?_
  refine lv_iload_n hx hb d_PC_near_3 rfl (lv_at hl 3 rfl) ?_
  have hPc := hP
  refine vp_callSi (va_Run.run (va_runV (As := [.int ix, .int xx, .int yy]) (rest := []) ⟨hx, hb, hml, hown, hts⟩ (c_PC_covers l dC dI cJ cI ob wi hi fo gi gia gin gif ke kea ken kef sp spa spn spf pi pia pin pif fa fas fat faa fan faS faT faA ix xx yy) (cwV 3 hts (gd_V wd_187 wd_188 wd_16 wd_33 wd_189) rfl rfl rfl (by decide +kernel) ⟨Nat.le_of_ble_eq_true rfl, Nat.le_of_ble_eq_true rfl⟩) ⟨fb_ro, va_recv hK hPc (ci := 0) (q0 := 0) rfl rfl, pre_ro hK hN hPc⟩ rfl rfl hl.1 rfl (lv_room (Nat.le_of_ble_eq_true rfl)) d_PC_near_4 ⟨Nat.le_of_ble_eq_true rfl, Nat.le_of_ble_eq_true rfl⟩)) (fun r_1 er_1 => ?_)
  have er_1 : r_1 = f_PC_covers wi hi pin pif fan faS faT ix xx yy := er_1
  refine lv_if_ne (tgt := 12) hx hb d_PC_near_7 (by decide) (fun c_2 => ?_) (fun c_2 => ?_)
  · have c_2 : ¬ (r_1 = 0) := c_2
    refine lv_aload_n hx hb d_PC_near_12 rfl (lv_at hl 0 rfl) ?_
    refine lv_iload_n hx hb d_PC_near_13 rfl (lv_at hl 1 rfl) ?_
    refine lv_iload_n hx hb d_PC_near_14 rfl (lv_at hl 2 rfl) ?_
    refine lv_iload_n hx hb d_PC_near_15 rfl (lv_at hl 3 rfl) ?_
    have hPc := hP
    refine vp_callSl (va_Run.run (va_runV (As := [.int ix, .int xx, .int yy]) (rest := []) ⟨hx, hb, hml, hown, hts⟩ (c_PC_weightSum l dC dI cJ cI ob wi hi fo gi gia gin gif ke kea ken kef sp spa spn spf pi pia pin pif fa fas fat faa fan faS faT faA ix xx yy) (cwV 3 hts (gd_V wd_213 wd_214 wd_20 wd_33 wd_215) rfl rfl rfl (by decide +kernel) ⟨Nat.le_of_ble_eq_true rfl, Nat.le_of_ble_eq_true rfl⟩) ⟨fb_ro, va_recv hK hPc (ci := 0) (q0 := 0) rfl rfl, pre_ro hK hN hPc⟩ rfl rfl hl.1 rfl (lv_room (Nat.le_of_ble_eq_true rfl)) d_PC_near_16 ⟨Nat.le_of_ble_eq_true rfl, Nat.le_of_ble_eq_true rfl⟩)) (fun r_3 er_3 => ?_)
    have er_3 : r_3 = f_PC_weightSum pin pif fan faS faT ix xx yy := er_3
    refine lv_aload_n hx hb d_PC_near_19 rfl (lv_at hl 0 rfl) ?_
    refine lv_iload_n hx hb d_PC_near_20 rfl (lv_at hl 1 rfl) ?_
    have hPc := hP
    refine vp_callSi (va_Run.run (va_runV (As := [.int ix]) (rest := [.long r_3]) ⟨hx, hb, hml, hown, hts⟩ (c_PC_area l dC dI cJ cI ob wi hi fo gi gia gin gif ke kea ken kef sp spa spn spf pi pia pin pif fa fas fat faa fan faS faT faA ix) (cwV 1 hts (gd_V wd_219 wd_180 wd_181 wd_33 wd_182) rfl rfl rfl (by decide +kernel) ⟨Nat.le_of_ble_eq_true rfl, Nat.le_of_ble_eq_true rfl⟩) ⟨fb_ro, va_recv hK hPc (ci := 0) (q0 := 0) rfl rfl, pre_ro hK hN hPc⟩ rfl rfl hl.1 rfl (lv_room (Nat.le_of_ble_eq_true rfl)) d_PC_near_21 ⟨Nat.le_of_ble_eq_true rfl, Nat.le_of_ble_eq_true rfl⟩)) (fun r_4 er_4 => ?_)
    have er_4 : r_4 = f_PC_area fan faA ix := er_4
    refine lv_i2l hx hb d_PC_near_24 rfl ?_
    refine vp_callSl (va_Run.run (va_runS (As := [.long r_3, .long r_4.toInt64]) (rest := []) ⟨hx, hb, hml, hown, hts⟩ (c_PC_div l dC dI cJ cI r_3 r_4.toInt64) (va_cwS 2 hts (gd_S wd_148 wd_149 wd_33 wd_150) rfl rfl rfl (by decide +kernel) ⟨Nat.le_of_ble_eq_true rfl, Nat.le_of_ble_eq_true rfl⟩) ⟨fb_ro, pre_ro hK hN va_nil⟩ rfl rfl hl.1 rfl (lv_room (Nat.le_of_ble_eq_true rfl)) d_PC_near_25 ⟨Nat.le_of_ble_eq_true rfl, Nat.le_of_ble_eq_true rfl⟩)) (fun r_5 er_5 => ?_)
    have er_5 : r_5 = f_PC_div r_3 r_4.toInt64 := er_5
    refine lv_l2i hx hb d_PC_near_28 rfl ?_
    subst er_1
    subst er_3
    subst er_4
    subst er_5
    exact W.iret (v := (f_PC_div (f_PC_weightSum pin pif fan faS faT ix xx yy) ((f_PC_area fan faA ix).toInt64)).toInt32) hx hb hr (fun t ht hW => ⟨_, rfl, by rw [f_PC_near, if_neg c_2], ht⟩) (fun q h => by cases h) d_PC_near_29
  · have c_2 : r_1 = 0 := c_2
    refine lv_iconst (v := (-1)) hx hb d_PC_near_10 (by decide) ?_
    subst er_1
    exact W.iret (v := (-1)) hx hb hr (fun t ht hW => ⟨_, rfl, by rw [f_PC_near, if_pos c_2], ht⟩) (fun q h => by cases h) d_PC_near_11
def f_PC_number (wi : Int32) (hi : Int32) (pin : Int32) (pif : Nat → Int64) (fan : Int32) (faS : Nat → Int32) (faT : Nat → Int32) (ix : Int32) (xx : Int32) (yy : Int32) (wh : Int32) : Int32 := if wh < 0 then 0 else (if 3 ≤ wh then 0 else (if (f_PC_covers wi hi pin pif fan faS faT ix xx yy) = 0 then 0 else ((f_PC_div (((0 + ((f_PC_weight pin pif fan faS faT ix 0 xx yy) * (f_Ri_at pin pif (f_Fa_corner fan faS faT ix 0) (3 + wh)))) + ((f_PC_weight pin pif fan faS faT ix 1 xx yy) * (f_Ri_at pin pif (f_Fa_corner fan faS faT ix 1) (3 + wh)))) + ((f_PC_weight pin pif fan faS faT ix 2 xx yy) * (f_Ri_at pin pif (f_Fa_corner fan faS faT ix 2) (3 + wh)))) (f_PC_weightSum pin pif fan faS faT ix xx yy)).toInt32)))
set_option maxHeartbeats 4000000 in
set_option maxRecDepth 100000 in
theorem c_PC_number (l : Launch) (dC : Nat → ClassId) (dI : Nat → Nat → Nat) (cJ cI : ClassId) (ob : Nat) (wi : Int32) (hi : Int32) (fo : Int32) (gi : Nat) (gia : Nat) (gin : Int32) (gif : Nat → Int64) (ke : Nat) (kea : Nat) (ken : Int32) (kef : Nat → Int64) (sp : Nat) (spa : Nat) (spn : Int32) (spf : Nat → Int64) (pi : Nat) (pia : Nat) (pin : Int32) (pif : Nat → Int64) (fa : Nat) (fas : Nat) (fat : Nat) (faa : Nat) (fan : Int32) (faS : Nat → Int32) (faT : Nat → Int32) (faA : Nat → Int32) (ix : Int32) (xx : Int32) (yy : Int32) (wh : Int32) : Met l y_PC_number w_PC_number ({ frames := 5, cells := 0, slots := 0, locals := 127 } : Room) (rq_ro (dC, dI) cJ cI [.ref ob, .int ix, .int xx, .int yy, .int wh] [(ob, .inr (0, [.int wi, .int hi, .int fo, .ref gi, .ref ke, .ref sp, .ref pi, .ref fa])), (gi, .inr (1, [.ref gia, .int gin])), (gia, .inl (cJ, 114, .inr (.inl gif))), (ke, .inr (1, [.ref kea, .int ken])), (kea, .inl (cJ, 114, .inr (.inl kef))), (sp, .inr (1, [.ref spa, .int spn])), (spa, .inl (cJ, 114, .inr (.inl spf))), (pi, .inr (1, [.ref pia, .int pin])), (pia, .inl (cJ, 114, .inr (.inl pif))), (fa, .inr (2, [.ref fas, .ref fat, .ref faa, .int fan])), (fas, .inl (cI, 17, .inl faS)), (fat, .inl (cI, 17, .inl faT)), (faa, .inl (cI, 17, .inl faA))]) (vp_Si (fun r => r = f_PC_number wi hi pin pif fan faS faT ix xx yy wh)) 0 0 (fun _ => False) := by
  refine Met.ofW (cc := b_PC_number) (maxL := 8) (ret := (some .int)) (by decide) rfl ?_
  intro p e s m args below meth c s₁ B hml hv
  obtain ⟨rfl, hP, hK, hN⟩ := hv
  have hx := B.exec
  have hb := B.bytes
  have hr := B.returns
  have hts := atoms_spec (ws := w_PC_number) B.pre
  have hown : s.vm.findClass R_PC = some m.cls := findClass_of_methodNamed B.named
  have hlocks := B.notSynchronized
  have hl := lv_entry ([.ref ob, .int ix, .int xx, .int yy, .int wh]) (n := 8) (Nat.le_of_ble_eq_true rfl)
  rw [lg_entry_eq]
  generalize (lg_sl ([.ref ob, .int ix, .int xx, .int yy, .int wh]) ++ List.replicate (8 - (lg_sl ([.ref ob, .int ix, .int xx, .int yy, .int wh])).length) Slot.unset).toArray = ls at hl ⊢
  have hl : lv_has ls 8 [(0, .ref ob), (1, .int ix), (2, .int xx), (3, .int yy), (4, .int wh)] := hl
  refine lv_iload hx hb d_PC_number_0 (lv_at hl 4 rfl) ?_
  refine lv_if_lt (tgt := 21) hx hb d_PC_number_2 (by decide) (fun c_1 => ?_) (fun c_1 => ?_)
  · have c_1 : wh < 0 := c_1
    refine lv_iconst (v := 0) hx hb d_PC_number_21 (by decide) ?_
    exact W.iret (v := 0) hx hb hr (fun t ht hW => ⟨_, rfl, by rw [f_PC_number, if_pos c_1], ht⟩) (fun q h => by cases h) d_PC_number_22
  · have c_1 : ¬ (wh < 0) := c_1
    refine lv_iload hx hb d_PC_number_5 (lv_at hl 4 rfl) ?_
    refine lv_iconst (v := 3) hx hb d_PC_number_7 (by decide) ?_
    refine lv_icmp_ge (tgt := 21) hx hb d_PC_number_8 (by decide) (fun c_2 => ?_) (fun c_2 => ?_)
    · have c_2 : 3 ≤ wh := c_2
      refine lv_iconst (v := 0) hx hb d_PC_number_21 (by decide) ?_
      exact W.iret (v := 0) hx hb hr (fun t ht hW => ⟨_, rfl, by rw [f_PC_number, if_neg c_1, if_pos c_2], ht⟩) (fun q h => by cases h) d_PC_number_22
    · have c_2 : ¬ (3 ≤ wh) := c_2
      refine lv_aload_n hx hb d_PC_number_11 rfl (lv_at hl 0 rfl) ?_
      refine lv_iload_n hx hb d_PC_number_12 rfl (lv_at hl 1 rfl) ?_
      refine lv_iload_n hx hb d_PC_number_13 rfl (lv_at hl 2 rfl) ?_
      refine lv_iload_n hx hb d_PC_number_14 rfl (lv_at hl 3 rfl) ?_
      have hPc := hP
      refine vp_callSi (va_Run.run (va_runV (As := [.int ix, .int xx, .int yy]) (rest := []) ⟨hx, hb, hml, hown, hts⟩ (c_PC_covers l dC dI cJ cI ob wi hi fo gi gia gin gif ke kea ken kef sp spa spn spf pi pia pin pif fa fas fat faa fan faS faT faA ix xx yy) (cwV 3 hts (gd_V wd_187 wd_188 wd_16 wd_33 wd_189) rfl rfl rfl (by decide +kernel) ⟨Nat.le_of_ble_eq_true rfl, Nat.le_of_ble_eq_true rfl⟩) ⟨fb_ro, va_recv hK hPc (ci := 0) (q0 := 0) rfl rfl, pre_ro hK hN hPc⟩ rfl rfl hl.1 rfl (lv_room (Nat.le_of_ble_eq_true rfl)) d_PC_number_15 ⟨Nat.le_of_ble_eq_true rfl, Nat.le_of_ble_eq_true rfl⟩)) (fun r_3 er_3 => ?_)
      have er_3 : r_3 = f_PC_covers wi hi pin pif fan faS faT ix xx yy := er_3
      refine lv_if_ne (tgt := 23) hx hb d_PC_number_18 (by decide) (fun c_4 => ?_) (fun c_4 => ?_)
      · have c_4 : ¬ (r_3 = 0) := c_4
        refine lv_lconst (v := 0) hx hb d_PC_number_23 (by decide) ?_
        refine lv_lstore (lv' := [(5, .long 0), (0, .ref ob), (1, .int ix), (2, .int xx), (3, .int yy), (4, .int wh)]) hx hb d_PC_number_24 hl (by decide) rfl (fun ls hl => ?_)
        refine lv_iconst (v := 0) hx hb d_PC_number_26 (by decide) ?_
        refine lv_istore (lv' := [(7, .int 0), (5, .long 0), (0, .ref ob), (1, .int ix), (2, .int xx), (3, .int yy), (4, .int wh)]) hx hb d_PC_number_27 hl (by decide) rfl (fun ls hl => ?_)
        refine lv_iload hx hb d_PC_number_29 (lv_at hl 0 rfl) ?_
        refine lv_iconst (v := 3) hx hb d_PC_number_31 (by decide) ?_
        refine lv_icmp_ge (tgt := 77) hx hb d_PC_number_32 (by decide) (fun c_5 => absurd c_5 (by decide)) (fun _ => ?_)
        refine lv_lload hx hb d_PC_number_35 (lv_at hl 1 rfl) ?_
        refine lv_aload_n hx hb d_PC_number_37 rfl (lv_at hl 2 rfl) ?_
        refine lv_iload_n hx hb d_PC_number_38 rfl (lv_at hl 3 rfl) ?_
        refine lv_iload hx hb d_PC_number_39 (lv_at hl 0 rfl) ?_
        refine lv_iload_n hx hb d_PC_number_41 rfl (lv_at hl 4 rfl) ?_
        refine lv_iload_n hx hb d_PC_number_42 rfl (lv_at hl 5 rfl) ?_
        have hPc := hP
        refine vp_callSl (va_Run.run (va_runV (As := [.int ix, .int 0, .int xx, .int yy]) (rest := [.long 0]) ⟨hx, hb, hml, hown, hts⟩ (c_PC_weight l dC dI cJ cI ob wi hi fo gi gia gin gif ke kea ken kef sp spa spn spf pi pia pin pif fa fas fat faa fan faS faT faA ix 0 xx yy) (cwV 4 hts (gd_V wd_216 wd_217 wd_21 wd_33 wd_218) rfl rfl rfl (by decide +kernel) ⟨Nat.le_of_ble_eq_true rfl, Nat.le_of_ble_eq_true rfl⟩) ⟨fb_ro, va_recv hK hPc (ci := 0) (q0 := 0) rfl rfl, pre_ro hK hN hPc⟩ rfl rfl hl.1 rfl (lv_room (Nat.le_of_ble_eq_true rfl)) d_PC_number_43 ⟨Nat.le_of_ble_eq_true rfl, Nat.le_of_ble_eq_true rfl⟩)) (fun r_6 er_6 => ?_)
        have er_6 : r_6 = f_PC_weight pin pif fan faS faT ix 0 xx yy := er_6
        refine lv_aload_n hx hb d_PC_number_46 rfl (lv_at hl 2 rfl) ?_
        refine va_get (D := (dC, dI)) (ci := 0) (v := .ref pi) (C := R_PC) (T := F_PC) (N := 8) hx hb hts (fun w h => mw (i_PC w h)) hown hK hP 0 rfl rfl 6 (by decide) (hts _ (mw wd_87)) (fun _ h9 => h9) rfl d_PC_number_47 ?_
        refine lv_aload_n hx hb d_PC_number_50 rfl (lv_at hl 2 rfl) ?_
        refine va_get (D := (dC, dI)) (ci := 0) (v := .ref fa) (C := R_PC) (T := F_PC) (N := 8) hx hb hts (fun w h => mw (i_PC w h)) hown hK hP 0 rfl rfl 7 (by decide) (hts _ (mw wd_88)) (fun _ h9 => h9) rfl d_PC_number_51 ?_
        refine lv_iload_n hx hb d_PC_number_54 rfl (lv_at hl 3 rfl) ?_
        refine lv_iload hx hb d_PC_number_55 (lv_at hl 0 rfl) ?_
        have hPc := hP.sub (ws' := [(fa, .inr (2, [.ref fas, .ref fat, .ref faa, .int fan])), (fas, .inl (cI, 17, .inl faS)), (fat, .inl (cI, 17, .inl faT)), (faa, .inl (cI, 17, .inl faA))]) [9, 10, 11, 12] rfl
        refine vp_callSi (va_Run.run (va_runVN (As := [.int ix, .int 0]) (rest := [.ref pi, .long r_6, .long 0]) ⟨hx, hb, hml, hown, hts⟩ (c_Fa_corner l dC dI cJ cI fa fas fat faa fan faS faT faA ix 0) (⟨va_cnB 2 hts (gd_0 wd_175) rfl rfl rfl (hN _ nw_13) (hts _ (mw wd_36)) (by decide +kernel) ⟨Nat.le_of_ble_eq_true rfl, Nat.le_of_ble_eq_true rfl⟩, (hts _ (mw wd_174)), (hts _ (mw wd_14))⟩) ⟨fb_ro, va_recv hK hPc (ci := 2) (q0 := 0) rfl rfl, pre_ro hK hN hPc⟩ rfl rfl hl.1 rfl (lv_room (Nat.le_of_ble_eq_true rfl)) d_PC_number_57 ⟨Nat.le_of_ble_eq_true rfl, Nat.le_of_ble_eq_true rfl⟩)) (fun r_7 er_7 => ?_)
        have er_7 : r_7 = f_Fa_corner fan faS faT ix 0 := er_7
        refine lv_iconst (v := 3) hx hb d_PC_number_60 (by decide) ?_
        refine lv_iload hx hb d_PC_number_61 (lv_at hl 6 rfl) ?_
        refine lv_iadd hx hb d_PC_number_63 ?_
        have hPc := hP.sub (ws' := [(pi, .inr (1, [.ref pia, .int pin])), (pia, .inl (cJ, 114, .inr (.inl pif)))]) [7, 8] rfl
        refine vp_callSl (va_Run.run (va_runVN (As := [.int r_7, .int (3 + wh)]) (rest := [.long r_6, .long 0]) ⟨hx, hb, hml, hown, hts⟩ (c_Ri_at l dC dI cJ cI pi pia pin pif r_7 (3 + wh)) (⟨va_cnB 2 hts (gd_0 wd_136) rfl rfl rfl (hN _ nw_10) (hts _ (mw wd_35)) (by decide +kernel) ⟨Nat.le_of_ble_eq_true rfl, Nat.le_of_ble_eq_true rfl⟩, (hts _ (mw wd_135)), (hts _ (mw wd_5))⟩) ⟨fb_ro, va_recv hK hPc (ci := 1) (q0 := 0) rfl rfl, pre_ro hK hN hPc⟩ rfl rfl hl.1 rfl (lv_room (Nat.le_of_ble_eq_true rfl)) d_PC_number_64 ⟨Nat.le_of_ble_eq_true rfl, Nat.le_of_ble_eq_true rfl⟩)) (fun r_8 er_8 => ?_)
        have er_8 : r_8 = f_Ri_at pin pif r_7 (3 + wh) := er_8
        refine lv_lmul hx hb d_PC_number_67 ?_
        refine lv_ladd hx hb d_PC_number_68 ?_
        refine lv_topl (fun y_9 ey_9 => ?_)
        refine lv_lstore (lv' := [(5, .long y_9), (7, .int 0), (0, .ref ob), (1, .int ix), (2, .int xx), (3, .int yy), (4, .int wh)]) hx hb d_PC_number_69 hl (by decide) rfl (fun ls hl => ?_)
        refine lv_iinc (v := 1) (lv' := [(7, .int 1), (5, .long y_9), (0, .ref ob), (1, .int ix), (2, .int xx), (3, .int yy), (4, .int wh)]) hx hb d_PC_number_71 hl (k := 1) rfl (by decide) (by decide) rfl (fun ls hl => ?_)
        refine lv_goto (tgt := 29) hx hb d_PC_number_74 (by decide) ?_
        refine lv_iload hx hb d_PC_number_29 (lv_at hl 0 rfl) ?_
        refine lv_iconst (v := 3) hx hb d_PC_number_31 (by decide) ?_
        refine lv_icmp_ge (tgt := 77) hx hb d_PC_number_32 (by decide) (fun c_10 => absurd c_10 (by decide)) (fun _ => ?_)
        refine lv_lload hx hb d_PC_number_35 (lv_at hl 1 rfl) ?_
        refine lv_aload_n hx hb d_PC_number_37 rfl (lv_at hl 2 rfl) ?_
        refine lv_iload_n hx hb d_PC_number_38 rfl (lv_at hl 3 rfl) ?_
        refine lv_iload hx hb d_PC_number_39 (lv_at hl 0 rfl) ?_
        refine lv_iload_n hx hb d_PC_number_41 rfl (lv_at hl 4 rfl) ?_
        refine lv_iload_n hx hb d_PC_number_42 rfl (lv_at hl 5 rfl) ?_
        have hPc := hP
        refine vp_callSl (va_Run.run (va_runV (As := [.int ix, .int 1, .int xx, .int yy]) (rest := [.long y_9]) ⟨hx, hb, hml, hown, hts⟩ (c_PC_weight l dC dI cJ cI ob wi hi fo gi gia gin gif ke kea ken kef sp spa spn spf pi pia pin pif fa fas fat faa fan faS faT faA ix 1 xx yy) (cwV 4 hts (gd_V wd_216 wd_217 wd_21 wd_33 wd_218) rfl rfl rfl (by decide +kernel) ⟨Nat.le_of_ble_eq_true rfl, Nat.le_of_ble_eq_true rfl⟩) ⟨fb_ro, va_recv hK hPc (ci := 0) (q0 := 0) rfl rfl, pre_ro hK hN hPc⟩ rfl rfl hl.1 rfl (lv_room (Nat.le_of_ble_eq_true rfl)) d_PC_number_43 ⟨Nat.le_of_ble_eq_true rfl, Nat.le_of_ble_eq_true rfl⟩)) (fun r_11 er_11 => ?_)
        have er_11 : r_11 = f_PC_weight pin pif fan faS faT ix 1 xx yy := er_11
        refine lv_aload_n hx hb d_PC_number_46 rfl (lv_at hl 2 rfl) ?_
        refine va_get (D := (dC, dI)) (ci := 0) (v := .ref pi) (C := R_PC) (T := F_PC) (N := 8) hx hb hts (fun w h => mw (i_PC w h)) hown hK hP 0 rfl rfl 6 (by decide) (hts _ (mw wd_87)) (fun _ h9 => h9) rfl d_PC_number_47 ?_
        refine lv_aload_n hx hb d_PC_number_50 rfl (lv_at hl 2 rfl) ?_
        refine va_get (D := (dC, dI)) (ci := 0) (v := .ref fa) (C := R_PC) (T := F_PC) (N := 8) hx hb hts (fun w h => mw (i_PC w h)) hown hK hP 0 rfl rfl 7 (by decide) (hts _ (mw wd_88)) (fun _ h9 => h9) rfl d_PC_number_51 ?_
        refine lv_iload_n hx hb d_PC_number_54 rfl (lv_at hl 3 rfl) ?_
        refine lv_iload hx hb d_PC_number_55 (lv_at hl 0 rfl) ?_
        have hPc := hP.sub (ws' := [(fa, .inr (2, [.ref fas, .ref fat, .ref faa, .int fan])), (fas, .inl (cI, 17, .inl faS)), (fat, .inl (cI, 17, .inl faT)), (faa, .inl (cI, 17, .inl faA))]) [9, 10, 11, 12] rfl
        refine vp_callSi (va_Run.run (va_runVN (As := [.int ix, .int 1]) (rest := [.ref pi, .long r_11, .long y_9]) ⟨hx, hb, hml, hown, hts⟩ (c_Fa_corner l dC dI cJ cI fa fas fat faa fan faS faT faA ix 1) (⟨va_cnB 2 hts (gd_0 wd_175) rfl rfl rfl (hN _ nw_13) (hts _ (mw wd_36)) (by decide +kernel) ⟨Nat.le_of_ble_eq_true rfl, Nat.le_of_ble_eq_true rfl⟩, (hts _ (mw wd_174)), (hts _ (mw wd_14))⟩) ⟨fb_ro, va_recv hK hPc (ci := 2) (q0 := 0) rfl rfl, pre_ro hK hN hPc⟩ rfl rfl hl.1 rfl (lv_room (Nat.le_of_ble_eq_true rfl)) d_PC_number_57 ⟨Nat.le_of_ble_eq_true rfl, Nat.le_of_ble_eq_true rfl⟩)) (fun r_12 er_12 => ?_)
        have er_12 : r_12 = f_Fa_corner fan faS faT ix 1 := er_12
        refine lv_iconst (v := 3) hx hb d_PC_number_60 (by decide) ?_
        refine lv_iload hx hb d_PC_number_61 (lv_at hl 6 rfl) ?_
        refine lv_iadd hx hb d_PC_number_63 ?_
        have hPc := hP.sub (ws' := [(pi, .inr (1, [.ref pia, .int pin])), (pia, .inl (cJ, 114, .inr (.inl pif)))]) [7, 8] rfl
        refine vp_callSl (va_Run.run (va_runVN (As := [.int r_12, .int (3 + wh)]) (rest := [.long r_11, .long y_9]) ⟨hx, hb, hml, hown, hts⟩ (c_Ri_at l dC dI cJ cI pi pia pin pif r_12 (3 + wh)) (⟨va_cnB 2 hts (gd_0 wd_136) rfl rfl rfl (hN _ nw_10) (hts _ (mw wd_35)) (by decide +kernel) ⟨Nat.le_of_ble_eq_true rfl, Nat.le_of_ble_eq_true rfl⟩, (hts _ (mw wd_135)), (hts _ (mw wd_5))⟩) ⟨fb_ro, va_recv hK hPc (ci := 1) (q0 := 0) rfl rfl, pre_ro hK hN hPc⟩ rfl rfl hl.1 rfl (lv_room (Nat.le_of_ble_eq_true rfl)) d_PC_number_64 ⟨Nat.le_of_ble_eq_true rfl, Nat.le_of_ble_eq_true rfl⟩)) (fun r_13 er_13 => ?_)
        have er_13 : r_13 = f_Ri_at pin pif r_12 (3 + wh) := er_13
        refine lv_lmul hx hb d_PC_number_67 ?_
        refine lv_ladd hx hb d_PC_number_68 ?_
        refine lv_topl (fun y_14 ey_14 => ?_)
        refine lv_lstore (lv' := [(5, .long y_14), (7, .int 1), (0, .ref ob), (1, .int ix), (2, .int xx), (3, .int yy), (4, .int wh)]) hx hb d_PC_number_69 hl (by decide) rfl (fun ls hl => ?_)
        refine lv_iinc (v := 2) (lv' := [(7, .int 2), (5, .long y_14), (0, .ref ob), (1, .int ix), (2, .int xx), (3, .int yy), (4, .int wh)]) hx hb d_PC_number_71 hl (k := 1) rfl (by decide) (by decide) rfl (fun ls hl => ?_)
        refine lv_goto (tgt := 29) hx hb d_PC_number_74 (by decide) ?_
        refine lv_iload hx hb d_PC_number_29 (lv_at hl 0 rfl) ?_
        refine lv_iconst (v := 3) hx hb d_PC_number_31 (by decide) ?_
        refine lv_icmp_ge (tgt := 77) hx hb d_PC_number_32 (by decide) (fun c_15 => absurd c_15 (by decide)) (fun _ => ?_)
        refine lv_lload hx hb d_PC_number_35 (lv_at hl 1 rfl) ?_
        refine lv_aload_n hx hb d_PC_number_37 rfl (lv_at hl 2 rfl) ?_
        refine lv_iload_n hx hb d_PC_number_38 rfl (lv_at hl 3 rfl) ?_
        refine lv_iload hx hb d_PC_number_39 (lv_at hl 0 rfl) ?_
        refine lv_iload_n hx hb d_PC_number_41 rfl (lv_at hl 4 rfl) ?_
        refine lv_iload_n hx hb d_PC_number_42 rfl (lv_at hl 5 rfl) ?_
        have hPc := hP
        refine vp_callSl (va_Run.run (va_runV (As := [.int ix, .int 2, .int xx, .int yy]) (rest := [.long y_14]) ⟨hx, hb, hml, hown, hts⟩ (c_PC_weight l dC dI cJ cI ob wi hi fo gi gia gin gif ke kea ken kef sp spa spn spf pi pia pin pif fa fas fat faa fan faS faT faA ix 2 xx yy) (cwV 4 hts (gd_V wd_216 wd_217 wd_21 wd_33 wd_218) rfl rfl rfl (by decide +kernel) ⟨Nat.le_of_ble_eq_true rfl, Nat.le_of_ble_eq_true rfl⟩) ⟨fb_ro, va_recv hK hPc (ci := 0) (q0 := 0) rfl rfl, pre_ro hK hN hPc⟩ rfl rfl hl.1 rfl (lv_room (Nat.le_of_ble_eq_true rfl)) d_PC_number_43 ⟨Nat.le_of_ble_eq_true rfl, Nat.le_of_ble_eq_true rfl⟩)) (fun r_16 er_16 => ?_)
        have er_16 : r_16 = f_PC_weight pin pif fan faS faT ix 2 xx yy := er_16
        refine lv_aload_n hx hb d_PC_number_46 rfl (lv_at hl 2 rfl) ?_
        refine va_get (D := (dC, dI)) (ci := 0) (v := .ref pi) (C := R_PC) (T := F_PC) (N := 8) hx hb hts (fun w h => mw (i_PC w h)) hown hK hP 0 rfl rfl 6 (by decide) (hts _ (mw wd_87)) (fun _ h9 => h9) rfl d_PC_number_47 ?_
        refine lv_aload_n hx hb d_PC_number_50 rfl (lv_at hl 2 rfl) ?_
        refine va_get (D := (dC, dI)) (ci := 0) (v := .ref fa) (C := R_PC) (T := F_PC) (N := 8) hx hb hts (fun w h => mw (i_PC w h)) hown hK hP 0 rfl rfl 7 (by decide) (hts _ (mw wd_88)) (fun _ h9 => h9) rfl d_PC_number_51 ?_
        refine lv_iload_n hx hb d_PC_number_54 rfl (lv_at hl 3 rfl) ?_
        refine lv_iload hx hb d_PC_number_55 (lv_at hl 0 rfl) ?_
        have hPc := hP.sub (ws' := [(fa, .inr (2, [.ref fas, .ref fat, .ref faa, .int fan])), (fas, .inl (cI, 17, .inl faS)), (fat, .inl (cI, 17, .inl faT)), (faa, .inl (cI, 17, .inl faA))]) [9, 10, 11, 12] rfl
        refine vp_callSi (va_Run.run (va_runVN (As := [.int ix, .int 2]) (rest := [.ref pi, .long r_16, .long y_14]) ⟨hx, hb, hml, hown, hts⟩ (c_Fa_corner l dC dI cJ cI fa fas fat faa fan faS faT faA ix 2) (⟨va_cnB 2 hts (gd_0 wd_175) rfl rfl rfl (hN _ nw_13) (hts _ (mw wd_36)) (by decide +kernel) ⟨Nat.le_of_ble_eq_true rfl, Nat.le_of_ble_eq_true rfl⟩, (hts _ (mw wd_174)), (hts _ (mw wd_14))⟩) ⟨fb_ro, va_recv hK hPc (ci := 2) (q0 := 0) rfl rfl, pre_ro hK hN hPc⟩ rfl rfl hl.1 rfl (lv_room (Nat.le_of_ble_eq_true rfl)) d_PC_number_57 ⟨Nat.le_of_ble_eq_true rfl, Nat.le_of_ble_eq_true rfl⟩)) (fun r_17 er_17 => ?_)
        have er_17 : r_17 = f_Fa_corner fan faS faT ix 2 := er_17
        refine lv_iconst (v := 3) hx hb d_PC_number_60 (by decide) ?_
        refine lv_iload hx hb d_PC_number_61 (lv_at hl 6 rfl) ?_
        refine lv_iadd hx hb d_PC_number_63 ?_
        have hPc := hP.sub (ws' := [(pi, .inr (1, [.ref pia, .int pin])), (pia, .inl (cJ, 114, .inr (.inl pif)))]) [7, 8] rfl
        refine vp_callSl (va_Run.run (va_runVN (As := [.int r_17, .int (3 + wh)]) (rest := [.long r_16, .long y_14]) ⟨hx, hb, hml, hown, hts⟩ (c_Ri_at l dC dI cJ cI pi pia pin pif r_17 (3 + wh)) (⟨va_cnB 2 hts (gd_0 wd_136) rfl rfl rfl (hN _ nw_10) (hts _ (mw wd_35)) (by decide +kernel) ⟨Nat.le_of_ble_eq_true rfl, Nat.le_of_ble_eq_true rfl⟩, (hts _ (mw wd_135)), (hts _ (mw wd_5))⟩) ⟨fb_ro, va_recv hK hPc (ci := 1) (q0 := 0) rfl rfl, pre_ro hK hN hPc⟩ rfl rfl hl.1 rfl (lv_room (Nat.le_of_ble_eq_true rfl)) d_PC_number_64 ⟨Nat.le_of_ble_eq_true rfl, Nat.le_of_ble_eq_true rfl⟩)) (fun r_18 er_18 => ?_)
        have er_18 : r_18 = f_Ri_at pin pif r_17 (3 + wh) := er_18
        refine lv_lmul hx hb d_PC_number_67 ?_
        refine lv_ladd hx hb d_PC_number_68 ?_
        refine lv_topl (fun y_19 ey_19 => ?_)
        refine lv_lstore (lv' := [(5, .long y_19), (7, .int 2), (0, .ref ob), (1, .int ix), (2, .int xx), (3, .int yy), (4, .int wh)]) hx hb d_PC_number_69 hl (by decide) rfl (fun ls hl => ?_)
        refine lv_iinc (v := 3) (lv' := [(7, .int 3), (5, .long y_19), (0, .ref ob), (1, .int ix), (2, .int xx), (3, .int yy), (4, .int wh)]) hx hb d_PC_number_71 hl (k := 1) rfl (by decide) (by decide) rfl (fun ls hl => ?_)
        refine lv_goto (tgt := 29) hx hb d_PC_number_74 (by decide) ?_
        refine lv_iload hx hb d_PC_number_29 (lv_at hl 0 rfl) ?_
        refine lv_iconst (v := 3) hx hb d_PC_number_31 (by decide) ?_
        refine lv_icmp_ge (tgt := 77) hx hb d_PC_number_32 (by decide) (fun _ => ?_) (fun c_20 => absurd (by decide) c_20)
        refine lv_lload hx hb d_PC_number_77 (lv_at hl 1 rfl) ?_
        refine lv_aload_n hx hb d_PC_number_79 rfl (lv_at hl 2 rfl) ?_
        refine lv_iload_n hx hb d_PC_number_80 rfl (lv_at hl 3 rfl) ?_
        refine lv_iload_n hx hb d_PC_number_81 rfl (lv_at hl 4 rfl) ?_
        refine lv_iload_n hx hb d_PC_number_82 rfl (lv_at hl 5 rfl) ?_
        have hPc := hP
        refine vp_callSl (va_Run.run (va_runV (As := [.int ix, .int xx, .int yy]) (rest := [.long y_19]) ⟨hx, hb, hml, hown, hts⟩ (c_PC_weightSum l dC dI cJ cI ob wi hi fo gi gia gin gif ke kea ken kef sp spa spn spf pi pia pin pif fa fas fat faa fan faS faT faA ix xx yy) (cwV 3 hts (gd_V wd_213 wd_214 wd_20 wd_33 wd_215) rfl rfl rfl (by decide +kernel) ⟨Nat.le_of_ble_eq_true rfl, Nat.le_of_ble_eq_true rfl⟩) ⟨fb_ro, va_recv hK hPc (ci := 0) (q0 := 0) rfl rfl, pre_ro hK hN hPc⟩ rfl rfl hl.1 rfl (lv_room (Nat.le_of_ble_eq_true rfl)) d_PC_number_83 ⟨Nat.le_of_ble_eq_true rfl, Nat.le_of_ble_eq_true rfl⟩)) (fun r_21 er_21 => ?_)
        have er_21 : r_21 = f_PC_weightSum pin pif fan faS faT ix xx yy := er_21
        refine vp_callSl (va_Run.run (va_runS (As := [.long y_19, .long r_21]) (rest := []) ⟨hx, hb, hml, hown, hts⟩ (c_PC_div l dC dI cJ cI y_19 r_21) (va_cwS 2 hts (gd_S wd_148 wd_149 wd_33 wd_150) rfl rfl rfl (by decide +kernel) ⟨Nat.le_of_ble_eq_true rfl, Nat.le_of_ble_eq_true rfl⟩) ⟨fb_ro, pre_ro hK hN va_nil⟩ rfl rfl hl.1 rfl (lv_room (Nat.le_of_ble_eq_true rfl)) d_PC_number_86 ⟨Nat.le_of_ble_eq_true rfl, Nat.le_of_ble_eq_true rfl⟩)) (fun r_22 er_22 => ?_)
        have er_22 : r_22 = f_PC_div y_19 r_21 := er_22
        refine lv_l2i hx hb d_PC_number_89 rfl ?_
        subst er_3
        subst er_6
        subst er_7
        subst er_8
        subst ey_9
        subst er_11
        subst er_12
        subst er_13
        subst ey_14
        subst er_16
        subst er_17
        subst er_18
        subst ey_19
        subst er_21
        subst er_22
        exact W.iret (v := (f_PC_div (((0 + ((f_PC_weight pin pif fan faS faT ix 0 xx yy) * (f_Ri_at pin pif (f_Fa_corner fan faS faT ix 0) (3 + wh)))) + ((f_PC_weight pin pif fan faS faT ix 1 xx yy) * (f_Ri_at pin pif (f_Fa_corner fan faS faT ix 1) (3 + wh)))) + ((f_PC_weight pin pif fan faS faT ix 2 xx yy) * (f_Ri_at pin pif (f_Fa_corner fan faS faT ix 2) (3 + wh)))) (f_PC_weightSum pin pif fan faS faT ix xx yy)).toInt32) hx hb hr (fun t ht hW => ⟨_, rfl, by rw [f_PC_number, if_neg c_1, if_neg c_2, if_neg c_4], ht⟩) (fun q h => by cases h) d_PC_number_90
      · have c_4 : r_3 = 0 := c_4
        refine lv_iconst (v := 0) hx hb d_PC_number_21 (by decide) ?_
        subst er_3
        exact W.iret (v := 0) hx hb hr (fun t ht hW => ⟨_, rfl, by rw [f_PC_number, if_neg c_1, if_neg c_2, if_pos c_4], ht⟩) (fun q h => by cases h) d_PC_number_22
