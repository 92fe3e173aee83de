def f_Mo_focus_r (va : Int32) : Int32 := if (f_Mo_within va 8 512) = 0 then 0 else 1
def f_Mo_focus_0_3 (fo : Int32) (va : Int32) : Int32 := if (f_Mo_within va 8 512) = 0 then fo else va
set_option maxHeartbeats 4000000 in
set_option maxRecDepth 100000 in
theorem c_Mo_focus (l : Launch) (dC : Nat → ClassId) (dI : Nat → Nat → Nat) (cJ cI : ClassId) (sz : Nat) (mo : Nat) (wi : Int32) (hi : Int32) (fo : Int32) (mt : Nat) (mr : Nat) (ma : Int32) (mx : Nat) (mn : Int32) (mp : Nat) (mq : Nat) (ct : Nat) (mtf : Nat → Int64) (mrf : Nat → Int64) (mxf : Nat → Int64) (mpf : Nat → Int64) (mqf : Nat → Int64) (va : Int32) : Met l y_Mo_focus w_Mo_focus ({ frames := 1, cells := 0, slots := 0, locals := 22 } : Room) (rq_rw (dC, dI) cJ cI sz [.ref mo, .int va] [(mo, .inr (3, [.int 0, .int wi, .int hi, .int fo, .ref mt, .ref mr, .int ma, .ref mx, .int mn, .ref mp, .ref mq, .int (nI ct)])), (mt, .inl (cJ, 18, .inr (.inl mtf))), (mr, .inl (cJ, 120, .inr (.inl mrf))), (mx, .inl (cJ, 120, .inr (.inl mxf))), (mp, .inl (cJ, 324, .inr (.inl mpf))), (mq, .inl (cJ, 18, .inr (.inl mqf)))]) (va_Qi (fun (r : Int32) (_ : Unit) => r = f_Mo_focus_r va) (rz (dC, dI) (va_A [(mo, .inr (3, [.int 0, .int wi, .int hi, .int fo, .ref mt, .ref mr, .int ma, .ref mx, .int mn, .ref mp, .ref mq, .int (nI ct)])), (mt, .inl (cJ, 18, .inr (.inl mtf))), (mr, .inl (cJ, 120, .inr (.inl mrf))), (mx, .inl (cJ, 120, .inr (.inl mxf))), (mp, .inl (cJ, 324, .inr (.inl mpf))), (mq, .inl (cJ, 18, .inr (.inl mqf)))] sz) [(mo, .inr (3, [.int 0, .int wi, .int hi, .int (f_Mo_focus_0_3 fo va), .ref mt, .ref mr, .int ma, .ref mx, .int mn, .ref mp, .ref mq, .int (nI ct)])), (mt, .inl (cJ, 18, .inr (.inl mtf))), (mr, .inl (cJ, 120, .inr (.inl mrf))), (mx, .inl (cJ, 120, .inr (.inl mxf))), (mp, .inl (cJ, 324, .inr (.inl mpf))), (mq, .inl (cJ, 18, .inr (.inl mqf)))]) (va_A [(mo, .inr (3, [.int 0, .int wi, .int hi, .int fo, .ref mt, .ref mr, .int ma, .ref mx, .int mn, .ref mp, .ref mq, .int (nI ct)])), (mt, .inl (cJ, 18, .inr (.inl mtf))), (mr, .inl (cJ, 120, .inr (.inl mrf))), (mx, .inl (cJ, 120, .inr (.inl mxf))), (mp, .inl (cJ, 324, .inr (.inl mpf))), (mq, .inl (cJ, 18, .inr (.inl mqf)))] sz)) 0 0 (va_A [(mo, .inr (3, [.int 0, .int wi, .int hi, .int fo, .ref mt, .ref mr, .int ma, .ref mx, .int mn, .ref mp, .ref mq, .int (nI ct)])), (mt, .inl (cJ, 18, .inr (.inl mtf))), (mr, .inl (cJ, 120, .inr (.inl mrf))), (mx, .inl (cJ, 120, .inr (.inl mxf))), (mp, .inl (cJ, 324, .inr (.inl mpf))), (mq, .inl (cJ, 18, .inr (.inl mqf)))] sz) := by
  refine Met.ofW (cc := b_Mo_focus) (maxL := 2) (ret := (some .boolean)) (by decide) rfl ?_
  intro p e s m args below meth c s₁ B hml hv
  obtain ⟨rfl, hsz, hP, hK, hN, hD0⟩ := hv
  have hx := B.exec
  have hb := B.bytes
  have hr := B.returns
  have hts := atoms_spec (ws := w_Mo_focus) B.pre
  have hown : s.vm.findClass R_Mo = some m.cls := findClass_of_methodNamed B.named
  have hlocks := B.notSynchronized
  subst hsz
  have hD := hD0.self (sz := s.heap.size)
  generalize hAe : va_A [(mo, .inr (3, [.int 0, .int wi, .int hi, .int fo, .ref mt, .ref mr, .int ma, .ref mx, .int mn, .ref mp, .ref mq, .int (nI ct)])), (mt, .inl (cJ, 18, .inr (.inl mtf))), (mr, .inl (cJ, 120, .inr (.inl mrf))), (mx, .inl (cJ, 120, .inr (.inl mxf))), (mp, .inl (cJ, 324, .inr (.inl mpf))), (mq, .inl (cJ, 18, .inr (.inl mqf)))] s.heap.size = A at hD ⊢
  have hA : ∀ q : Nat, s.heap.size ≤ q → A q := fun q h => by rw [← hAe]; exact Or.inr h
  have hS : va_S A s.heap s.heap [] := va_S.rf
  have hl := lv_entry ([.ref mo, .int va]) (n := 2) (Nat.le_of_ble_eq_true rfl)
  rw [lg_entry_eq]
  generalize (lg_sl ([.ref mo, .int va]) ++ List.replicate (2 - (lg_sl ([.ref mo, .int va])).length) Slot.unset).toArray = ls at hl ⊢
  have hl : lv_has ls 2 [(0, .ref mo), (1, .int va)] := hl
  have hP : va_P (dC, dI) cls4 [(mo, .inr (3, [.int 0, .int wi, .int hi, .int fo, .ref mt, .ref mr, .int ma, .ref mx, .int mn, .ref mp, .ref mq, .int (nI ct)])), (mt, .inl (cJ, 18, .inr (.inl mtf))), (mr, .inl (cJ, 120, .inr (.inl mrf))), (mx, .inl (cJ, 120, .inr (.inl mxf))), (mp, .inl (cJ, 324, .inr (.inl mpf))), (mq, .inl (cJ, 18, .inr (.inl mqf)))] s.heap := hP
  refine lv_aload_n hx hb d_Mo_focus_0 rfl (lv_at hl 0 rfl) ?_
  refine lv_iconst (v := 0) hx hb d_Mo_focus_1 (by decide) ?_
  refine va_put (D := (dC, dI)) (ci := 3) (v := .int 0) (ty := .int) (C := R_Mo) (T := F_Mo) (N := 12) hx hb hts (fun w h => mw (i_Mo w h)) t_Mo t_Mo_ok n_Mo hown hK hP hD hS 0 rfl rfl 0 (by decide) (hts _ (mw wd_237)) (fun _ h9 => h9) rfl (by decide +kernel) rfl rfl (Nat.le_of_ble_eq_true rfl) d_Mo_focus_2 (fun H locs hP hD hS => ?_)
  have hP : va_P (dC, dI) cls4 [(mo, .inr (3, [.int 0, .int wi, .int hi, .int fo, .ref mt, .ref mr, .int ma, .ref mx, .int mn, .ref mp, .ref mq, .int (nI ct)])), (mt, .inl (cJ, 18, .inr (.inl mtf))), (mr, .inl (cJ, 120, .inr (.inl mrf))), (mx, .inl (cJ, 120, .inr (.inl mxf))), (mp, .inl (cJ, 324, .inr (.inl mpf))), (mq, .inl (cJ, 18, .inr (.inl mqf)))] H := hP
  have hD : va_D A [(mo, .inr (3, [.int 0, .int wi, .int hi, .int fo, .ref mt, .ref mr, .int ma, .ref mx, .int mn, .ref mp, .ref mq, .int (nI ct)])), (mt, .inl (cJ, 18, .inr (.inl mtf))), (mr, .inl (cJ, 120, .inr (.inl mrf))), (mx, .inl (cJ, 120, .inr (.inl mxf))), (mp, .inl (cJ, 324, .inr (.inl mpf))), (mq, .inl (cJ, 18, .inr (.inl mqf)))] := hD
  refine lv_iload_n hx hb d_Mo_focus_5 rfl (lv_at hl 1 rfl) ?_
  refine lv_bipush (v := 8) hx hb d_Mo_focus_6 (by decide) ?_
  refine lv_sipush (v := 512) hx hb d_Mo_focus_8 (by decide) ?_
  refine vp_callSi (va_Run.run (va_runS (As := [.int va, .int 8, .int 512]) (rest := []) ⟨hx, hb, hml, hown, hts⟩ (c_Mo_within l dC dI cJ cI va 8 512) (va_cwS 3 hts (gd_S wd_265 wd_266 wd_37 wd_267) rfl rfl rfl (by decide +kernel) ⟨Nat.le_of_ble_eq_true rfl, Nat.le_of_ble_eq_true rfl⟩) ⟨fb_ro, pre_ro hK hN va_nil⟩ rfl rfl hl.1 rfl (lv_room (Nat.le_of_ble_eq_true rfl)) d_Mo_focus_11 ⟨Nat.le_of_ble_eq_true rfl, Nat.le_of_ble_eq_true rfl⟩)) (fun r_1 er_1 => ?_)
  have er_1 : r_1 = f_Mo_within va 8 512 := er_1
  refine lv_if_ne (tgt := 19) hx hb d_Mo_focus_14 (by decide) (fun c_2 => ?_) (fun c_2 => ?_)
  · have c_2 : ¬ (r_1 = 0) := c_2
    refine lv_aload_n hx hb d_Mo_focus_19 rfl (lv_at hl 0 rfl) ?_
    refine lv_iload_n hx hb d_Mo_focus_20 rfl (lv_at hl 1 rfl) ?_
    refine va_put (D := (dC, dI)) (ci := 3) (v := .int va) (ty := .int) (C := R_Mo) (T := F_Mo) (N := 12) hx hb hts (fun w h => mw (i_Mo w h)) t_Mo t_Mo_ok n_Mo hown hK hP hD hS 0 rfl rfl 3 (by decide) (hts _ (mw wd_240)) (fun _ h9 => h9) rfl (by decide +kernel) rfl rfl (Nat.le_of_ble_eq_true rfl) d_Mo_focus_21 (fun H locs hP hD hS => ?_)
    have hP : va_P (dC, dI) cls4 [(mo, .inr (3, [.int 0, .int wi, .int hi, .int va, .ref mt, .ref mr, .int ma, .ref mx, .int mn, .ref mp, .ref mq, .int (nI ct)])), (mt, .inl (cJ, 18, .inr (.inl mtf))), (mr, .inl (cJ, 120, .inr (.inl mrf))), (mx, .inl (cJ, 120, .inr (.inl mxf))), (mp, .inl (cJ, 324, .inr (.inl mpf))), (mq, .inl (cJ, 18, .inr (.inl mqf)))] H := hP
    have hD : va_D A [(mo, .inr (3, [.int 0, .int wi, .int hi, .int va, .ref mt, .ref mr, .int ma, .ref mx, .int mn, .ref mp, .ref mq, .int (nI ct)])), (mt, .inl (cJ, 18, .inr (.inl mtf))), (mr, .inl (cJ, 120, .inr (.inl mrf))), (mx, .inl (cJ, 120, .inr (.inl mxf))), (mp, .inl (cJ, 324, .inr (.inl mpf))), (mq, .inl (cJ, 18, .inr (.inl mqf)))] := hD
    refine lv_iconst (v := 1) hx hb d_Mo_focus_24 (by decide) ?_
    subst er_1
    have ew_3 : f_Mo_focus_r va = 1 := by rw [f_Mo_focus_r, if_neg c_2]
    have ew_4 : f_Mo_focus_0_3 fo va = va := by rw [f_Mo_focus_0_3, if_neg c_2]
    exact W.zret (v := 1) hx hb hr (by decide) (fun t ht hW => ⟨⟨_, (), rfl, by rw [f_Mo_focus_r, if_neg c_2], by rw [ht, ew_4]; exact hP, by rw [ew_4]; exact hD⟩, hS.F ht⟩) hS.2.2 d_Mo_focus_25
  · have c_2 : r_1 = 0 := c_2
    refine lv_iconst (v := 0) hx hb d_Mo_focus_17 (by decide) ?_
    subst er_1
    have ew_5 : f_Mo_focus_r va = 0 := by rw [f_Mo_focus_r, if_pos c_2]
    have ew_6 : f_Mo_focus_0_3 fo va = fo := by rw [f_Mo_focus_0_3, if_pos c_2]
    exact W.zret (v := 0) hx hb hr (by decide) (fun t ht hW => ⟨⟨_, (), rfl, by rw [f_Mo_focus_r, if_pos c_2], by rw [ht, ew_6]; exact hP, by rw [ew_6]; exact hD⟩, hS.F ht⟩) hS.2.2 d_Mo_focus_18
def f_Mo_place_r (ix : Int32) (xx : Int32) (yy : Int32) (zz : Int32) : Int32 := if (f_Mo_within ix 0 2) = 0 then 0 else (if (f_Mo_far xx) = 0 then 0 else (if (f_Mo_far yy) = 0 then 0 else (if (f_Mo_far zz) = 0 then 0 else 1)))
def f_Mo_place_1 (mtf : Nat → Int64) (ix : Int32) (xx : Int32) (yy : Int32) (zz : Int32) : Nat → Int64 := if (f_Mo_within ix 0 2) = 0 then mtf else (if (f_Mo_far xx) = 0 then mtf else (if (f_Mo_far yy) = 0 then mtf else (if (f_Mo_far zz) = 0 then mtf else (vp_updL (vp_updL (vp_updL mtf (6 * ix).toNatClampNeg xx.toInt64) ((6 * ix) + 1).toNatClampNeg yy.toInt64) ((6 * ix) + 2).toNatClampNeg zz.toInt64))))
set_option maxHeartbeats 4000000 in
set_option maxRecDepth 100000 in
theorem c_Mo_place (l : Launch) (dC : Nat → ClassId) (dI : Nat → Nat → Nat) (cJ cI : ClassId) (sz : Nat) (mo : Nat) (wi : Int32) (hi : Int32) (fo : Int32) (mt : Nat) (mr : Nat) (ma : Int32) (mx : Nat) (mn : Int32) (mp : Nat) (mq : Nat) (ct : Nat) (mtf : Nat → Int64) (mrf : Nat → Int64) (mxf : Nat → Int64) (mpf : Nat → Int64) (mqf : Nat → Int64) (ix : Int32) (xx : Int32) (yy : Int32) (zz : Int32) : Met l y_Mo_place w_Mo_place ({ frames := 2, cells := 0, slots := 0, locals := 42 } : Room) (rq_rw (dC, dI) cJ cI sz [.ref mo, .int ix, .int xx, .int yy, .int zz] [(mo, .inr (3, [.int 0, .int wi, .int hi, .int fo, .ref mt, .ref mr, .int ma, .ref mx, .int mn, .ref mp, .ref mq, .int (nI ct)])), (mt, .inl (cJ, 18, .inr (.inl mtf))), (mr, .inl (cJ, 120, .inr (.inl mrf))), (mx, .inl (cJ, 120, .inr (.inl mxf))), (mp, .inl (cJ, 324, .inr (.inl mpf))), (mq, .inl (cJ, 18, .inr (.inl mqf)))]) (va_Qi (fun (r : Int32) (_ : Unit) => r = f_Mo_place_r ix xx yy zz) (rz (dC, dI) (va_A [(mo, .inr (3, [.int 0, .int wi, .int hi, .int fo, .ref mt, .ref mr, .int ma, .ref mx, .int mn, .ref mp, .ref mq, .int (nI ct)])), (mt, .inl (cJ, 18, .inr (.inl mtf))), (mr, .inl (cJ, 120, .inr (.inl mrf))), (mx, .inl (cJ, 120, .inr (.inl mxf))), (mp, .inl (cJ, 324, .inr (.inl mpf))), (mq, .inl (cJ, 18, .inr (.inl mqf)))] sz) [(mo, .inr (3, [.int 0, .int wi, .int hi, .int fo, .ref mt, .ref mr, .int ma, .ref mx, .int mn, .ref mp, .ref mq, .int (nI ct)])), (mt, .inl (cJ, 18, .inr (.inl (f_Mo_place_1 mtf ix xx yy zz)))), (mr, .inl (cJ, 120, .inr (.inl mrf))), (mx, .inl (cJ, 120, .inr (.inl mxf))), (mp, .inl (cJ, 324, .inr (.inl mpf))), (mq, .inl (cJ, 18, .inr (.inl mqf)))]) (va_A [(mo, .inr (3, [.int 0, .int wi, .int hi, .int fo, .ref mt, .ref mr, .int ma, .ref mx, .int mn, .ref mp, .ref mq, .int (nI ct)])), (mt, .inl (cJ, 18, .inr (.inl mtf))), (mr, .inl (cJ, 120, .inr (.inl mrf))), (mx, .inl (cJ, 120, .inr (.inl mxf))), (mp, .inl (cJ, 324, .inr (.inl mpf))), (mq, .inl (cJ, 18, .inr (.inl mqf)))] sz)) 0 0 (va_A [(mo, .inr (3, [.int 0, .int wi, .int hi, .int fo, .ref mt, .ref mr, .int ma, .ref mx, .int mn, .ref mp, .ref mq, .int (nI ct)])), (mt, .inl (cJ, 18, .inr (.inl mtf))), (mr, .inl (cJ, 120, .inr (.inl mrf))), (mx, .inl (cJ, 120, .inr (.inl mxf))), (mp, .inl (cJ, 324, .inr (.inl mpf))), (mq, .inl (cJ, 18, .inr (.inl mqf)))] sz) := by
  refine Met.ofW (cc := b_Mo_place) (maxL := 5) (ret := (some .boolean)) (by decide) rfl ?_
  intro p e s m args below meth c s₁ B hml hv
  obtain ⟨rfl, hsz, hP, hK, hN, hD0⟩ := hv
  have hx := B.exec
  have hb := B.bytes
  have hr := B.returns
  have hts := atoms_spec (ws := w_Mo_place) B.pre
  have hown : s.vm.findClass R_Mo = some m.cls := findClass_of_methodNamed B.named
  have hlocks := B.notSynchronized
  subst hsz
  have hD := hD0.self (sz := s.heap.size)
  generalize hAe : va_A [(mo, .inr (3, [.int 0, .int wi, .int hi, .int fo, .ref mt, .ref mr, .int ma, .ref mx, .int mn, .ref mp, .ref mq, .int (nI ct)])), (mt, .inl (cJ, 18, .inr (.inl mtf))), (mr, .inl (cJ, 120, .inr (.inl mrf))), (mx, .inl (cJ, 120, .inr (.inl mxf))), (mp, .inl (cJ, 324, .inr (.inl mpf))), (mq, .inl (cJ, 18, .inr (.inl mqf)))] s.heap.size = A at hD ⊢
  have hA : ∀ q : Nat, s.heap.size ≤ q → A q := fun q h => by rw [← hAe]; exact Or.inr h
  have hS : va_S A s.heap s.heap [] := va_S.rf
  have hl := lv_entry ([.ref mo, .int ix, .int xx, .int yy, .int zz]) (n := 5) (Nat.le_of_ble_eq_true rfl)
  rw [lg_entry_eq]
  generalize (lg_sl ([.ref mo, .int ix, .int xx, .int yy, .int zz]) ++ List.replicate (5 - (lg_sl ([.ref mo, .int ix, .int xx, .int yy, .int zz])).length) Slot.unset).toArray = ls at hl ⊢
  have hl : lv_has ls 5 [(0, .ref mo), (1, .int ix), (2, .int xx), (3, .int yy), (4, .int zz)] := hl
  have hP : va_P (dC, dI) cls4 [(mo, .inr (3, [.int 0, .int wi, .int hi, .int fo, .ref mt, .ref mr, .int ma, .ref mx, .int mn, .ref mp, .ref mq, .int (nI ct)])), (mt, .inl (cJ, 18, .inr (.inl mtf))), (mr, .inl (cJ, 120, .inr (.inl mrf))), (mx, .inl (cJ, 120, .inr (.inl mxf))), (mp, .inl (cJ, 324, .inr (.inl mpf))), (mq, .inl (cJ, 18, .inr (.inl mqf)))] s.heap := hP
  refine lv_aload_n hx hb d_Mo_place_0 rfl (lv_at hl 0 rfl) ?_
  refine lv_iconst (v := 0) hx hb d_Mo_place_1 (by decide) ?_
  refine va_put (D := (dC, dI)) (ci := 3) (v := .int 0) (ty := .int) (C := R_Mo) (T := F_Mo) (N := 12) hx hb hts (fun w h => mw (i_Mo w h)) t_Mo t_Mo_ok n_Mo hown hK hP hD hS 0 rfl rfl 0 (by decide) (hts _ (mw wd_237)) (fun _ h9 => h9) rfl (by decide +kernel) rfl rfl (Nat.le_of_ble_eq_true rfl) d_Mo_place_2 (fun H locs hP hD hS => ?_)
  have hP : va_P (dC, dI) cls4 [(mo, .inr (3, [.int 0, .int wi, .int hi, .int fo, .ref mt, .ref mr, .int ma, .ref mx, .int mn, .ref mp, .ref mq, .int (nI ct)])), (mt, .inl (cJ, 18, .inr (.inl mtf))), (mr, .inl (cJ, 120, .inr (.inl mrf))), (mx, .inl (cJ, 120, .inr (.inl mxf))), (mp, .inl (cJ, 324, .inr (.inl mpf))), (mq, .inl (cJ, 18, .inr (.inl mqf)))] H := hP
  have hD : va_D A [(mo, .inr (3, [.int 0, .int wi, .int hi, .int fo, .ref mt, .ref mr, .int ma, .ref mx, .int mn, .ref mp, .ref mq, .int (nI ct)])), (mt, .inl (cJ, 18, .inr (.inl mtf))), (mr, .inl (cJ, 120, .inr (.inl mrf))), (mx, .inl (cJ, 120, .inr (.inl mxf))), (mp, .inl (cJ, 324, .inr (.inl mpf))), (mq, .inl (cJ, 18, .inr (.inl mqf)))] := hD
  refine lv_iload_n hx hb d_Mo_place_5 rfl (lv_at hl 1 rfl) ?_
  refine lv_iconst (v := 0) hx hb d_Mo_place_6 (by decide) ?_
  refine lv_iconst (v := 2) hx hb d_Mo_place_7 (by decide) ?_
  refine vp_callSi (va_Run.run (va_runS (As := [.int ix, .int 0, .int 2]) (rest := []) ⟨hx, hb, hml, hown, hts⟩ (c_Mo_within l dC dI cJ cI ix 0 2) (va_cwS 3 hts (gd_S wd_265 wd_266 wd_37 wd_267) rfl rfl rfl (by decide +kernel) ⟨Nat.le_of_ble_eq_true rfl, Nat.le_of_ble_eq_true rfl⟩) ⟨fb_ro, pre_ro hK hN va_nil⟩ rfl rfl hl.1 rfl (lv_room (Nat.le_of_ble_eq_true rfl)) d_Mo_place_8 ⟨Nat.le_of_ble_eq_true rfl, Nat.le_of_ble_eq_true rfl⟩)) (fun r_1 er_1 => ?_)
  have er_1 : r_1 = f_Mo_within ix 0 2 := er_1
  refine lv_if_eq (tgt := 36) hx hb d_Mo_place_11 (by decide) (fun c_2 => ?_) (fun c_2 => ?_)
  · have c_2 : r_1 = 0 := c_2
    refine lv_iconst (v := 0) hx hb d_Mo_place_36 (by decide) ?_
    subst er_1
    have ew_3 : f_Mo_place_r ix xx yy zz = 0 := by rw [f_Mo_place_r, if_pos c_2]
    have ew_4 : f_Mo_place_1 mtf ix xx yy zz = mtf := by rw [f_Mo_place_1, if_pos c_2]
    exact W.zret (v := 0) hx hb hr (by decide) (fun t ht hW => ⟨⟨_, (), rfl, by rw [f_Mo_place_r, if_pos c_2], by rw [ht, ew_4]; exact hP, by rw [ew_4]; exact hD⟩, hS.F ht⟩) hS.2.2 d_Mo_place_37
  · have c_2 : ¬ (r_1 = 0) := c_2
    refine lv_iload_n hx hb d_Mo_place_14 rfl (lv_at hl 2 rfl) ?_
    refine vp_callSi (va_Run.run (va_runS (As := [.int xx]) (rest := []) ⟨hx, hb, hml, hown, hts⟩ (c_Mo_far l dC dI cJ cI xx) (va_cwS 1 hts (gd_S wd_272 wd_273 wd_37 wd_274) rfl rfl rfl (by decide +kernel) ⟨Nat.le_of_ble_eq_true rfl, Nat.le_of_ble_eq_true rfl⟩) ⟨fb_ro, pre_ro hK hN va_nil⟩ rfl rfl hl.1 rfl (lv_room (Nat.le_of_ble_eq_true rfl)) d_Mo_place_15 ⟨Nat.le_of_ble_eq_true rfl, Nat.le_of_ble_eq_true rfl⟩)) (fun r_5 er_5 => ?_)
    have er_5 : r_5 = f_Mo_far xx := er_5
    refine lv_if_eq (tgt := 36) hx hb d_Mo_place_18 (by decide) (fun c_6 => ?_) (fun c_6 => ?_)
    · have c_6 : r_5 = 0 := c_6
      refine lv_iconst (v := 0) hx hb d_Mo_place_36 (by decide) ?_
      subst er_1
      subst er_5
      have ew_7 : f_Mo_place_r ix xx yy zz = 0 := by rw [f_Mo_place_r, if_neg c_2, if_pos c_6]
      have ew_8 : f_Mo_place_1 mtf ix xx yy zz = mtf := by rw [f_Mo_place_1, if_neg c_2, if_pos c_6]
      exact W.zret (v := 0) hx hb hr (by decide) (fun t ht hW => ⟨⟨_, (), rfl, by rw [f_Mo_place_r, if_neg c_2, if_pos c_6], by rw [ht, ew_8]; exact hP, by rw [ew_8]; exact hD⟩, hS.F ht⟩) hS.2.2 d_Mo_place_37
    · have c_6 : ¬ (r_5 = 0) := c_6
      refine lv_iload_n hx hb d_Mo_place_21 rfl (lv_at hl 3 rfl) ?_
      refine vp_callSi (va_Run.run (va_runS (As := [.int yy]) (rest := []) ⟨hx, hb, hml, hown, hts⟩ (c_Mo_far l dC dI cJ cI yy) (va_cwS 1 hts (gd_S wd_272 wd_273 wd_37 wd_274) rfl rfl rfl (by decide +kernel) ⟨Nat.le_of_ble_eq_true rfl, Nat.le_of_ble_eq_true rfl⟩) ⟨fb_ro, pre_ro hK hN va_nil⟩ rfl rfl hl.1 rfl (lv_room (Nat.le_of_ble_eq_true rfl)) d_Mo_place_22 ⟨Nat.le_of_ble_eq_true rfl, Nat.le_of_ble_eq_true rfl⟩)) (fun r_9 er_9 => ?_)
      have er_9 : r_9 = f_Mo_far yy := er_9
      refine lv_if_eq (tgt := 36) hx hb d_Mo_place_25 (by decide) (fun c_10 => ?_) (fun c_10 => ?_)
      · have c_10 : r_9 = 0 := c_10
        refine lv_iconst (v := 0) hx hb d_Mo_place_36 (by decide) ?_
        subst er_1
        subst er_5
        subst er_9
        have ew_11 : f_Mo_place_r ix xx yy zz = 0 := by rw [f_Mo_place_r, if_neg c_2, if_neg c_6, if_pos c_10]
        have ew_12 : f_Mo_place_1 mtf ix xx yy zz = mtf := by rw [f_Mo_place_1, if_neg c_2, if_neg c_6, if_pos c_10]
        exact W.zret (v := 0) hx hb hr (by decide) (fun t ht hW => ⟨⟨_, (), rfl, by rw [f_Mo_place_r, if_neg c_2, if_neg c_6, if_pos c_10], by rw [ht, ew_12]; exact hP, by rw [ew_12]; exact hD⟩, hS.F ht⟩) hS.2.2 d_Mo_place_37
      · have c_10 : ¬ (r_9 = 0) := c_10
        refine lv_iload hx hb d_Mo_place_28 (lv_at hl 4 rfl) ?_
        refine vp_callSi (va_Run.run (va_runS (As := [.int zz]) (rest := []) ⟨hx, hb, hml, hown, hts⟩ (c_Mo_far l dC dI cJ cI zz) (va_cwS 1 hts (gd_S wd_272 wd_273 wd_37 wd_274) rfl rfl rfl (by decide +kernel) ⟨Nat.le_of_ble_eq_true rfl, Nat.le_of_ble_eq_true rfl⟩) ⟨fb_ro, pre_ro hK hN va_nil⟩ rfl rfl hl.1 rfl (lv_room (Nat.le_of_ble_eq_true rfl)) d_Mo_place_30 ⟨Nat.le_of_ble_eq_true rfl, Nat.le_of_ble_eq_true rfl⟩)) (fun r_13 er_13 => ?_)
        have er_13 : r_13 = f_Mo_far zz := er_13
        refine lv_if_ne (tgt := 38) hx hb d_Mo_place_33 (by decide) (fun c_14 => ?_) (fun c_14 => ?_)
        · have c_14 : ¬ (r_13 = 0) := c_14
          refine lv_aload_n hx hb d_Mo_place_38 rfl (lv_at hl 0 rfl) ?_
          refine va_get (D := (dC, dI)) (ci := 3) (v := .ref mt) (C := R_Mo) (T := F_Mo) (N := 12) hx hb hts (fun w h => mw (i_Mo w h)) hown hK hP 0 rfl rfl 4 (by decide) (hts _ (mw wd_241)) (fun _ h9 => h9) rfl d_Mo_place_39 ?_
          refine lv_bipush (v := 6) hx hb d_Mo_place_42 (by decide) ?_
          refine lv_iload_n hx hb d_Mo_place_44 rfl (lv_at hl 1 rfl) ?_
          refine lv_imul hx hb d_Mo_place_45 ?_
          refine lv_iload_n hx hb d_Mo_place_46 rfl (lv_at hl 2 rfl) ?_
          refine lv_i2l hx hb d_Mo_place_47 rfl ?_
          refine lv_topl (fun y_15 ey_15 => ?_)
          have hi_17 : vp_in (6 * ix) 18 := mo_p60 (by rw [← er_1]; exact c_2)
          refine va_last hx hb hK hP hD hS 1 0 rfl rfl hi_17 d_Mo_place_48 (fun H locs hP hD hS => ?_)
          have hP : va_P (dC, dI) cls4 [(mo, .inr (3, [.int 0, .int wi, .int hi, .int fo, .ref mt, .ref mr, .int ma, .ref mx, .int mn, .ref mp, .ref mq, .int (nI ct)])), (mt, .inl (cJ, 18, .inr (.inl (vp_updL mtf (6 * ix).toNatClampNeg y_15)))), (mr, .inl (cJ, 120, .inr (.inl mrf))), (mx, .inl (cJ, 120, .inr (.inl mxf))), (mp, .inl (cJ, 324, .inr (.inl mpf))), (mq, .inl (cJ, 18, .inr (.inl mqf)))] H := hP
          have hD : va_D A [(mo, .inr (3, [.int 0, .int wi, .int hi, .int fo, .ref mt, .ref mr, .int ma, .ref mx, .int mn, .ref mp, .ref mq, .int (nI ct)])), (mt, .inl (cJ, 18, .inr (.inl (vp_updL mtf (6 * ix).toNatClampNeg y_15)))), (mr, .inl (cJ, 120, .inr (.inl mrf))), (mx, .inl (cJ, 120, .inr (.inl mxf))), (mp, .inl (cJ, 324, .inr (.inl mpf))), (mq, .inl (cJ, 18, .inr (.inl mqf)))] := hD
          refine lv_aload_n hx hb d_Mo_place_49 rfl (lv_at hl 0 rfl) ?_
          refine va_get (D := (dC, dI)) (ci := 3) (v := .ref mt) (C := R_Mo) (T := F_Mo) (N := 12) hx hb hts (fun w h => mw (i_Mo w h)) hown hK hP 0 rfl rfl 4 (by decide) (hts _ (mw wd_241)) (fun _ h9 => h9) rfl d_Mo_place_50 ?_
          refine lv_bipush (v := 6) hx hb d_Mo_place_53 (by decide) ?_
          refine lv_iload_n hx hb d_Mo_place_55 rfl (lv_at hl 1 rfl) ?_
          refine lv_imul hx hb d_Mo_place_56 ?_
          refine lv_iconst (v := 1) hx hb d_Mo_place_57 (by decide) ?_
          refine lv_iadd hx hb d_Mo_place_58 ?_
          refine lv_iload_n hx hb d_Mo_place_59 rfl (lv_at hl 3 rfl) ?_
          refine lv_i2l hx hb d_Mo_place_60 rfl ?_
          refine lv_topl (fun y_18 ey_18 => ?_)
          have hi_20 : vp_in ((6 * ix) + 1) 18 := mo_p6 (by rw [← er_1]; exact c_2) (by decide)
          refine va_last hx hb hK hP hD hS 1 0 rfl rfl hi_20 d_Mo_place_61 (fun H locs hP hD hS => ?_)
          have hP : va_P (dC, dI) cls4 [(mo, .inr (3, [.int 0, .int wi, .int hi, .int fo, .ref mt, .ref mr, .int ma, .ref mx, .int mn, .ref mp, .ref mq, .int (nI ct)])), (mt, .inl (cJ, 18, .inr (.inl (vp_updL (vp_updL mtf (6 * ix).toNatClampNeg y_15) ((6 * ix) + 1).toNatClampNeg y_18)))), (mr, .inl (cJ, 120, .inr (.inl mrf))), (mx, .inl (cJ, 120, .inr (.inl mxf))), (mp, .inl (cJ, 324, .inr (.inl mpf))), (mq, .inl (cJ, 18, .inr (.inl mqf)))] H := hP
          have hD : va_D A [(mo, .inr (3, [.int 0, .int wi, .int hi, .int fo, .ref mt, .ref mr, .int ma, .ref mx, .int mn, .ref mp, .ref mq, .int (nI ct)])), (mt, .inl (cJ, 18, .inr (.inl (vp_updL (vp_updL mtf (6 * ix).toNatClampNeg y_15) ((6 * ix) + 1).toNatClampNeg y_18)))), (mr, .inl (cJ, 120, .inr (.inl mrf))), (mx, .inl (cJ, 120, .inr (.inl mxf))), (mp, .inl (cJ, 324, .inr (.inl mpf))), (mq, .inl (cJ, 18, .inr (.inl mqf)))] := hD
          refine lv_aload_n hx hb d_Mo_place_62 rfl (lv_at hl 0 rfl) ?_
          refine va_get (D := (dC, dI)) (ci := 3) (v := .ref mt) (C := R_Mo) (T := F_Mo) (N := 12) hx hb hts (fun w h => mw (i_Mo w h)) hown hK hP 0 rfl rfl 4 (by decide) (hts _ (mw wd_241)) (fun _ h9 => h9) rfl d_Mo_place_63 ?_
          refine lv_bipush (v := 6) hx hb d_Mo_place_66 (by decide) ?_
          refine lv_iload_n hx hb d_Mo_place_68 rfl (lv_at hl 1 rfl) ?_
          refine lv_imul hx hb d_Mo_place_69 ?_
          refine lv_iconst (v := 2) hx hb d_Mo_place_70 (by decide) ?_
          refine lv_iadd hx hb d_Mo_place_71 ?_
          refine lv_iload hx hb d_Mo_place_72 (lv_at hl 4 rfl) ?_
          refine lv_i2l hx hb d_Mo_place_74 rfl ?_
          refine lv_topl (fun y_21 ey_21 => ?_)
          have hi_23 : vp_in ((6 * ix) + 2) 18 := mo_p6 (by rw [← er_1]; exact c_2) (by decide)
          refine va_last hx hb hK hP hD hS 1 0 rfl rfl hi_23 d_Mo_place_75 (fun H locs hP hD hS => ?_)
          have hP : va_P (dC, dI) cls4 [(mo, .inr (3, [.int 0, .int wi, .int hi, .int fo, .ref mt, .ref mr, .int ma, .ref mx, .int mn, .ref mp, .ref mq, .int (nI ct)])), (mt, .inl (cJ, 18, .inr (.inl (vp_updL (vp_updL (vp_updL mtf (6 * ix).toNatClampNeg y_15) ((6 * ix) + 1).toNatClampNeg y_18) ((6 * ix) + 2).toNatClampNeg y_21)))), (mr, .inl (cJ, 120, .inr (.inl mrf))), (mx, .inl (cJ, 120, .inr (.inl mxf))), (mp, .inl (cJ, 324, .inr (.inl mpf))), (mq, .inl (cJ, 18, .inr (.inl mqf)))] H := hP
          have hD : va_D A [(mo, .inr (3, [.int 0, .int wi, .int hi, .int fo, .ref mt, .ref mr, .int ma, .ref mx, .int mn, .ref mp, .ref mq, .int (nI ct)])), (mt, .inl (cJ, 18, .inr (.inl (vp_updL (vp_updL (vp_updL mtf (6 * ix).toNatClampNeg y_15) ((6 * ix) + 1).toNatClampNeg y_18) ((6 * ix) + 2).toNatClampNeg y_21)))), (mr, .inl (cJ, 120, .inr (.inl mrf))), (mx, .inl (cJ, 120, .inr (.inl mxf))), (mp, .inl (cJ, 324, .inr (.inl mpf))), (mq, .inl (cJ, 18, .inr (.inl mqf)))] := hD
          refine lv_iconst (v := 1) hx hb d_Mo_place_76 (by decide) ?_
          subst er_1
          subst er_5
          subst er_9
          subst er_13
          subst ey_15
          subst ey_18
          subst ey_21
          have ew_24 : f_Mo_place_r ix xx yy zz = 1 := by rw [f_Mo_place_r, if_neg c_2, if_neg c_6, if_neg c_10, if_neg c_14]
          have ew_25 : f_Mo_place_1 mtf ix xx yy zz = vp_updL (vp_updL (vp_updL mtf (6 * ix).toNatClampNeg xx.toInt64) ((6 * ix) + 1).toNatClampNeg yy.toInt64) ((6 * ix) + 2).toNatClampNeg zz.toInt64 := by rw [f_Mo_place_1, if_neg c_2, if_neg c_6, if_neg c_10, if_neg c_14]
          exact W.zret (v := 1) hx hb hr (by decide) (fun t ht hW => ⟨⟨_, (), rfl, by rw [f_Mo_place_r, if_neg c_2, if_neg c_6, if_neg c_10, if_neg c_14], by rw [ht, ew_25]; exact hP, by rw [ew_25]; exact hD⟩, hS.F ht⟩) hS.2.2 d_Mo_place_77
        · have c_14 : r_13 = 0 := c_14
          refine lv_iconst (v := 0) hx hb d_Mo_place_36 (by decide) ?_
          subst er_1
          subst er_5
          subst er_9
          subst er_13
          have ew_26 : f_Mo_place_r ix xx yy zz = 0 := by rw [f_Mo_place_r, if_neg c_2, if_neg c_6, if_neg c_10, if_pos c_14]
          have ew_27 : f_Mo_place_1 mtf ix xx yy zz = mtf := by rw [f_Mo_place_1, if_neg c_2, if_neg c_6, if_neg c_10, if_pos c_14]
          exact W.zret (v := 0) hx hb hr (by decide) (fun t ht hW => ⟨⟨_, (), rfl, by rw [f_Mo_place_r, if_neg c_2, if_neg c_6, if_neg c_10, if_pos c_14], by rw [ht, ew_27]; exact hP, by rw [ew_27]; exact hD⟩, hS.F ht⟩) hS.2.2 d_Mo_place_37
def f_Mo_paint_r (ix : Int32) (uu : Int32) (vv : Int32) (ll : Int32) : Int32 := if (f_Mo_within ix 0 2) = 0 then 0 else (if (f_Mo_within uu (-131072) 131072) = 0 then 0 else (if (f_Mo_within vv (-131072) 131072) = 0 then 0 else (if (f_Mo_within ll 0 65536) = 0 then 0 else 1)))
def f_Mo_paint_1 (mtf : Nat → Int64) (ix : Int32) (uu : Int32) (vv : Int32) (ll : Int32) : Nat → Int64 := if (f_Mo_within ix 0 2) = 0 then mtf else (if (f_Mo_within uu (-131072) 131072) = 0 then mtf else (if (f_Mo_within vv (-131072) 131072) = 0 then mtf else (if (f_Mo_within ll 0 65536) = 0 then mtf else (vp_updL (vp_updL (vp_updL mtf ((6 * ix) + 3).toNatClampNeg uu.toInt64) ((6 * ix) + 4).toNatClampNeg vv.toInt64) ((6 * ix) + 5).toNatClampNeg ll.toInt64))))
set_option maxHeartbeats 4000000 in
set_option maxRecDepth 100000 in
theorem c_Mo_paint (l : Launch) (dC : Nat → ClassId) (dI : Nat → Nat → Nat) (cJ cI : ClassId) (sz : Nat) (mo : Nat) (wi : Int32) (hi : Int32) (fo : Int32) (mt : Nat) (mr : Nat) (ma : Int32) (mx : Nat) (mn : Int32) (mp : Nat) (mq : Nat) (ct : Nat) (mtf : Nat → Int64) (mrf : Nat → Int64) (mxf : Nat → Int64) (mpf : Nat → Int64) (mqf : Nat → Int64) (ix : Int32) (uu : Int32) (vv : Int32) (ll : Int32) : Met l y_Mo_paint w_Mo_paint ({ frames := 1, cells := 0, slots := 0, locals := 22 } : Room) (rq_rw (dC, dI) cJ cI sz [.ref mo, .int ix, .int uu, .int vv, .int ll] [(mo, .inr (3, [.int 0, .int wi, .int hi, .int fo, .ref mt, .ref mr, .int ma, .ref mx, .int mn, .ref mp, .ref mq, .int (nI ct)])), (mt, .inl (cJ, 18, .inr (.inl mtf))), (mr, .inl (cJ, 120, .inr (.inl mrf))), (mx, .inl (cJ, 120, .inr (.inl mxf))), (mp, .inl (cJ, 324, .inr (.inl mpf))), (mq, .inl (cJ, 18, .inr (.inl mqf)))]) (va_Qi (fun (r : Int32) (_ : Unit) => r = f_Mo_paint_r ix uu vv ll) (rz (dC, dI) (va_A [(mo, .inr (3, [.int 0, .int wi, .int hi, .int fo, .ref mt, .ref mr, .int ma, .ref mx, .int mn, .ref mp, .ref mq, .int (nI ct)])), (mt, .inl (cJ, 18, .inr (.inl mtf))), (mr, .inl (cJ, 120, .inr (.inl mrf))), (mx, .inl (cJ, 120, .inr (.inl mxf))), (mp, .inl (cJ, 324, .inr (.inl mpf))), (mq, .inl (cJ, 18, .inr (.inl mqf)))] sz) [(mo, .inr (3, [.int 0, .int wi, .int hi, .int fo, .ref mt, .ref mr, .int ma, .ref mx, .int mn, .ref mp, .ref mq, .int (nI ct)])), (mt, .inl (cJ, 18, .inr (.inl (f_Mo_paint_1 mtf ix uu vv ll)))), (mr, .inl (cJ, 120, .inr (.inl mrf))), (mx, .inl (cJ, 120, .inr (.inl mxf))), (mp, .inl (cJ, 324, .inr (.inl mpf))), (mq, .inl (cJ, 18, .inr (.inl mqf)))]) (va_A [(mo, .inr (3, [.int 0, .int wi, .int hi, .int fo, .ref mt, .ref mr, .int ma, .ref mx, .int mn, .ref mp, .ref mq, .int (nI ct)])), (mt, .inl (cJ, 18, .inr (.inl mtf))), (mr, .inl (cJ, 120, .inr (.inl mrf))), (mx, .inl (cJ, 120, .inr (.inl mxf))), (mp, .inl (cJ, 324, .inr (.inl mpf))), (mq, .inl (cJ, 18, .inr (.inl mqf)))] sz)) 0 0 (va_A [(mo, .inr (3, [.int 0, .int wi, .int hi, .int fo, .ref mt, .ref mr, .int ma, .ref mx, .int mn, .ref mp, .ref mq, .int (nI ct)])), (mt, .inl (cJ, 18, .inr (.inl mtf))), (mr, .inl (cJ, 120, .inr (.inl mrf))), (mx, .inl (cJ, 120, .inr (.inl mxf))), (mp, .inl (cJ, 324, .inr (.inl mpf))), (mq, .inl (cJ, 18, .inr (.inl mqf)))] sz) := by
  refine Met.ofW (cc := b_Mo_paint) (maxL := 5) (ret := (some .boolean)) (by decide) rfl ?_
  intro p e s m args below meth c s₁ B hml hv
  obtain ⟨rfl, hsz, hP, hK, hN, hD0⟩ := hv
  have hx := B.exec
  have hb := B.bytes
  have hr := B.returns
  have hts := atoms_spec (ws := w_Mo_paint) B.pre
  have hown : s.vm.findClass R_Mo = some m.cls := findClass_of_methodNamed B.named
  have hlocks := B.notSynchronized
  subst hsz
  have hD := hD0.self (sz := s.heap.size)
  generalize hAe : va_A [(mo, .inr (3, [.int 0, .int wi, .int hi, .int fo, .ref mt, .ref mr, .int ma, .ref mx, .int mn, .ref mp, .ref mq, .int (nI ct)])), (mt, .inl (cJ, 18, .inr (.inl mtf))), (mr, .inl (cJ, 120, .inr (.inl mrf))), (mx, .inl (cJ, 120, .inr (.inl mxf))), (mp, .inl (cJ, 324, .inr (.inl mpf))), (mq, .inl (cJ, 18, .inr (.inl mqf)))] s.heap.size = A at hD ⊢
  have hA : ∀ q : Nat, s.heap.size ≤ q → A q := fun q h => by rw [← hAe]; exact Or.inr h
  have hS : va_S A s.heap s.heap [] := va_S.rf
  have hl := lv_entry ([.ref mo, .int ix, .int uu, .int vv, .int ll]) (n := 5) (Nat.le_of_ble_eq_true rfl)
  rw [lg_entry_eq]
  generalize (lg_sl ([.ref mo, .int ix, .int uu, .int vv, .int ll]) ++ List.replicate (5 - (lg_sl ([.ref mo, .int ix, .int uu, .int vv, .int ll])).length) Slot.unset).toArray = ls at hl ⊢
  have hl : lv_has ls 5 [(0, .ref mo), (1, .int ix), (2, .int uu), (3, .int vv), (4, .int ll)] := hl
  have hP : va_P (dC, dI) cls4 [(mo, .inr (3, [.int 0, .int wi, .int hi, .int fo, .ref mt, .ref mr, .int ma, .ref mx, .int mn, .ref mp, .ref mq, .int (nI ct)])), (mt, .inl (cJ, 18, .inr (.inl mtf))), (mr, .inl (cJ, 120, .inr (.inl mrf))), (mx, .inl (cJ, 120, .inr (.inl mxf))), (mp, .inl (cJ, 324, .inr (.inl mpf))), (mq, .inl (cJ, 18, .inr (.inl mqf)))] s.heap := hP
  refine lv_aload_n hx hb d_Mo_paint_0 rfl (lv_at hl 0 rfl) ?_
  refine lv_iconst (v := 0) hx hb d_Mo_paint_1 (by decide) ?_
  refine va_put (D := (dC, dI)) (ci := 3) (v := .int 0) (ty := .int) (C := R_Mo) (T := F_Mo) (N := 12) hx hb hts (fun w h => mw (i_Mo w h)) t_Mo t_Mo_ok n_Mo hown hK hP hD hS 0 rfl rfl 0 (by decide) (hts _ (mw wd_237)) (fun _ h9 => h9) rfl (by decide +kernel) rfl rfl (Nat.le_of_ble_eq_true rfl) d_Mo_paint_2 (fun H locs hP hD hS => ?_)
  have hP : va_P (dC, dI) cls4 [(mo, .inr (3, [.int 0, .int wi, .int hi, .int fo, .ref mt, .ref mr, .int ma, .ref mx, .int mn, .ref mp, .ref mq, .int (nI ct)])), (mt, .inl (cJ, 18, .inr (.inl mtf))), (mr, .inl (cJ, 120, .inr (.inl mrf))), (mx, .inl (cJ, 120, .inr (.inl mxf))), (mp, .inl (cJ, 324, .inr (.inl mpf))), (mq, .inl (cJ, 18, .inr (.inl mqf)))] H := hP
  have hD : va_D A [(mo, .inr (3, [.int 0, .int wi, .int hi, .int fo, .ref mt, .ref mr, .int ma, .ref mx, .int mn, .ref mp, .ref mq, .int (nI ct)])), (mt, .inl (cJ, 18, .inr (.inl mtf))), (mr, .inl (cJ, 120, .inr (.inl mrf))), (mx, .inl (cJ, 120, .inr (.inl mxf))), (mp, .inl (cJ, 324, .inr (.inl mpf))), (mq, .inl (cJ, 18, .inr (.inl mqf)))] := hD
  refine lv_iload_n hx hb d_Mo_paint_5 rfl (lv_at hl 1 rfl) ?_
  refine lv_iconst (v := 0) hx hb d_Mo_paint_6 (by decide) ?_
  refine lv_iconst (v := 2) hx hb d_Mo_paint_7 (by decide) ?_
  refine vp_callSi (va_Run.run (va_runS (As := [.int ix, .int 0, .int 2]) (rest := []) ⟨hx, hb, hml, hown, hts⟩ (c_Mo_within l dC dI cJ cI ix 0 2) (va_cwS 3 hts (gd_S wd_265 wd_266 wd_37 wd_267) rfl rfl rfl (by decide +kernel) ⟨Nat.le_of_ble_eq_true rfl, Nat.le_of_ble_eq_true rfl⟩) ⟨fb_ro, pre_ro hK hN va_nil⟩ rfl rfl hl.1 rfl (lv_room (Nat.le_of_ble_eq_true rfl)) d_Mo_paint_8 ⟨Nat.le_of_ble_eq_true rfl, Nat.le_of_ble_eq_true rfl⟩)) (fun r_1 er_1 => ?_)
  have er_1 : r_1 = f_Mo_within ix 0 2 := er_1
  refine lv_if_eq (tgt := 47) hx hb d_Mo_paint_11 (by decide) (fun c_2 => ?_) (fun c_2 => ?_)
  · have c_2 : r_1 = 0 := c_2
    refine lv_iconst (v := 0) hx hb d_Mo_paint_47 (by decide) ?_
    subst er_1
    have ew_3 : f_Mo_paint_r ix uu vv ll = 0 := by rw [f_Mo_paint_r, if_pos c_2]
    have ew_4 : f_Mo_paint_1 mtf ix uu vv ll = mtf := by rw [f_Mo_paint_1, if_pos c_2]
    exact W.zret (v := 0) hx hb hr (by decide) (fun t ht hW => ⟨⟨_, (), rfl, by rw [f_Mo_paint_r, if_pos c_2], by rw [ht, ew_4]; exact hP, by rw [ew_4]; exact hD⟩, hS.F ht⟩) hS.2.2 d_Mo_paint_48
  · have c_2 : ¬ (r_1 = 0) := c_2
    refine lv_iload_n hx hb d_Mo_paint_14 rfl (lv_at hl 2 rfl) ?_
    refine lv_ldc hx hb hown (hts _ (mw wd_281)) d_Mo_paint_15 ?_
    refine lv_ldc hx hb hown (hts _ (mw wd_282)) d_Mo_paint_17 ?_
    refine vp_callSi (va_Run.run (va_runS (As := [.int uu, .int (-131072), .int 131072]) (rest := []) ⟨hx, hb, hml, hown, hts⟩ (c_Mo_within l dC dI cJ cI uu (-131072) 131072) (va_cwS 3 hts (gd_S wd_265 wd_266 wd_37 wd_267) rfl rfl rfl (by decide +kernel) ⟨Nat.le_of_ble_eq_true rfl, Nat.le_of_ble_eq_true rfl⟩) ⟨fb_ro, pre_ro hK hN va_nil⟩ rfl rfl hl.1 rfl (lv_room (Nat.le_of_ble_eq_true rfl)) d_Mo_paint_19 ⟨Nat.le_of_ble_eq_true rfl, Nat.le_of_ble_eq_true rfl⟩)) (fun r_5 er_5 => ?_)
    have er_5 : r_5 = f_Mo_within uu (-131072) 131072 := er_5
    refine lv_if_eq (tgt := 47) hx hb d_Mo_paint_22 (by decide) (fun c_6 => ?_) (fun c_6 => ?_)
    · have c_6 : r_5 = 0 := c_6
      refine lv_iconst (v := 0) hx hb d_Mo_paint_47 (by decide) ?_
      subst er_1
      subst er_5
      have ew_7 : f_Mo_paint_r ix uu vv ll = 0 := by rw [f_Mo_paint_r, if_neg c_2, if_pos c_6]
      have ew_8 : f_Mo_paint_1 mtf ix uu vv ll = mtf := by rw [f_Mo_paint_1, if_neg c_2, if_pos c_6]
      exact W.zret (v := 0) hx hb hr (by decide) (fun t ht hW => ⟨⟨_, (), rfl, by rw [f_Mo_paint_r, if_neg c_2, if_pos c_6], by rw [ht, ew_8]; exact hP, by rw [ew_8]; exact hD⟩, hS.F ht⟩) hS.2.2 d_Mo_paint_48
    · have c_6 : ¬ (r_5 = 0) := c_6
      refine lv_iload_n hx hb d_Mo_paint_25 rfl (lv_at hl 3 rfl) ?_
      refine lv_ldc hx hb hown (hts _ (mw wd_281)) d_Mo_paint_26 ?_
      refine lv_ldc hx hb hown (hts _ (mw wd_282)) d_Mo_paint_28 ?_
      refine vp_callSi (va_Run.run (va_runS (As := [.int vv, .int (-131072), .int 131072]) (rest := []) ⟨hx, hb, hml, hown, hts⟩ (c_Mo_within l dC dI cJ cI vv (-131072) 131072) (va_cwS 3 hts (gd_S wd_265 wd_266 wd_37 wd_267) rfl rfl rfl (by decide +kernel) ⟨Nat.le_of_ble_eq_true rfl, Nat.le_of_ble_eq_true rfl⟩) ⟨fb_ro, pre_ro hK hN va_nil⟩ rfl rfl hl.1 rfl (lv_room (Nat.le_of_ble_eq_true rfl)) d_Mo_paint_30 ⟨Nat.le_of_ble_eq_true rfl, Nat.le_of_ble_eq_true rfl⟩)) (fun r_9 er_9 => ?_)
      have er_9 : r_9 = f_Mo_within vv (-131072) 131072 := er_9
      refine lv_if_eq (tgt := 47) hx hb d_Mo_paint_33 (by decide) (fun c_10 => ?_) (fun c_10 => ?_)
      · have c_10 : r_9 = 0 := c_10
        refine lv_iconst (v := 0) hx hb d_Mo_paint_47 (by decide) ?_
        subst er_1
        subst er_5
        subst er_9
        have ew_11 : f_Mo_paint_r ix uu vv ll = 0 := by rw [f_Mo_paint_r, if_neg c_2, if_neg c_6, if_pos c_10]
        have ew_12 : f_Mo_paint_1 mtf ix uu vv ll = mtf := by rw [f_Mo_paint_1, if_neg c_2, if_neg c_6, if_pos c_10]
        exact W.zret (v := 0) hx hb hr (by decide) (fun t ht hW => ⟨⟨_, (), rfl, by rw [f_Mo_paint_r, if_neg c_2, if_neg c_6, if_pos c_10], by rw [ht, ew_12]; exact hP, by rw [ew_12]; exact hD⟩, hS.F ht⟩) hS.2.2 d_Mo_paint_48
      · have c_10 : ¬ (r_9 = 0) := c_10
        refine lv_iload hx hb d_Mo_paint_36 (lv_at hl 4 rfl) ?_
        refine lv_iconst (v := 0) hx hb d_Mo_paint_38 (by decide) ?_
        refine lv_ldc hx hb hown (hts _ (mw wd_283)) d_Mo_paint_39 ?_
        refine vp_callSi (va_Run.run (va_runS (As := [.int ll, .int 0, .int 65536]) (rest := []) ⟨hx, hb, hml, hown, hts⟩ (c_Mo_within l dC dI cJ cI ll 0 65536) (va_cwS 3 hts (gd_S wd_265 wd_266 wd_37 wd_267) rfl rfl rfl (by decide +kernel) ⟨Nat.le_of_ble_eq_true rfl, Nat.le_of_ble_eq_true rfl⟩) ⟨fb_ro, pre_ro hK hN va_nil⟩ rfl rfl hl.1 rfl (lv_room (Nat.le_of_ble_eq_true rfl)) d_Mo_paint_41 ⟨Nat.le_of_ble_eq_true rfl, Nat.le_of_ble_eq_true rfl⟩)) (fun r_13 er_13 => ?_)
        have er_13 : r_13 = f_Mo_within ll 0 65536 := er_13
        refine lv_if_ne (tgt := 49) hx hb d_Mo_paint_44 (by decide) (fun c_14 => ?_) (fun c_14 => ?_)
        · have c_14 : ¬ (r_13 = 0) := c_14
          refine lv_aload_n hx hb d_Mo_paint_49 rfl (lv_at hl 0 rfl) ?_
          refine va_get (D := (dC, dI)) (ci := 3) (v := .ref mt) (C := R_Mo) (T := F_Mo) (N := 12) hx hb hts (fun w h => mw (i_Mo w h)) hown hK hP 0 rfl rfl 4 (by decide) (hts _ (mw wd_241)) (fun _ h9 => h9) rfl d_Mo_paint_50 ?_
          refine lv_bipush (v := 6) hx hb d_Mo_paint_53 (by decide) ?_
          refine lv_iload_n hx hb d_Mo_paint_55 rfl (lv_at hl 1 rfl) ?_
          refine lv_imul hx hb d_Mo_paint_56 ?_
          refine lv_iconst (v := 3) hx hb d_Mo_paint_57 (by decide) ?_
          refine lv_iadd hx hb d_Mo_paint_58 ?_
          refine lv_iload_n hx hb d_Mo_paint_59 rfl (lv_at hl 2 rfl) ?_
          refine lv_i2l hx hb d_Mo_paint_60 rfl ?_
          refine lv_topl (fun y_15 ey_15 => ?_)
          have hi_17 : vp_in ((6 * ix) + 3) 18 := mo_p6 (by rw [← er_1]; exact c_2) (by decide)
          refine va_last hx hb hK hP hD hS 1 0 rfl rfl hi_17 d_Mo_paint_61 (fun H locs hP hD hS => ?_)
          have hP : va_P (dC, dI) cls4 [(mo, .inr (3, [.int 0, .int wi, .int hi, .int fo, .ref mt, .ref mr, .int ma, .ref mx, .int mn, .ref mp, .ref mq, .int (nI ct)])), (mt, .inl (cJ, 18, .inr (.inl (vp_updL mtf ((6 * ix) + 3).toNatClampNeg y_15)))), (mr, .inl (cJ, 120, .inr (.inl mrf))), (mx, .inl (cJ, 120, .inr (.inl mxf))), (mp, .inl (cJ, 324, .inr (.inl mpf))), (mq, .inl (cJ, 18, .inr (.inl mqf)))] H := hP
          have hD : va_D A [(mo, .inr (3, [.int 0, .int wi, .int hi, .int fo, .ref mt, .ref mr, .int ma, .ref mx, .int mn, .ref mp, .ref mq, .int (nI ct)])), (mt, .inl (cJ, 18, .inr (.inl (vp_updL mtf ((6 * ix) + 3).toNatClampNeg y_15)))), (mr, .inl (cJ, 120, .inr (.inl mrf))), (mx, .inl (cJ, 120, .inr (.inl mxf))), (mp, .inl (cJ, 324, .inr (.inl mpf))), (mq, .inl (cJ, 18, .inr (.inl mqf)))] := hD
          refine lv_aload_n hx hb d_Mo_paint_62 rfl (lv_at hl 0 rfl) ?_
          refine va_get (D := (dC, dI)) (ci := 3) (v := .ref mt) (C := R_Mo) (T := F_Mo) (N := 12) hx hb hts (fun w h => mw (i_Mo w h)) hown hK hP 0 rfl rfl 4 (by decide) (hts _ (mw wd_241)) (fun _ h9 => h9) rfl d_Mo_paint_63 ?_
          refine lv_bipush (v := 6) hx hb d_Mo_paint_66 (by decide) ?_
          refine lv_iload_n hx hb d_Mo_paint_68 rfl (lv_at hl 1 rfl) ?_
          refine lv_imul hx hb d_Mo_paint_69 ?_
          refine lv_iconst (v := 4) hx hb d_Mo_paint_70 (by decide) ?_
          refine lv_iadd hx hb d_Mo_paint_71 ?_
          refine lv_iload_n hx hb d_Mo_paint_72 rfl (lv_at hl 3 rfl) ?_
          refine lv_i2l hx hb d_Mo_paint_73 rfl ?_
          refine lv_topl (fun y_18 ey_18 => ?_)
          have hi_20 : vp_in ((6 * ix) + 4) 18 := mo_p6 (by rw [← er_1]; exact c_2) (by decide)
          refine va_last hx hb hK hP hD hS 1 0 rfl rfl hi_20 d_Mo_paint_74 (fun H locs hP hD hS => ?_)
          have hP : va_P (dC, dI) cls4 [(mo, .inr (3, [.int 0, .int wi, .int hi, .int fo, .ref mt, .ref mr, .int ma, .ref mx, .int mn, .ref mp, .ref mq, .int (nI ct)])), (mt, .inl (cJ, 18, .inr (.inl (vp_updL (vp_updL mtf ((6 * ix) + 3).toNatClampNeg y_15) ((6 * ix) + 4).toNatClampNeg y_18)))), (mr, .inl (cJ, 120, .inr (.inl mrf))), (mx, .inl (cJ, 120, .inr (.inl mxf))), (mp, .inl (cJ, 324, .inr (.inl mpf))), (mq, .inl (cJ, 18, .inr (.inl mqf)))] H := hP
          have hD : va_D A [(mo, .inr (3, [.int 0, .int wi, .int hi, .int fo, .ref mt, .ref mr, .int ma, .ref mx, .int mn, .ref mp, .ref mq, .int (nI ct)])), (mt, .inl (cJ, 18, .inr (.inl (vp_updL (vp_updL mtf ((6 * ix) + 3).toNatClampNeg y_15) ((6 * ix) + 4).toNatClampNeg y_18)))), (mr, .inl (cJ, 120, .inr (.inl mrf))), (mx, .inl (cJ, 120, .inr (.inl mxf))), (mp, .inl (cJ, 324, .inr (.inl mpf))), (mq, .inl (cJ, 18, .inr (.inl mqf)))] := hD
          refine lv_aload_n hx hb d_Mo_paint_75 rfl (lv_at hl 0 rfl) ?_
          refine va_get (D := (dC, dI)) (ci := 3) (v := .ref mt) (C := R_Mo) (T := F_Mo) (N := 12) hx hb hts (fun w h => mw (i_Mo w h)) hown hK hP 0 rfl rfl 4 (by decide) (hts _ (mw wd_241)) (fun _ h9 => h9) rfl d_Mo_paint_76 ?_
          refine lv_bipush (v := 6) hx hb d_Mo_paint_79 (by decide) ?_
          refine lv_iload_n hx hb d_Mo_paint_81 rfl (lv_at hl 1 rfl) ?_
          refine lv_imul hx hb d_Mo_paint_82 ?_
          refine lv_iconst (v := 5) hx hb d_Mo_paint_83 (by decide) ?_
          refine lv_iadd hx hb d_Mo_paint_84 ?_
          refine lv_iload hx hb d_Mo_paint_85 (lv_at hl 4 rfl) ?_
          refine lv_i2l hx hb d_Mo_paint_87 rfl ?_
          refine lv_topl (fun y_21 ey_21 => ?_)
          have hi_23 : vp_in ((6 * ix) + 5) 18 := mo_p6 (by rw [← er_1]; exact c_2) (by decide)
          refine va_last hx hb hK hP hD hS 1 0 rfl rfl hi_23 d_Mo_paint_88 (fun H locs hP hD hS => ?_)
          have hP : va_P (dC, dI) cls4 [(mo, .inr (3, [.int 0, .int wi, .int hi, .int fo, .ref mt, .ref mr, .int ma, .ref mx, .int mn, .ref mp, .ref mq, .int (nI ct)])), (mt, .inl (cJ, 18, .inr (.inl (vp_updL (vp_updL (vp_updL mtf ((6 * ix) + 3).toNatClampNeg y_15) ((6 * ix) + 4).toNatClampNeg y_18) ((6 * ix) + 5).toNatClampNeg y_21)))), (mr, .inl (cJ, 120, .inr (.inl mrf))), (mx, .inl (cJ, 120, .inr (.inl mxf))), (mp, .inl (cJ, 324, .inr (.inl mpf))), (mq, .inl (cJ, 18, .inr (.inl mqf)))] H := hP
          have hD : va_D A [(mo, .inr (3, [.int 0, .int wi, .int hi, .int fo, .ref mt, .ref mr, .int ma, .ref mx, .int mn, .ref mp, .ref mq, .int (nI ct)])), (mt, .inl (cJ, 18, .inr (.inl (vp_updL (vp_updL (vp_updL mtf ((6 * ix) + 3).toNatClampNeg y_15) ((6 * ix) + 4).toNatClampNeg y_18) ((6 * ix) + 5).toNatClampNeg y_21)))), (mr, .inl (cJ, 120, .inr (.inl mrf))), (mx, .inl (cJ, 120, .inr (.inl mxf))), (mp, .inl (cJ, 324, .inr (.inl mpf))), (mq, .inl (cJ, 18, .inr (.inl mqf)))] := hD
          refine lv_iconst (v := 1) hx hb d_Mo_paint_89 (by decide) ?_
          subst er_1
          subst er_5
          subst er_9
          subst er_13
          subst ey_15
          subst ey_18
          subst ey_21
          have ew_24 : f_Mo_paint_r ix uu vv ll = 1 := by rw [f_Mo_paint_r, if_neg c_2, if_neg c_6, if_neg c_10, if_neg c_14]
          have ew_25 : f_Mo_paint_1 mtf ix uu vv ll = vp_updL (vp_updL (vp_updL mtf ((6 * ix) + 3).toNatClampNeg uu.toInt64) ((6 * ix) + 4).toNatClampNeg vv.toInt64) ((6 * ix) + 5).toNatClampNeg ll.toInt64 := by rw [f_Mo_paint_1, if_neg c_2, if_neg c_6, if_neg c_10, if_neg c_14]
          exact W.zret (v := 1) hx hb hr (by decide) (fun t ht hW => ⟨⟨_, (), rfl, by rw [f_Mo_paint_r, if_neg c_2, if_neg c_6, if_neg c_10, if_neg c_14], by rw [ht, ew_25]; exact hP, by rw [ew_25]; exact hD⟩, hS.F ht⟩) hS.2.2 d_Mo_paint_90
        · have c_14 : r_13 = 0 := c_14
          refine lv_iconst (v := 0) hx hb d_Mo_paint_47 (by decide) ?_
          subst er_1
          subst er_5
          subst er_9
          subst er_13
          have ew_26 : f_Mo_paint_r ix uu vv ll = 0 := by rw [f_Mo_paint_r, if_neg c_2, if_neg c_6, if_neg c_10, if_pos c_14]
          have ew_27 : f_Mo_paint_1 mtf ix uu vv ll = mtf := by rw [f_Mo_paint_1, if_neg c_2, if_neg c_6, if_neg c_10, if_pos c_14]
          exact W.zret (v := 0) hx hb hr (by decide) (fun t ht hW => ⟨⟨_, (), rfl, by rw [f_Mo_paint_r, if_neg c_2, if_neg c_6, if_neg c_10, if_pos c_14], by rw [ht, ew_27]; exact hP, by rw [ew_27]; exact hD⟩, hS.F ht⟩) hS.2.2 d_Mo_paint_48
def f_Mo_piece_r (ct : Nat) (mpf : Nat → Int64) (ix : Int32) (co : Int32) (wh : Int32) : Int32 := if (f_Mo_within ix 0 ((nI ct) - 1)) = 0 then 0 else (if (f_Mo_within co 0 2) = 0 then 0 else (if (f_Mo_within wh 0 5) = 0 then 0 else ((mpf (((18 * ix) + (6 * co)) + wh).toNatClampNeg).toInt32)))
set_option maxHeartbeats 4000000 in
set_option maxRecDepth 100000 in
theorem c_Mo_piece (l : Launch) (dC : Nat → ClassId) (dI : Nat → Nat → Nat) (cJ cI : ClassId) (sz : Nat) (mo : Nat) (wi : Int32) (hi : Int32) (fo : Int32) (mt : Nat) (mr : Nat) (ma : Int32) (mx : Nat) (mn : Int32) (mp : Nat) (mq : Nat) (ct : Nat) (mtf : Nat → Int64) (mrf : Nat → Int64) (mxf : Nat → Int64) (mpf : Nat → Int64) (mqf : Nat → Int64) (ix : Int32) (co : Int32) (wh : Int32) (hct : ct ≤ 17) : Met l y_Mo_piece w_Mo_piece ({ frames := 1, cells := 0, slots := 0, locals := 22 } : Room) (rq_rw (dC, dI) cJ cI sz [.ref mo, .int ix, .int co, .int wh] [(mo, .inr (3, [.int 0, .int wi, .int hi, .int fo, .ref mt, .ref mr, .int ma, .ref mx, .int mn, .ref mp, .ref mq, .int (nI ct)])), (mt, .inl (cJ, 18, .inr (.inl mtf))), (mr, .inl (cJ, 120, .inr (.inl mrf))), (mx, .inl (cJ, 120, .inr (.inl mxf))), (mp, .inl (cJ, 324, .inr (.inl mpf))), (mq, .inl (cJ, 18, .inr (.inl mqf)))]) (va_Qi (fun (r : Int32) (_ : Unit) => r = f_Mo_piece_r ct mpf ix co wh) (rz (dC, dI) (va_A [(mo, .inr (3, [.int 0, .int wi, .int hi, .int fo, .ref mt, .ref mr, .int ma, .ref mx, .int mn, .ref mp, .ref mq, .int (nI ct)])), (mt, .inl (cJ, 18, .inr (.inl mtf))), (mr, .inl (cJ, 120, .inr (.inl mrf))), (mx, .inl (cJ, 120, .inr (.inl mxf))), (mp, .inl (cJ, 324, .inr (.inl mpf))), (mq, .inl (cJ, 18, .inr (.inl mqf)))] sz) [(mo, .inr (3, [.int 0, .int wi, .int hi, .int fo, .ref mt, .ref mr, .int ma, .ref mx, .int mn, .ref mp, .ref mq, .int (nI ct)])), (mt, .inl (cJ, 18, .inr (.inl mtf))), (mr, .inl (cJ, 120, .inr (.inl mrf))), (mx, .inl (cJ, 120, .inr (.inl mxf))), (mp, .inl (cJ, 324, .inr (.inl mpf))), (mq, .inl (cJ, 18, .inr (.inl mqf)))]) (va_A [(mo, .inr (3, [.int 0, .int wi, .int hi, .int fo, .ref mt, .ref mr, .int ma, .ref mx, .int mn, .ref mp, .ref mq, .int (nI ct)])), (mt, .inl (cJ, 18, .inr (.inl mtf))), (mr, .inl (cJ, 120, .inr (.inl mrf))), (mx, .inl (cJ, 120, .inr (.inl mxf))), (mp, .inl (cJ, 324, .inr (.inl mpf))), (mq, .inl (cJ, 18, .inr (.inl mqf)))] sz)) 0 0 (va_A [(mo, .inr (3, [.int 0, .int wi, .int hi, .int fo, .ref mt, .ref mr, .int ma, .ref mx, .int mn, .ref mp, .ref mq, .int (nI ct)])), (mt, .inl (cJ, 18, .inr (.inl mtf))), (mr, .inl (cJ, 120, .inr (.inl mrf))), (mx, .inl (cJ, 120, .inr (.inl mxf))), (mp, .inl (cJ, 324, .inr (.inl mpf))), (mq, .inl (cJ, 18, .inr (.inl mqf)))] sz) := by
  refine Met.ofW (cc := b_Mo_piece) (maxL := 4) (ret := (some .int)) (by decide) rfl ?_
  intro p e s m args below meth c s₁ B hml hv
  obtain ⟨rfl, hsz, hP, hK, hN, hD0⟩ := hv
  have hx := B.exec
  have hb := B.bytes
  have hr := B.returns
  have hts := atoms_spec (ws := w_Mo_piece) B.pre
  have hown : s.vm.findClass R_Mo = some m.cls := findClass_of_methodNamed B.named
  have hlocks := B.notSynchronized
  subst hsz
  have hD := hD0.self (sz := s.heap.size)
  generalize hAe : va_A [(mo, .inr (3, [.int 0, .int wi, .int hi, .int fo, .ref mt, .ref mr, .int ma, .ref mx, .int mn, .ref mp, .ref mq, .int (nI ct)])), (mt, .inl (cJ, 18, .inr (.inl mtf))), (mr, .inl (cJ, 120, .inr (.inl mrf))), (mx, .inl (cJ, 120, .inr (.inl mxf))), (mp, .inl (cJ, 324, .inr (.inl mpf))), (mq, .inl (cJ, 18, .inr (.inl mqf)))] s.heap.size = A at hD ⊢
  have hA : ∀ q : Nat, s.heap.size ≤ q → A q := fun q h => by rw [← hAe]; exact Or.inr h
  have hS : va_S A s.heap s.heap [] := va_S.rf
  have hl := lv_entry ([.ref mo, .int ix, .int co, .int wh]) (n := 4) (Nat.le_of_ble_eq_true rfl)
  rw [lg_entry_eq]
  generalize (lg_sl ([.ref mo, .int ix, .int co, .int wh]) ++ List.replicate (4 - (lg_sl ([.ref mo, .int ix, .int co, .int wh])).length) Slot.unset).toArray = ls at hl ⊢
  have hl : lv_has ls 4 [(0, .ref mo), (1, .int ix), (2, .int co), (3, .int wh)] := hl
  have hP : va_P (dC, dI) cls4 [(mo, .inr (3, [.int 0, .int wi, .int hi, .int fo, .ref mt, .ref mr, .int ma, .ref mx, .int mn, .ref mp, .ref mq, .int (nI ct)])), (mt, .inl (cJ, 18, .inr (.inl mtf))), (mr, .inl (cJ, 120, .inr (.inl mrf))), (mx, .inl (cJ, 120, .inr (.inl mxf))), (mp, .inl (cJ, 324, .inr (.inl mpf))), (mq, .inl (cJ, 18, .inr (.inl mqf)))] s.heap := hP
  refine lv_aload_n hx hb d_Mo_piece_0 rfl (lv_at hl 0 rfl) ?_
  refine lv_iconst (v := 0) hx hb d_Mo_piece_1 (by decide) ?_
  refine va_put (D := (dC, dI)) (ci := 3) (v := .int 0) (ty := .int) (C := R_Mo) (T := F_Mo) (N := 12) hx hb hts (fun w h => mw (i_Mo w h)) t_Mo t_Mo_ok n_Mo hown hK hP hD hS 0 rfl rfl 0 (by decide) (hts _ (mw wd_237)) (fun _ h9 => h9) rfl (by decide +kernel) rfl rfl (Nat.le_of_ble_eq_true rfl) d_Mo_piece_2 (fun H locs hP hD hS => ?_)
  have hP : va_P (dC, dI) cls4 [(mo, .inr (3, [.int 0, .int wi, .int hi, .int fo, .ref mt, .ref mr, .int ma, .ref mx, .int mn, .ref mp, .ref mq, .int (nI ct)])), (mt, .inl (cJ, 18, .inr (.inl mtf))), (mr, .inl (cJ, 120, .inr (.inl mrf))), (mx, .inl (cJ, 120, .inr (.inl mxf))), (mp, .inl (cJ, 324, .inr (.inl mpf))), (mq, .inl (cJ, 18, .inr (.inl mqf)))] H := hP
  have hD : va_D A [(mo, .inr (3, [.int 0, .int wi, .int hi, .int fo, .ref mt, .ref mr, .int ma, .ref mx, .int mn, .ref mp, .ref mq, .int (nI ct)])), (mt, .inl (cJ, 18, .inr (.inl mtf))), (mr, .inl (cJ, 120, .inr (.inl mrf))), (mx, .inl (cJ, 120, .inr (.inl mxf))), (mp, .inl (cJ, 324, .inr (.inl mpf))), (mq, .inl (cJ, 18, .inr (.inl mqf)))] := hD
  refine lv_iload_n hx hb d_Mo_piece_5 rfl (lv_at hl 1 rfl) ?_
  refine lv_iconst (v := 0) hx hb d_Mo_piece_6 (by decide) ?_
  refine lv_aload_n hx hb d_Mo_piece_7 rfl (lv_at hl 0 rfl) ?_
  refine va_get (D := (dC, dI)) (ci := 3) (v := .int (nI ct)) (C := R_Mo) (T := F_Mo) (N := 12) hx hb hts (fun w h => mw (i_Mo w h)) hown hK hP 0 rfl rfl 11 (by decide) (hts _ (mw wd_248)) (fun _ h9 => h9) rfl d_Mo_piece_8 ?_
  refine lv_iconst (v := 1) hx hb d_Mo_piece_11 (by decide) ?_
  refine lv_isub hx hb d_Mo_piece_12 ?_
  refine vp_callSi (va_Run.run (va_runS (As := [.int ix, .int 0, .int ((nI ct) - 1)]) (rest := []) ⟨hx, hb, hml, hown, hts⟩ (c_Mo_within l dC dI cJ cI ix 0 ((nI ct) - 1)) (va_cwS 3 hts (gd_S wd_265 wd_266 wd_37 wd_267) rfl rfl rfl (by decide +kernel) ⟨Nat.le_of_ble_eq_true rfl, Nat.le_of_ble_eq_true rfl⟩) ⟨fb_ro, pre_ro hK hN va_nil⟩ rfl rfl hl.1 rfl (lv_room (Nat.le_of_ble_eq_true rfl)) d_Mo_piece_13 ⟨Nat.le_of_ble_eq_true rfl, Nat.le_of_ble_eq_true rfl⟩)) (fun r_1 er_1 => ?_)
  have er_1 : r_1 = f_Mo_within ix 0 ((nI ct) - 1) := er_1
  refine lv_if_eq (tgt := 57) hx hb d_Mo_piece_16 (by decide) (fun c_2 => ?_) (fun c_2 => ?_)
  · have c_2 : r_1 = 0 := c_2
    refine lv_iconst (v := 0) hx hb d_Mo_piece_57 (by decide) ?_
    subst er_1
    have ew_3 : f_Mo_piece_r ct mpf ix co wh = 0 := by rw [f_Mo_piece_r, if_pos c_2]
    exact W.iret (v := 0) hx hb hr (fun t ht hW => ⟨⟨_, (), rfl, by rw [f_Mo_piece_r, if_pos c_2], by rw [ht]; exact hP, by exact hD⟩, hS.F ht⟩) hS.2.2 d_Mo_piece_58
  · have c_2 : ¬ (r_1 = 0) := c_2
    refine lv_iload_n hx hb d_Mo_piece_19 rfl (lv_at hl 2 rfl) ?_
    refine lv_iconst (v := 0) hx hb d_Mo_piece_20 (by decide) ?_
    refine lv_iconst (v := 2) hx hb d_Mo_piece_21 (by decide) ?_
    refine vp_callSi (va_Run.run (va_runS (As := [.int co, .int 0, .int 2]) (rest := []) ⟨hx, hb, hml, hown, hts⟩ (c_Mo_within l dC dI cJ cI co 0 2) (va_cwS 3 hts (gd_S wd_265 wd_266 wd_37 wd_267) rfl rfl rfl (by decide +kernel) ⟨Nat.le_of_ble_eq_true rfl, Nat.le_of_ble_eq_true rfl⟩) ⟨fb_ro, pre_ro hK hN va_nil⟩ rfl rfl hl.1 rfl (lv_room (Nat.le_of_ble_eq_true rfl)) d_Mo_piece_22 ⟨Nat.le_of_ble_eq_true rfl, Nat.le_of_ble_eq_true rfl⟩)) (fun r_4 er_4 => ?_)
    have er_4 : r_4 = f_Mo_within co 0 2 := er_4
    refine lv_if_eq (tgt := 57) hx hb d_Mo_piece_25 (by decide) (fun c_5 => ?_) (fun c_5 => ?_)
    · have c_5 : r_4 = 0 := c_5
      refine lv_iconst (v := 0) hx hb d_Mo_piece_57 (by decide) ?_
      subst er_1
      subst er_4
      have ew_6 : f_Mo_piece_r ct mpf ix co wh = 0 := by rw [f_Mo_piece_r, if_neg c_2, if_pos c_5]
      exact W.iret (v := 0) hx hb hr (fun t ht hW => ⟨⟨_, (), rfl, by rw [f_Mo_piece_r, if_neg c_2, if_pos c_5], by rw [ht]; exact hP, by exact hD⟩, hS.F ht⟩) hS.2.2 d_Mo_piece_58
    · have c_5 : ¬ (r_4 = 0) := c_5
      refine lv_iload_n hx hb d_Mo_piece_28 rfl (lv_at hl 3 rfl) ?_
      refine lv_iconst (v := 0) hx hb d_Mo_piece_29 (by decide) ?_
      refine lv_iconst (v := 5) hx hb d_Mo_piece_30 (by decide) ?_
      refine vp_callSi (va_Run.run (va_runS (As := [.int wh, .int 0, .int 5]) (rest := []) ⟨hx, hb, hml, hown, hts⟩ (c_Mo_within l dC dI cJ cI wh 0 5) (va_cwS 3 hts (gd_S wd_265 wd_266 wd_37 wd_267) rfl rfl rfl (by decide +kernel) ⟨Nat.le_of_ble_eq_true rfl, Nat.le_of_ble_eq_true rfl⟩) ⟨fb_ro, pre_ro hK hN va_nil⟩ rfl rfl hl.1 rfl (lv_room (Nat.le_of_ble_eq_true rfl)) d_Mo_piece_31 ⟨Nat.le_of_ble_eq_true rfl, Nat.le_of_ble_eq_true rfl⟩)) (fun r_7 er_7 => ?_)
      have er_7 : r_7 = f_Mo_within wh 0 5 := er_7
      refine lv_if_eq (tgt := 57) hx hb d_Mo_piece_34 (by decide) (fun c_8 => ?_) (fun c_8 => ?_)
      · have c_8 : r_7 = 0 := c_8
        refine lv_iconst (v := 0) hx hb d_Mo_piece_57 (by decide) ?_
        subst er_1
        subst er_4
        subst er_7
        have ew_9 : f_Mo_piece_r ct mpf ix co wh = 0 := by rw [f_Mo_piece_r, if_neg c_2, if_neg c_5, if_pos c_8]
        exact W.iret (v := 0) hx hb hr (fun t ht hW => ⟨⟨_, (), rfl, by rw [f_Mo_piece_r, if_neg c_2, if_neg c_5, if_pos c_8], by rw [ht]; exact hP, by exact hD⟩, hS.F ht⟩) hS.2.2 d_Mo_piece_58
      · have c_8 : ¬ (r_7 = 0) := c_8
        refine lv_aload_n hx hb d_Mo_piece_37 rfl (lv_at hl 0 rfl) ?_
        refine va_get (D := (dC, dI)) (ci := 3) (v := .ref mp) (C := R_Mo) (T := F_Mo) (N := 12) hx hb hts (fun w h => mw (i_Mo w h)) hown hK hP 0 rfl rfl 9 (by decide) (hts _ (mw wd_246)) (fun _ h9 => h9) rfl d_Mo_piece_38 ?_
        refine lv_bipush (v := 18) hx hb d_Mo_piece_41 (by decide) ?_
        refine lv_iload_n hx hb d_Mo_piece_43 rfl (lv_at hl 1 rfl) ?_
        refine lv_imul hx hb d_Mo_piece_44 ?_
        refine lv_bipush (v := 6) hx hb d_Mo_piece_45 (by decide) ?_
        refine lv_iload_n hx hb d_Mo_piece_47 rfl (lv_at hl 2 rfl) ?_
        refine lv_imul hx hb d_Mo_piece_48 ?_
        refine lv_iadd hx hb d_Mo_piece_49 ?_
        refine lv_iload_n hx hb d_Mo_piece_50 rfl (lv_at hl 3 rfl) ?_
        refine lv_iadd hx hb d_Mo_piece_51 ?_
        have hi_11 : vp_in (((18 * ix) + (6 * co)) + wh) 324 := mo_pin hct (by rw [← er_1]; exact c_2) (by rw [← er_4]; exact c_5) (by rw [← er_7]; exact c_8)
        refine va_lald hx hb hK hP 4 0 rfl rfl hi_11 d_Mo_piece_52 ?_
        refine lv_topl (fun y_12 ey_12 => ?_)
        refine lv_l2i hx hb d_Mo_piece_53 rfl ?_
        refine lv_goto (tgt := 58) hx hb d_Mo_piece_54 (by decide) ?_
        subst er_1
        subst er_4
        subst er_7
        subst ey_12
        have ew_13 : f_Mo_piece_r ct mpf ix co wh = (mpf (((18 * ix) + (6 * co)) + wh).toNatClampNeg).toInt32 := by rw [f_Mo_piece_r, if_neg c_2, if_neg c_5, if_neg c_8]
        exact W.iret (v := (mpf (((18 * ix) + (6 * co)) + wh).toNatClampNeg).toInt32) hx hb hr (fun t ht hW => ⟨⟨_, (), rfl, by rw [f_Mo_piece_r, if_neg c_2, if_neg c_5, if_neg c_8], by rw [ht]; exact hP, by exact hD⟩, hS.F ht⟩) hS.2.2 d_Mo_piece_58
def f_Mo_area_r (ct : Nat) (mqf : Nat → Int64) (ix : Int32) : Int32 := if (f_Mo_within ix 0 ((nI ct) - 1)) = 0 then (-1) else ((mqf ix.toNatClampNeg).toInt32)
set_option maxHeartbeats 4000000 in
set_option maxRecDepth 100000 in
theorem c_Mo_area (l : Launch) (dC : Nat → ClassId) (dI : Nat → Nat → Nat) (cJ cI : ClassId) (sz : Nat) (mo : Nat) (wi : Int32) (hi : Int32) (fo : Int32) (mt : Nat) (mr : Nat) (ma : Int32) (mx : Nat) (mn : Int32) (mp : Nat) (mq : Nat) (ct : Nat) (mtf : Nat → Int64) (mrf : Nat → Int64) (mxf : Nat → Int64) (mpf : Nat → Int64) (mqf : Nat → Int64) (ix : Int32) (hct : ct ≤ 17) : Met l y_Mo_area w_Mo_area ({ frames := 1, cells := 0, slots := 0, locals := 22 } : Room) (rq_rw (dC, dI) cJ cI sz [.ref mo, .int ix] [(mo, .inr (3, [.int 0, .int wi, .int hi, .int fo, .ref mt, .ref mr, .int ma, .ref mx, .int mn, .ref mp, .ref mq, .int (nI ct)])), (mt, .inl (cJ, 18, .inr (.inl mtf))), (mr, .inl (cJ, 120, .inr (.inl mrf))), (mx, .inl (cJ, 120, .inr (.inl mxf))), (mp, .inl (cJ, 324, .inr (.inl mpf))), (mq, .inl (cJ, 18, .inr (.inl mqf)))]) (va_Qi (fun (r : Int32) (_ : Unit) => r = f_Mo_area_r ct mqf ix) (rz (dC, dI) (va_A [(mo, .inr (3, [.int 0, .int wi, .int hi, .int fo, .ref mt, .ref mr, .int ma, .ref mx, .int mn, .ref mp, .ref mq, .int (nI ct)])), (mt, .inl (cJ, 18, .inr (.inl mtf))), (mr, .inl (cJ, 120, .inr (.inl mrf))), (mx, .inl (cJ, 120, .inr (.inl mxf))), (mp, .inl (cJ, 324, .inr (.inl mpf))), (mq, .inl (cJ, 18, .inr (.inl mqf)))] sz) [(mo, .inr (3, [.int 0, .int wi, .int hi, .int fo, .ref mt, .ref mr, .int ma, .ref mx, .int mn, .ref mp, .ref mq, .int (nI ct)])), (mt, .inl (cJ, 18, .inr (.inl mtf))), (mr, .inl (cJ, 120, .inr (.inl mrf))), (mx, .inl (cJ, 120, .inr (.inl mxf))), (mp, .inl (cJ, 324, .inr (.inl mpf))), (mq, .inl (cJ, 18, .inr (.inl mqf)))]) (va_A [(mo, .inr (3, [.int 0, .int wi, .int hi, .int fo, .ref mt, .ref mr, .int ma, .ref mx, .int mn, .ref mp, .ref mq, .int (nI ct)])), (mt, .inl (cJ, 18, .inr (.inl mtf))), (mr, .inl (cJ, 120, .inr (.inl mrf))), (mx, .inl (cJ, 120, .inr (.inl mxf))), (mp, .inl (cJ, 324, .inr (.inl mpf))), (mq, .inl (cJ, 18, .inr (.inl mqf)))] sz)) 0 0 (va_A [(mo, .inr (3, [.int 0, .int wi, .int hi, .int fo, .ref mt, .ref mr, .int ma, .ref mx, .int mn, .ref mp, .ref mq, .int (nI ct)])), (mt, .inl (cJ, 18, .inr (.inl mtf))), (mr, .inl (cJ, 120, .inr (.inl mrf))), (mx, .inl (cJ, 120, .inr (.inl mxf))), (mp, .inl (cJ, 324, .inr (.inl mpf))), (mq, .inl (cJ, 18, .inr (.inl mqf)))] sz) := by
  refine Met.ofW (cc := b_Mo_area) (maxL := 2) (ret := (some .int)) (by decide) rfl ?_
  intro p e s m args below meth c s₁ B hml hv
  obtain ⟨rfl, hsz, hP, hK, hN, hD0⟩ := hv
  have hx := B.exec
  have hb := B.bytes
  have hr := B.returns
  have hts := atoms_spec (ws := w_Mo_area) B.pre
  have hown : s.vm.findClass R_Mo = some m.cls := findClass_of_methodNamed B.named
  have hlocks := B.notSynchronized
  subst hsz
  have hD := hD0.self (sz := s.heap.size)
  generalize hAe : va_A [(mo, .inr (3, [.int 0, .int wi, .int hi, .int fo, .ref mt, .ref mr, .int ma, .ref mx, .int mn, .ref mp, .ref mq, .int (nI ct)])), (mt, .inl (cJ, 18, .inr (.inl mtf))), (mr, .inl (cJ, 120, .inr (.inl mrf))), (mx, .inl (cJ, 120, .inr (.inl mxf))), (mp, .inl (cJ, 324, .inr (.inl mpf))), (mq, .inl (cJ, 18, .inr (.inl mqf)))] s.heap.size = A at hD ⊢
  have hA : ∀ q : Nat, s.heap.size ≤ q → A q := fun q h => by rw [← hAe]; exact Or.inr h
  have hS : va_S A s.heap s.heap [] := va_S.rf
  have hl := lv_entry ([.ref mo, .int ix]) (n := 2) (Nat.le_of_ble_eq_true rfl)
  rw [lg_entry_eq]
  generalize (lg_sl ([.ref mo, .int ix]) ++ List.replicate (2 - (lg_sl ([.ref mo, .int ix])).length) Slot.unset).toArray = ls at hl ⊢
  have hl : lv_has ls 2 [(0, .ref mo), (1, .int ix)] := hl
  have hP : va_P (dC, dI) cls4 [(mo, .inr (3, [.int 0, .int wi, .int hi, .int fo, .ref mt, .ref mr, .int ma, .ref mx, .int mn, .ref mp, .ref mq, .int (nI ct)])), (mt, .inl (cJ, 18, .inr (.inl mtf))), (mr, .inl (cJ, 120, .inr (.inl mrf))), (mx, .inl (cJ, 120, .inr (.inl mxf))), (mp, .inl (cJ, 324, .inr (.inl mpf))), (mq, .inl (cJ, 18, .inr (.inl mqf)))] s.heap := hP
  refine lv_aload_n hx hb d_Mo_area_0 rfl (lv_at hl 0 rfl) ?_
  refine lv_iconst (v := 0) hx hb d_Mo_area_1 (by decide) ?_
  refine va_put (D := (dC, dI)) (ci := 3) (v := .int 0) (ty := .int) (C := R_Mo) (T := F_Mo) (N := 12) hx hb hts (fun w h => mw (i_Mo w h)) t_Mo t_Mo_ok n_Mo hown hK hP hD hS 0 rfl rfl 0 (by decide) (hts _ (mw wd_237)) (fun _ h9 => h9) rfl (by decide +kernel) rfl rfl (Nat.le_of_ble_eq_true rfl) d_Mo_area_2 (fun H locs hP hD hS => ?_)
  have hP : va_P (dC, dI) cls4 [(mo, .inr (3, [.int 0, .int wi, .int hi, .int fo, .ref mt, .ref mr, .int ma, .ref mx, .int mn, .ref mp, .ref mq, .int (nI ct)])), (mt, .inl (cJ, 18, .inr (.inl mtf))), (mr, .inl (cJ, 120, .inr (.inl mrf))), (mx, .inl (cJ, 120, .inr (.inl mxf))), (mp, .inl (cJ, 324, .inr (.inl mpf))), (mq, .inl (cJ, 18, .inr (.inl mqf)))] H := hP
  have hD : va_D A [(mo, .inr (3, [.int 0, .int wi, .int hi, .int fo, .ref mt, .ref mr, .int ma, .ref mx, .int mn, .ref mp, .ref mq, .int (nI ct)])), (mt, .inl (cJ, 18, .inr (.inl mtf))), (mr, .inl (cJ, 120, .inr (.inl mrf))), (mx, .inl (cJ, 120, .inr (.inl mxf))), (mp, .inl (cJ, 324, .inr (.inl mpf))), (mq, .inl (cJ, 18, .inr (.inl mqf)))] := hD
  refine lv_iload_n hx hb d_Mo_area_5 rfl (lv_at hl 1 rfl) ?_
  refine lv_iconst (v := 0) hx hb d_Mo_area_6 (by decide) ?_
  refine lv_aload_n hx hb d_Mo_area_7 rfl (lv_at hl 0 rfl) ?_
  refine va_get (D := (dC, dI)) (ci := 3) (v := .int (nI ct)) (C := R_Mo) (T := F_Mo) (N := 12) hx hb hts (fun w h => mw (i_Mo w h)) hown hK hP 0 rfl rfl 11 (by decide) (hts _ (mw wd_248)) (fun _ h9 => h9) rfl d_Mo_area_8 ?_
  refine lv_iconst (v := 1) hx hb d_Mo_area_11 (by decide) ?_
  refine lv_isub hx hb d_Mo_area_12 ?_
  refine vp_callSi (va_Run.run (va_runS (As := [.int ix, .int 0, .int ((nI ct) - 1)]) (rest := []) ⟨hx, hb, hml, hown, hts⟩ (c_Mo_within l dC dI cJ cI ix 0 ((nI ct) - 1)) (va_cwS 3 hts (gd_S wd_265 wd_266 wd_37 wd_267) rfl rfl rfl (by decide +kernel) ⟨Nat.le_of_ble_eq_true rfl, Nat.le_of_ble_eq_true rfl⟩) ⟨fb_ro, pre_ro hK hN va_nil⟩ rfl rfl hl.1 rfl (lv_room (Nat.le_of_ble_eq_true rfl)) d_Mo_area_13 ⟨Nat.le_of_ble_eq_true rfl, Nat.le_of_ble_eq_true rfl⟩)) (fun r_1 er_1 => ?_)
  have er_1 : r_1 = f_Mo_within ix 0 ((nI ct) - 1) := er_1
  refine lv_if_eq (tgt := 29) hx hb d_Mo_area_16 (by decide) (fun c_2 => ?_) (fun c_2 => ?_)
  · have c_2 : r_1 = 0 := c_2
    refine lv_iconst (v := (-1)) hx hb d_Mo_area_29 (by decide) ?_
    subst er_1
    have ew_3 : f_Mo_area_r ct mqf ix = (-1) := by rw [f_Mo_area_r, if_pos c_2]
    exact W.iret (v := (-1)) hx hb hr (fun t ht hW => ⟨⟨_, (), rfl, by rw [f_Mo_area_r, if_pos c_2], by rw [ht]; exact hP, by exact hD⟩, hS.F ht⟩) hS.2.2 d_Mo_area_30
  · have c_2 : ¬ (r_1 = 0) := c_2
    refine lv_aload_n hx hb d_Mo_area_19 rfl (lv_at hl 0 rfl) ?_
    refine va_get (D := (dC, dI)) (ci := 3) (v := .ref mq) (C := R_Mo) (T := F_Mo) (N := 12) hx hb hts (fun w h => mw (i_Mo w h)) hown hK hP 0 rfl rfl 10 (by decide) (hts _ (mw wd_247)) (fun _ h9 => h9) rfl d_Mo_area_20 ?_
    refine lv_iload_n hx hb d_Mo_area_23 rfl (lv_at hl 1 rfl) ?_
    have hi_5 : vp_in ix 18 := mo_ain hct (by rw [← er_1]; exact c_2)
    refine va_lald hx hb hK hP 5 0 rfl rfl hi_5 d_Mo_area_24 ?_
    refine lv_topl (fun y_6 ey_6 => ?_)
    refine lv_l2i hx hb d_Mo_area_25 rfl ?_
    refine lv_goto (tgt := 30) hx hb d_Mo_area_26 (by decide) ?_
    subst er_1
    subst ey_6
    have ew_7 : f_Mo_area_r ct mqf ix = (mqf ix.toNatClampNeg).toInt32 := by rw [f_Mo_area_r, if_neg c_2]
    exact W.iret (v := (mqf ix.toNatClampNeg).toInt32) hx hb hr (fun t ht hW => ⟨⟨_, (), rfl, by rw [f_Mo_area_r, if_neg c_2], by rw [ht]; exact hP, by exact hD⟩, hS.F ht⟩) hS.2.2 d_Mo_area_30
