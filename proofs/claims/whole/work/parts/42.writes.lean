def f_PC_focus_r (va : Int32) : Int32 := if va < 8 then 0 else (if va ≤ 512 then 1 else 0)
def f_PC_focus_0_2 (fo : Int32) (va : Int32) : Int32 := if va < 8 then fo else (if va ≤ 512 then va else fo)
set_option maxHeartbeats 4000000 in
set_option maxRecDepth 100000 in
theorem c_PC_focus (l : Launch) (dC : Nat → ClassId) (dI : Nat → Nat → Nat) (cJ cI : ClassId) (sz : Nat) (ob : Nat) (wi : Int32) (hi : Int32) (fo : Int32) (gi : Nat) (gia : Nat) (gin : Int32) (gif : Nat → Int64) (ke : Nat) (kea : Nat) (ken : Int32) (kef : Nat → Int64) (sp : Nat) (spa : Nat) (spn : Int32) (spf : Nat → Int64) (pi : Nat) (pia : Nat) (pin : Int32) (pif : Nat → Int64) (fa : Nat) (fas : Nat) (fat : Nat) (faa : Nat) (fan : Int32) (faS : Nat → Int32) (faT : Nat → Int32) (faA : Nat → Int32) (va : Int32) : Met l y_PC_focus w_PC_focus ({ frames := 0, cells := 0, slots := 0, locals := 0 } : Room) (rq_rw (dC, dI) cJ cI sz [.ref ob, .int va] [(ob, .inr (0, [.int wi, .int hi, .int fo, .ref gi, .ref ke, .ref sp, .ref pi, .ref fa])), (gi, .inr (1, [.ref gia, .int gin])), (gia, .inl (cJ, 114, .inr (.inl gif))), (ke, .inr (1, [.ref kea, .int ken])), (kea, .inl (cJ, 114, .inr (.inl kef))), (sp, .inr (1, [.ref spa, .int spn])), (spa, .inl (cJ, 114, .inr (.inl spf))), (pi, .inr (1, [.ref pia, .int pin])), (pia, .inl (cJ, 114, .inr (.inl pif))), (fa, .inr (2, [.ref fas, .ref fat, .ref faa, .int fan])), (fas, .inl (cI, 17, .inl faS)), (fat, .inl (cI, 17, .inl faT)), (faa, .inl (cI, 17, .inl faA))]) (va_Qi (fun (r : Int32) (_ : Unit) => r = f_PC_focus_r va) (rz (dC, dI) (va_A [(ob, .inr (0, [.int wi, .int hi, .int fo, .ref gi, .ref ke, .ref sp, .ref pi, .ref fa])), (gi, .inr (1, [.ref gia, .int gin])), (gia, .inl (cJ, 114, .inr (.inl gif))), (ke, .inr (1, [.ref kea, .int ken])), (kea, .inl (cJ, 114, .inr (.inl kef))), (sp, .inr (1, [.ref spa, .int spn])), (spa, .inl (cJ, 114, .inr (.inl spf))), (pi, .inr (1, [.ref pia, .int pin])), (pia, .inl (cJ, 114, .inr (.inl pif))), (fa, .inr (2, [.ref fas, .ref fat, .ref faa, .int fan])), (fas, .inl (cI, 17, .inl faS)), (fat, .inl (cI, 17, .inl faT)), (faa, .inl (cI, 17, .inl faA))] sz) [(ob, .inr (0, [.int wi, .int hi, .int (f_PC_focus_0_2 fo va), .ref gi, .ref ke, .ref sp, .ref pi, .ref fa])), (gi, .inr (1, [.ref gia, .int gin])), (gia, .inl (cJ, 114, .inr (.inl gif))), (ke, .inr (1, [.ref kea, .int ken])), (kea, .inl (cJ, 114, .inr (.inl kef))), (sp, .inr (1, [.ref spa, .int spn])), (spa, .inl (cJ, 114, .inr (.inl spf))), (pi, .inr (1, [.ref pia, .int pin])), (pia, .inl (cJ, 114, .inr (.inl pif))), (fa, .inr (2, [.ref fas, .ref fat, .ref faa, .int fan])), (fas, .inl (cI, 17, .inl faS)), (fat, .inl (cI, 17, .inl faT)), (faa, .inl (cI, 17, .inl faA))]) (va_A [(ob, .inr (0, [.int wi, .int hi, .int fo, .ref gi, .ref ke, .ref sp, .ref pi, .ref fa])), (gi, .inr (1, [.ref gia, .int gin])), (gia, .inl (cJ, 114, .inr (.inl gif))), (ke, .inr (1, [.ref kea, .int ken])), (kea, .inl (cJ, 114, .inr (.inl kef))), (sp, .inr (1, [.ref spa, .int spn])), (spa, .inl (cJ, 114, .inr (.inl spf))), (pi, .inr (1, [.ref pia, .int pin])), (pia, .inl (cJ, 114, .inr (.inl pif))), (fa, .inr (2, [.ref fas, .ref fat, .ref faa, .int fan])), (fas, .inl (cI, 17, .inl faS)), (fat, .inl (cI, 17, .inl faT)), (faa, .inl (cI, 17, .inl faA))] sz)) 0 0 (va_A [(ob, .inr (0, [.int wi, .int hi, .int fo, .ref gi, .ref ke, .ref sp, .ref pi, .ref fa])), (gi, .inr (1, [.ref gia, .int gin])), (gia, .inl (cJ, 114, .inr (.inl gif))), (ke, .inr (1, [.ref kea, .int ken])), (kea, .inl (cJ, 114, .inr (.inl kef))), (sp, .inr (1, [.ref spa, .int spn])), (spa, .inl (cJ, 114, .inr (.inl spf))), (pi, .inr (1, [.ref pia, .int pin])), (pia, .inl (cJ, 114, .inr (.inl pif))), (fa, .inr (2, [.ref fas, .ref fat, .ref faa, .int fan])), (fas, .inl (cI, 17, .inl faS)), (fat, .inl (cI, 17, .inl faT)), (faa, .inl (cI, 17, .inl faA))] sz) := by
  refine Met.ofW (cc := b_PC_focus) (maxL := 2) (ret := (some .boolean)) (by decide) rfl ?_
  intro p e s m args below meth c s₁ B hml hv
  obtain ⟨rfl, hsz, hP, hK, hN, hD0⟩ := hv
  have hx := B.exec
  have hb := B.bytes
  have hr := B.returns
  have hts := atoms_spec (ws := w_PC_focus) B.pre
  have hown : s.vm.findClass R_PC = some m.cls := findClass_of_methodNamed B.named
  have hlocks := B.notSynchronized
  subst hsz
  have hD := hD0.self (sz := s.heap.size)
  generalize hAe : va_A [(ob, .inr (0, [.int wi, .int hi, .int fo, .ref gi, .ref ke, .ref sp, .ref pi, .ref fa])), (gi, .inr (1, [.ref gia, .int gin])), (gia, .inl (cJ, 114, .inr (.inl gif))), (ke, .inr (1, [.ref kea, .int ken])), (kea, .inl (cJ, 114, .inr (.inl kef))), (sp, .inr (1, [.ref spa, .int spn])), (spa, .inl (cJ, 114, .inr (.inl spf))), (pi, .inr (1, [.ref pia, .int pin])), (pia, .inl (cJ, 114, .inr (.inl pif))), (fa, .inr (2, [.ref fas, .ref fat, .ref faa, .int fan])), (fas, .inl (cI, 17, .inl faS)), (fat, .inl (cI, 17, .inl faT)), (faa, .inl (cI, 17, .inl faA))] s.heap.size = A at hD ⊢
  have hA : ∀ q : Nat, s.heap.size ≤ q → A q := fun q h => by rw [← hAe]; exact Or.inr h
  have hS : va_S A s.heap s.heap [] := va_S.rf
  have hl := lv_entry ([.ref ob, .int va]) (n := 2) (Nat.le_of_ble_eq_true rfl)
  rw [lg_entry_eq]
  generalize (lg_sl ([.ref ob, .int va]) ++ List.replicate (2 - (lg_sl ([.ref ob, .int va])).length) Slot.unset).toArray = ls at hl ⊢
  have hl : lv_has ls 2 [(0, .ref ob), (1, .int va)] := hl
  have hP : va_P (dC, dI) cls4 [(ob, .inr (0, [.int wi, .int hi, .int fo, .ref gi, .ref ke, .ref sp, .ref pi, .ref fa])), (gi, .inr (1, [.ref gia, .int gin])), (gia, .inl (cJ, 114, .inr (.inl gif))), (ke, .inr (1, [.ref kea, .int ken])), (kea, .inl (cJ, 114, .inr (.inl kef))), (sp, .inr (1, [.ref spa, .int spn])), (spa, .inl (cJ, 114, .inr (.inl spf))), (pi, .inr (1, [.ref pia, .int pin])), (pia, .inl (cJ, 114, .inr (.inl pif))), (fa, .inr (2, [.ref fas, .ref fat, .ref faa, .int fan])), (fas, .inl (cI, 17, .inl faS)), (fat, .inl (cI, 17, .inl faT)), (faa, .inl (cI, 17, .inl faA))] s.heap := hP
  refine lv_iload_n hx hb d_PC_focus_0 rfl (lv_at hl 1 rfl) ?_
  refine lv_bipush (v := 8) hx hb d_PC_focus_1 (by decide) ?_
  refine lv_icmp_lt (tgt := 13) hx hb d_PC_focus_3 (by decide) (fun c_1 => ?_) (fun c_1 => ?_)
  · have c_1 : va < 8 := c_1
    refine lv_iconst (v := 0) hx hb d_PC_focus_13 (by decide) ?_
    have ew_2 : f_PC_focus_r va = 0 := by rw [f_PC_focus_r, if_pos c_1]
    have ew_3 : f_PC_focus_0_2 fo va = fo := by rw [f_PC_focus_0_2, if_pos c_1]
    exact W.zret (v := 0) hx hb hr (by decide) (fun t ht hW => ⟨⟨_, (), rfl, by rw [f_PC_focus_r, if_pos c_1], by rw [ht, ew_3]; exact hP, by rw [ew_3]; exact hD⟩, hS.F ht⟩) hS.2.2 d_PC_focus_14
  · have c_1 : ¬ (va < 8) := c_1
    refine lv_iload_n hx hb d_PC_focus_6 rfl (lv_at hl 1 rfl) ?_
    refine lv_sipush (v := 512) hx hb d_PC_focus_7 (by decide) ?_
    refine lv_icmp_le (tgt := 15) hx hb d_PC_focus_10 (by decide) (fun c_4 => ?_) (fun c_4 => ?_)
    · have c_4 : va ≤ 512 := c_4
      refine lv_aload_n hx hb d_PC_focus_15 rfl (lv_at hl 0 rfl) ?_
      refine lv_iload_n hx hb d_PC_focus_16 rfl (lv_at hl 1 rfl) ?_
      refine va_put (D := (dC, dI)) (ci := 0) (v := .int va) (ty := .int) (C := R_PC) (T := F_PC) (N := 8) hx hb hts (fun w h => mw (i_PC w h)) t_PC t_PC_ok n_PC hown hK hP hD hS 0 rfl rfl 2 (by decide) (hts _ (mw wd_83)) (fun _ h9 => h9) rfl (by decide +kernel) rfl rfl (Nat.le_of_ble_eq_true rfl) d_PC_focus_17 (fun H locs hP hD hS => ?_)
      have hP : va_P (dC, dI) cls4 [(ob, .inr (0, [.int wi, .int hi, .int va, .ref gi, .ref ke, .ref sp, .ref pi, .ref fa])), (gi, .inr (1, [.ref gia, .int gin])), (gia, .inl (cJ, 114, .inr (.inl gif))), (ke, .inr (1, [.ref kea, .int ken])), (kea, .inl (cJ, 114, .inr (.inl kef))), (sp, .inr (1, [.ref spa, .int spn])), (spa, .inl (cJ, 114, .inr (.inl spf))), (pi, .inr (1, [.ref pia, .int pin])), (pia, .inl (cJ, 114, .inr (.inl pif))), (fa, .inr (2, [.ref fas, .ref fat, .ref faa, .int fan])), (fas, .inl (cI, 17, .inl faS)), (fat, .inl (cI, 17, .inl faT)), (faa, .inl (cI, 17, .inl faA))] H := hP
      have hD : va_D A [(ob, .inr (0, [.int wi, .int hi, .int va, .ref gi, .ref ke, .ref sp, .ref pi, .ref fa])), (gi, .inr (1, [.ref gia, .int gin])), (gia, .inl (cJ, 114, .inr (.inl gif))), (ke, .inr (1, [.ref kea, .int ken])), (kea, .inl (cJ, 114, .inr (.inl kef))), (sp, .inr (1, [.ref spa, .int spn])), (spa, .inl (cJ, 114, .inr (.inl spf))), (pi, .inr (1, [.ref pia, .int pin])), (pia, .inl (cJ, 114, .inr (.inl pif))), (fa, .inr (2, [.ref fas, .ref fat, .ref faa, .int fan])), (fas, .inl (cI, 17, .inl faS)), (fat, .inl (cI, 17, .inl faT)), (faa, .inl (cI, 17, .inl faA))] := hD
      refine lv_iconst (v := 1) hx hb d_PC_focus_20 (by decide) ?_
      have ew_5 : f_PC_focus_r va = 1 := by rw [f_PC_focus_r, if_neg c_1, if_pos c_4]
      have ew_6 : f_PC_focus_0_2 fo va = va := by rw [f_PC_focus_0_2, if_neg c_1, if_pos c_4]
      exact W.zret (v := 1) hx hb hr (by decide) (fun t ht hW => ⟨⟨_, (), rfl, by rw [f_PC_focus_r, if_neg c_1, if_pos c_4], by rw [ht, ew_6]; exact hP, by rw [ew_6]; exact hD⟩, hS.F ht⟩) hS.2.2 d_PC_focus_21
    · have c_4 : ¬ (va ≤ 512) := c_4
      refine lv_iconst (v := 0) hx hb d_PC_focus_13 (by decide) ?_
      have ew_7 : f_PC_focus_r va = 0 := by rw [f_PC_focus_r, if_neg c_1, if_neg c_4]
      have ew_8 : f_PC_focus_0_2 fo va = fo := by rw [f_PC_focus_0_2, if_neg c_1, if_neg c_4]
      exact W.zret (v := 0) hx hb hr (by decide) (fun t ht hW => ⟨⟨_, (), rfl, by rw [f_PC_focus_r, if_neg c_1, if_neg c_4], by rw [ht, ew_8]; exact hP, by rw [ew_8]; exact hD⟩, hS.F ht⟩) hS.2.2 d_PC_focus_14
def f_PC_place_r (gin : Int32) (ix : Int32) (xx : Int32) (yy : Int32) (zz : Int32) : Int32 := if (f_Ri_has gin ix) = 0 then 0 else (if (f_PC_isPlace xx) = 0 then 0 else (if (f_PC_isPlace yy) = 0 then 0 else (if (f_PC_isPlace zz) = 0 then 0 else 1)))
def f_PC_place_2 (gin : Int32) (gif : Nat → Int64) (ix : Int32) (xx : Int32) (yy : Int32) (zz : Int32) : Nat → Int64 := if (f_Ri_has gin ix) = 0 then gif else (if (f_PC_isPlace xx) = 0 then gif else (if (f_PC_isPlace yy) = 0 then gif else (if (f_PC_isPlace zz) = 0 then gif else (f_Ri_put_1 gin (f_Ri_put_1 gin (f_Ri_put_1 gin gif ix 0 xx.toInt64) ix 1 yy.toInt64) ix 2 zz.toInt64))))
set_option maxHeartbeats 4000000 in
set_option maxRecDepth 100000 in
theorem c_PC_place (l : Launch) (dC : Nat → ClassId) (dI : Nat → Nat → Nat) (cJ cI : ClassId) (sz : Nat) (ob : Nat) (wi : Int32) (hi : Int32) (fo : Int32) (gi : Nat) (gia : Nat) (gin : Int32) (gif : Nat → Int64) (ke : Nat) (kea : Nat) (ken : Int32) (kef : Nat → Int64) (sp : Nat) (spa : Nat) (spn : Int32) (spf : Nat → Int64) (pi : Nat) (pia : Nat) (pin : Int32) (pif : Nat → Int64) (fa : Nat) (fas : Nat) (fat : Nat) (faa : Nat) (fan : Int32) (faS : Nat → Int32) (faT : Nat → Int32) (faA : Nat → Int32) (ix : Int32) (xx : Int32) (yy : Int32) (zz : Int32) : Met l y_PC_place w_PC_place ({ frames := 2, cells := 0, slots := 0, locals := 45 } : Room) (rq_rw (dC, dI) cJ cI sz [.ref ob, .int ix, .int xx, .int yy, .int zz] [(ob, .inr (0, [.int wi, .int hi, .int fo, .ref gi, .ref ke, .ref sp, .ref pi, .ref fa])), (gi, .inr (1, [.ref gia, .int gin])), (gia, .inl (cJ, 114, .inr (.inl gif))), (ke, .inr (1, [.ref kea, .int ken])), (kea, .inl (cJ, 114, .inr (.inl kef))), (sp, .inr (1, [.ref spa, .int spn])), (spa, .inl (cJ, 114, .inr (.inl spf))), (pi, .inr (1, [.ref pia, .int pin])), (pia, .inl (cJ, 114, .inr (.inl pif))), (fa, .inr (2, [.ref fas, .ref fat, .ref faa, .int fan])), (fas, .inl (cI, 17, .inl faS)), (fat, .inl (cI, 17, .inl faT)), (faa, .inl (cI, 17, .inl faA))]) (va_Qi (fun (r : Int32) (_ : Unit) => r = f_PC_place_r gin ix xx yy zz) (rz (dC, dI) (va_A [(ob, .inr (0, [.int wi, .int hi, .int fo, .ref gi, .ref ke, .ref sp, .ref pi, .ref fa])), (gi, .inr (1, [.ref gia, .int gin])), (gia, .inl (cJ, 114, .inr (.inl gif))), (ke, .inr (1, [.ref kea, .int ken])), (kea, .inl (cJ, 114, .inr (.inl kef))), (sp, .inr (1, [.ref spa, .int spn])), (spa, .inl (cJ, 114, .inr (.inl spf))), (pi, .inr (1, [.ref pia, .int pin])), (pia, .inl (cJ, 114, .inr (.inl pif))), (fa, .inr (2, [.ref fas, .ref fat, .ref faa, .int fan])), (fas, .inl (cI, 17, .inl faS)), (fat, .inl (cI, 17, .inl faT)), (faa, .inl (cI, 17, .inl faA))] sz) [(ob, .inr (0, [.int wi, .int hi, .int fo, .ref gi, .ref ke, .ref sp, .ref pi, .ref fa])), (gi, .inr (1, [.ref gia, .int gin])), (gia, .inl (cJ, 114, .inr (.inl (f_PC_place_2 gin gif ix xx yy zz)))), (ke, .inr (1, [.ref kea, .int ken])), (kea, .inl (cJ, 114, .inr (.inl kef))), (sp, .inr (1, [.ref spa, .int spn])), (spa, .inl (cJ, 114, .inr (.inl spf))), (pi, .inr (1, [.ref pia, .int pin])), (pia, .inl (cJ, 114, .inr (.inl pif))), (fa, .inr (2, [.ref fas, .ref fat, .ref faa, .int fan])), (fas, .inl (cI, 17, .inl faS)), (fat, .inl (cI, 17, .inl faT)), (faa, .inl (cI, 17, .inl faA))]) (va_A [(ob, .inr (0, [.int wi, .int hi, .int fo, .ref gi, .ref ke, .ref sp, .ref pi, .ref fa])), (gi, .inr (1, [.ref gia, .int gin])), (gia, .inl (cJ, 114, .inr (.inl gif))), (ke, .inr (1, [.ref kea, .int ken])), (kea, .inl (cJ, 114, .inr (.inl kef))), (sp, .inr (1, [.ref spa, .int spn])), (spa, .inl (cJ, 114, .inr (.inl spf))), (pi, .inr (1, [.ref pia, .int pin])), (pia, .inl (cJ, 114, .inr (.inl pif))), (fa, .inr (2, [.ref fas, .ref fat, .ref faa, .int fan])), (fas, .inl (cI, 17, .inl faS)), (fat, .inl (cI, 17, .inl faT)), (faa, .inl (cI, 17, .inl faA))] sz)) 0 0 (va_A [(ob, .inr (0, [.int wi, .int hi, .int fo, .ref gi, .ref ke, .ref sp, .ref pi, .ref fa])), (gi, .inr (1, [.ref gia, .int gin])), (gia, .inl (cJ, 114, .inr (.inl gif))), (ke, .inr (1, [.ref kea, .int ken])), (kea, .inl (cJ, 114, .inr (.inl kef))), (sp, .inr (1, [.ref spa, .int spn])), (spa, .inl (cJ, 114, .inr (.inl spf))), (pi, .inr (1, [.ref pia, .int pin])), (pia, .inl (cJ, 114, .inr (.inl pif))), (fa, .inr (2, [.ref fas, .ref fat, .ref faa, .int fan])), (fas, .inl (cI, 17, .inl faS)), (fat, .inl (cI, 17, .inl faT)), (faa, .inl (cI, 17, .inl faA))] sz) := by
  refine Met.ofW (cc := b_PC_place) (maxL := 5) (ret := (some .boolean)) (by decide) rfl ?_
  intro p e s m args below meth c s₁ B hml hv
  obtain ⟨rfl, hsz, hP, hK, hN, hD0⟩ := hv
  have hx := B.exec
  have hb := B.bytes
  have hr := B.returns
  have hts := atoms_spec (ws := w_PC_place) B.pre
  have hown : s.vm.findClass R_PC = some m.cls := findClass_of_methodNamed B.named
  have hlocks := B.notSynchronized
  subst hsz
  have hD := hD0.self (sz := s.heap.size)
  generalize hAe : va_A [(ob, .inr (0, [.int wi, .int hi, .int fo, .ref gi, .ref ke, .ref sp, .ref pi, .ref fa])), (gi, .inr (1, [.ref gia, .int gin])), (gia, .inl (cJ, 114, .inr (.inl gif))), (ke, .inr (1, [.ref kea, .int ken])), (kea, .inl (cJ, 114, .inr (.inl kef))), (sp, .inr (1, [.ref spa, .int spn])), (spa, .inl (cJ, 114, .inr (.inl spf))), (pi, .inr (1, [.ref pia, .int pin])), (pia, .inl (cJ, 114, .inr (.inl pif))), (fa, .inr (2, [.ref fas, .ref fat, .ref faa, .int fan])), (fas, .inl (cI, 17, .inl faS)), (fat, .inl (cI, 17, .inl faT)), (faa, .inl (cI, 17, .inl faA))] s.heap.size = A at hD ⊢
  have hA : ∀ q : Nat, s.heap.size ≤ q → A q := fun q h => by rw [← hAe]; exact Or.inr h
  have hS : va_S A s.heap s.heap [] := va_S.rf
  have hl := lv_entry ([.ref ob, .int ix, .int xx, .int yy, .int zz]) (n := 5) (Nat.le_of_ble_eq_true rfl)
  rw [lg_entry_eq]
  generalize (lg_sl ([.ref ob, .int ix, .int xx, .int yy, .int zz]) ++ List.replicate (5 - (lg_sl ([.ref ob, .int ix, .int xx, .int yy, .int zz])).length) Slot.unset).toArray = ls at hl ⊢
  have hl : lv_has ls 5 [(0, .ref ob), (1, .int ix), (2, .int xx), (3, .int yy), (4, .int zz)] := hl
  have hP : va_P (dC, dI) cls4 [(ob, .inr (0, [.int wi, .int hi, .int fo, .ref gi, .ref ke, .ref sp, .ref pi, .ref fa])), (gi, .inr (1, [.ref gia, .int gin])), (gia, .inl (cJ, 114, .inr (.inl gif))), (ke, .inr (1, [.ref kea, .int ken])), (kea, .inl (cJ, 114, .inr (.inl kef))), (sp, .inr (1, [.ref spa, .int spn])), (spa, .inl (cJ, 114, .inr (.inl spf))), (pi, .inr (1, [.ref pia, .int pin])), (pia, .inl (cJ, 114, .inr (.inl pif))), (fa, .inr (2, [.ref fas, .ref fat, .ref faa, .int fan])), (fas, .inl (cI, 17, .inl faS)), (fat, .inl (cI, 17, .inl faT)), (faa, .inl (cI, 17, .inl faA))] s.heap := hP
  refine lv_aload_n hx hb d_PC_place_0 rfl (lv_at hl 0 rfl) ?_
  refine va_get (D := (dC, dI)) (ci := 0) (v := .ref gi) (C := R_PC) (T := F_PC) (N := 8) hx hb hts (fun w h => mw (i_PC w h)) hown hK hP 0 rfl rfl 3 (by decide) (hts _ (mw wd_84)) (fun _ h9 => h9) rfl d_PC_place_1 ?_
  refine lv_iload_n hx hb d_PC_place_4 rfl (lv_at hl 1 rfl) ?_
  have hPc := hP.sub (ws' := [(gi, .inr (1, [.ref gia, .int gin])), (gia, .inl (cJ, 114, .inr (.inl gif)))]) [1, 2] rfl
  refine vp_callSi (va_Run.run (va_runVN (As := [.int ix]) (rest := []) ⟨hx, hb, hml, hown, hts⟩ (c_Ri_has l dC dI cJ cI gi gia gin gif ix) (⟨va_cnB 1 hts (gd_0 wd_106) rfl rfl rfl (hN _ nw_6) (hts _ (mw wd_35)) (by decide +kernel) ⟨Nat.le_of_ble_eq_true rfl, Nat.le_of_ble_eq_true rfl⟩, (hts _ (mw wd_105)), (hts _ (mw wd_1))⟩) ⟨fb_ro, va_recv hK hPc (ci := 1) (q0 := 0) rfl rfl, pre_ro hK hN hPc⟩ rfl rfl hl.1 rfl (lv_room (Nat.le_of_ble_eq_true rfl)) d_PC_place_5 ⟨Nat.le_of_ble_eq_true rfl, Nat.le_of_ble_eq_true rfl⟩)) (fun r_1 er_1 => ?_)
  have er_1 : r_1 = f_Ri_has gin ix := er_1
  refine lv_if_eq (tgt := 33) hx hb d_PC_place_8 (by decide) (fun c_2 => ?_) (fun c_2 => ?_)
  · have c_2 : r_1 = 0 := c_2
    refine lv_iconst (v := 0) hx hb d_PC_place_33 (by decide) ?_
    subst er_1
    have ew_3 : f_PC_place_r gin ix xx yy zz = 0 := by rw [f_PC_place_r, if_pos c_2]
    have ew_4 : f_PC_place_2 gin gif ix xx yy zz = gif := by rw [f_PC_place_2, if_pos c_2]
    exact W.zret (v := 0) hx hb hr (by decide) (fun t ht hW => ⟨⟨_, (), rfl, by rw [f_PC_place_r, if_pos c_2], by rw [ht, ew_4]; exact hP, by rw [ew_4]; exact hD⟩, hS.F ht⟩) hS.2.2 d_PC_place_34
  · have c_2 : ¬ (r_1 = 0) := c_2
    refine lv_iload_n hx hb d_PC_place_11 rfl (lv_at hl 2 rfl) ?_
    refine vp_callSi (va_Run.run (va_runS (As := [.int xx]) (rest := []) ⟨hx, hb, hml, hown, hts⟩ (c_PC_isPlace l dC dI cJ cI xx) (va_cwS 1 hts (gd_S wd_107 wd_108 wd_33 wd_109) rfl rfl rfl (by decide +kernel) ⟨Nat.le_of_ble_eq_true rfl, Nat.le_of_ble_eq_true rfl⟩) ⟨fb_ro, pre_ro hK hN va_nil⟩ rfl rfl hl.1 rfl (lv_room (Nat.le_of_ble_eq_true rfl)) d_PC_place_12 ⟨Nat.le_of_ble_eq_true rfl, Nat.le_of_ble_eq_true rfl⟩)) (fun r_5 er_5 => ?_)
    have er_5 : r_5 = f_PC_isPlace xx := er_5
    refine lv_if_eq (tgt := 33) hx hb d_PC_place_15 (by decide) (fun c_6 => ?_) (fun c_6 => ?_)
    · have c_6 : r_5 = 0 := c_6
      refine lv_iconst (v := 0) hx hb d_PC_place_33 (by decide) ?_
      subst er_1
      subst er_5
      have ew_7 : f_PC_place_r gin ix xx yy zz = 0 := by rw [f_PC_place_r, if_neg c_2, if_pos c_6]
      have ew_8 : f_PC_place_2 gin gif ix xx yy zz = gif := by rw [f_PC_place_2, if_neg c_2, if_pos c_6]
      exact W.zret (v := 0) hx hb hr (by decide) (fun t ht hW => ⟨⟨_, (), rfl, by rw [f_PC_place_r, if_neg c_2, if_pos c_6], by rw [ht, ew_8]; exact hP, by rw [ew_8]; exact hD⟩, hS.F ht⟩) hS.2.2 d_PC_place_34
    · have c_6 : ¬ (r_5 = 0) := c_6
      refine lv_iload_n hx hb d_PC_place_18 rfl (lv_at hl 3 rfl) ?_
      refine vp_callSi (va_Run.run (va_runS (As := [.int yy]) (rest := []) ⟨hx, hb, hml, hown, hts⟩ (c_PC_isPlace l dC dI cJ cI yy) (va_cwS 1 hts (gd_S wd_107 wd_108 wd_33 wd_109) rfl rfl rfl (by decide +kernel) ⟨Nat.le_of_ble_eq_true rfl, Nat.le_of_ble_eq_true rfl⟩) ⟨fb_ro, pre_ro hK hN va_nil⟩ rfl rfl hl.1 rfl (lv_room (Nat.le_of_ble_eq_true rfl)) d_PC_place_19 ⟨Nat.le_of_ble_eq_true rfl, Nat.le_of_ble_eq_true rfl⟩)) (fun r_9 er_9 => ?_)
      have er_9 : r_9 = f_PC_isPlace yy := er_9
      refine lv_if_eq (tgt := 33) hx hb d_PC_place_22 (by decide) (fun c_10 => ?_) (fun c_10 => ?_)
      · have c_10 : r_9 = 0 := c_10
        refine lv_iconst (v := 0) hx hb d_PC_place_33 (by decide) ?_
        subst er_1
        subst er_5
        subst er_9
        have ew_11 : f_PC_place_r gin ix xx yy zz = 0 := by rw [f_PC_place_r, if_neg c_2, if_neg c_6, if_pos c_10]
        have ew_12 : f_PC_place_2 gin gif ix xx yy zz = gif := by rw [f_PC_place_2, if_neg c_2, if_neg c_6, if_pos c_10]
        exact W.zret (v := 0) hx hb hr (by decide) (fun t ht hW => ⟨⟨_, (), rfl, by rw [f_PC_place_r, if_neg c_2, if_neg c_6, if_pos c_10], by rw [ht, ew_12]; exact hP, by rw [ew_12]; exact hD⟩, hS.F ht⟩) hS.2.2 d_PC_place_34
      · have c_10 : ¬ (r_9 = 0) := c_10
        refine lv_iload hx hb d_PC_place_25 (lv_at hl 4 rfl) ?_
        refine vp_callSi (va_Run.run (va_runS (As := [.int zz]) (rest := []) ⟨hx, hb, hml, hown, hts⟩ (c_PC_isPlace l dC dI cJ cI zz) (va_cwS 1 hts (gd_S wd_107 wd_108 wd_33 wd_109) rfl rfl rfl (by decide +kernel) ⟨Nat.le_of_ble_eq_true rfl, Nat.le_of_ble_eq_true rfl⟩) ⟨fb_ro, pre_ro hK hN va_nil⟩ rfl rfl hl.1 rfl (lv_room (Nat.le_of_ble_eq_true rfl)) d_PC_place_27 ⟨Nat.le_of_ble_eq_true rfl, Nat.le_of_ble_eq_true rfl⟩)) (fun r_13 er_13 => ?_)
        have er_13 : r_13 = f_PC_isPlace zz := er_13
        refine lv_if_ne (tgt := 35) hx hb d_PC_place_30 (by decide) (fun c_14 => ?_) (fun c_14 => ?_)
        · have c_14 : ¬ (r_13 = 0) := c_14
          refine lv_aload_n hx hb d_PC_place_35 rfl (lv_at hl 0 rfl) ?_
          refine va_get (D := (dC, dI)) (ci := 0) (v := .ref gi) (C := R_PC) (T := F_PC) (N := 8) hx hb hts (fun w h => mw (i_PC w h)) hown hK hP 0 rfl rfl 3 (by decide) (hts _ (mw wd_84)) (fun _ h9 => h9) rfl d_PC_place_36 ?_
          refine lv_iload_n hx hb d_PC_place_39 rfl (lv_at hl 1 rfl) ?_
          refine lv_iconst (v := 0) hx hb d_PC_place_40 (by decide) ?_
          refine lv_iload_n hx hb d_PC_place_41 rfl (lv_at hl 2 rfl) ?_
          refine lv_i2l hx hb d_PC_place_42 rfl ?_
          have hPc := hP.sub (ws' := [(gi, .inr (1, [.ref gia, .int gin])), (gia, .inl (cJ, 114, .inr (.inl gif)))]) [1, 2] rfl
          have hDc := hD.sub (ws' := [(gi, .inr (1, [.ref gia, .int gin])), (gia, .inl (cJ, 114, .inr (.inl gif)))]) [1, 2] (by decide) rfl
          have hFc := va_free (wc := [(gi, .inr (1, [.ref gia, .int gin])), (gia, .inl (cJ, 114, .inr (.inl gif)))]) hD hS hA [1, 2] rfl
          refine va_callv (va_runVN (As := [.int ix, .int 0, .long xx.toInt64]) (rest := []) ⟨hx, hb, hml, hown, hts⟩ (c_Ri_put l dC dI cJ cI s.heap.size gi gia gin gif ix 0 xx.toInt64) (⟨va_cnB 3 hts (gd_0 wd_113) rfl rfl rfl (hN _ nw_7) (hts _ (mw wd_35)) (by decide +kernel) ⟨Nat.le_of_ble_eq_true rfl, Nat.le_of_ble_eq_true rfl⟩, (hts _ (mw wd_112)), (hts _ (mw wd_2))⟩) ⟨fb_rw, va_recv hK hPc (ci := 1) (q0 := 0) rfl rfl, pre_rw hK hN hPc hDc⟩ rfl rfl hl.1 rfl (lv_room (Nat.le_of_ble_eq_true rfl)) d_PC_place_43 ⟨Nat.le_of_ble_eq_true rfl, Nat.le_of_ble_eq_true rfl⟩) hS (fun q _ h => hFc q h) hFc (fun u t H locs ht hvm hw hB hz1 hk1 hS => ?_)
          obtain ⟨hP1, hD1⟩ := hB
          rw [ht] at hP1
          obtain ⟨hP, hD⟩ := va_join (wr := [(ob, .inr (0, [.int wi, .int hi, .int fo, .ref gi, .ref ke, .ref sp, .ref pi, .ref fa])), (ke, .inr (1, [.ref kea, .int ken])), (kea, .inl (cJ, 114, .inr (.inl kef))), (sp, .inr (1, [.ref spa, .int spn])), (spa, .inl (cJ, 114, .inr (.inl spf))), (pi, .inr (1, [.ref pia, .int pin])), (pia, .inl (cJ, 114, .inr (.inl pif))), (fa, .inr (2, [.ref fas, .ref fat, .ref faa, .int fan])), (fas, .inl (cI, 17, .inl faS)), (fat, .inl (cI, 17, .inl faT)), (faa, .inl (cI, 17, .inl faA))]) (w1 := [(gi, .inr (1, [.ref gia, .int gin])), (gia, .inl (cJ, 114, .inr (.inl (f_Ri_put_1 gin gif ix 0 xx.toInt64))))]) hP hD [1, 2] [0, 3, 4, 5, 6, 7, 8, 9, 10, 11, 12] rfl rfl (by decide) (by decide) hk1 hFc hP1 hD1
          have hP : va_P (dC, dI) cls4 [(ob, .inr (0, [.int wi, .int hi, .int fo, .ref gi, .ref ke, .ref sp, .ref pi, .ref fa])), (gi, .inr (1, [.ref gia, .int gin])), (gia, .inl (cJ, 114, .inr (.inl (f_Ri_put_1 gin gif ix 0 xx.toInt64)))), (ke, .inr (1, [.ref kea, .int ken])), (kea, .inl (cJ, 114, .inr (.inl kef))), (sp, .inr (1, [.ref spa, .int spn])), (spa, .inl (cJ, 114, .inr (.inl spf))), (pi, .inr (1, [.ref pia, .int pin])), (pia, .inl (cJ, 114, .inr (.inl pif))), (fa, .inr (2, [.ref fas, .ref fat, .ref faa, .int fan])), (fas, .inl (cI, 17, .inl faS)), (fat, .inl (cI, 17, .inl faT)), (faa, .inl (cI, 17, .inl faA))] H := hP.sub [0, 11, 12, 1, 2, 3, 4, 5, 6, 7, 8, 9, 10] rfl
          have hD : va_D A [(ob, .inr (0, [.int wi, .int hi, .int fo, .ref gi, .ref ke, .ref sp, .ref pi, .ref fa])), (gi, .inr (1, [.ref gia, .int gin])), (gia, .inl (cJ, 114, .inr (.inl (f_Ri_put_1 gin gif ix 0 xx.toInt64)))), (ke, .inr (1, [.ref kea, .int ken])), (kea, .inl (cJ, 114, .inr (.inl kef))), (sp, .inr (1, [.ref spa, .int spn])), (spa, .inl (cJ, 114, .inr (.inl spf))), (pi, .inr (1, [.ref pia, .int pin])), (pia, .inl (cJ, 114, .inr (.inl pif))), (fa, .inr (2, [.ref fas, .ref fat, .ref faa, .int fan])), (fas, .inl (cI, 17, .inl faS)), (fat, .inl (cI, 17, .inl faT)), (faa, .inl (cI, 17, .inl faA))] := hD.sub [0, 11, 12, 1, 2, 3, 4, 5, 6, 7, 8, 9, 10] (by decide) rfl
          refine lv_aload_n hx hb d_PC_place_46 rfl (lv_at hl 0 rfl) ?_
          refine va_get (D := (dC, dI)) (ci := 0) (v := .ref gi) (C := R_PC) (T := F_PC) (N := 8) hx hb hts (fun w h => mw (i_PC w h)) hown hK hP 0 rfl rfl 3 (by decide) (hts _ (mw wd_84)) (fun _ h9 => h9) rfl d_PC_place_47 ?_
          refine lv_iload_n hx hb d_PC_place_50 rfl (lv_at hl 1 rfl) ?_
          refine lv_iconst (v := 1) hx hb d_PC_place_51 (by decide) ?_
          refine lv_iload_n hx hb d_PC_place_52 rfl (lv_at hl 3 rfl) ?_
          refine lv_i2l hx hb d_PC_place_53 rfl ?_
          have hPc := hP.sub (ws' := [(gi, .inr (1, [.ref gia, .int gin])), (gia, .inl (cJ, 114, .inr (.inl (f_Ri_put_1 gin gif ix 0 xx.toInt64))))]) [1, 2] rfl
          have hDc := hD.sub (ws' := [(gi, .inr (1, [.ref gia, .int gin])), (gia, .inl (cJ, 114, .inr (.inl (f_Ri_put_1 gin gif ix 0 xx.toInt64))))]) [1, 2] (by decide) rfl
          have hFc := va_free (wc := [(gi, .inr (1, [.ref gia, .int gin])), (gia, .inl (cJ, 114, .inr (.inl (f_Ri_put_1 gin gif ix 0 xx.toInt64))))]) hD hS hA [1, 2] rfl
          refine va_callv (va_runVN (As := [.int ix, .int 1, .long yy.toInt64]) (rest := []) ⟨hx, hb, hml, hown, hts⟩ (c_Ri_put l dC dI cJ cI H.size gi gia gin (f_Ri_put_1 gin gif ix 0 xx.toInt64) ix 1 yy.toInt64) (⟨va_cnB 3 hts (gd_0 wd_113) rfl rfl rfl (hN _ nw_7) (hts _ (mw wd_35)) (by decide +kernel) ⟨Nat.le_of_ble_eq_true rfl, Nat.le_of_ble_eq_true rfl⟩, (hts _ (mw wd_112)), (hts _ (mw wd_2))⟩) ⟨fb_rw, va_recv hK hPc (ci := 1) (q0 := 0) rfl rfl, pre_rw hK hN hPc hDc⟩ rfl rfl hl.1 rfl (lv_room (Nat.le_of_ble_eq_true rfl)) d_PC_place_54 ⟨Nat.le_of_ble_eq_true rfl, Nat.le_of_ble_eq_true rfl⟩) hS (fun q _ h => hFc q h) hFc (fun u t H locs ht hvm hw hB hz1 hk1 hS => ?_)
          obtain ⟨hP1, hD1⟩ := hB
          rw [ht] at hP1
          obtain ⟨hP, hD⟩ := va_join (wr := [(ob, .inr (0, [.int wi, .int hi, .int fo, .ref gi, .ref ke, .ref sp, .ref pi, .ref fa])), (ke, .inr (1, [.ref kea, .int ken])), (kea, .inl (cJ, 114, .inr (.inl kef))), (sp, .inr (1, [.ref spa, .int spn])), (spa, .inl (cJ, 114, .inr (.inl spf))), (pi, .inr (1, [.ref pia, .int pin])), (pia, .inl (cJ, 114, .inr (.inl pif))), (fa, .inr (2, [.ref fas, .ref fat, .ref faa, .int fan])), (fas, .inl (cI, 17, .inl faS)), (fat, .inl (cI, 17, .inl faT)), (faa, .inl (cI, 17, .inl faA))]) (w1 := [(gi, .inr (1, [.ref gia, .int gin])), (gia, .inl (cJ, 114, .inr (.inl (f_Ri_put_1 gin (f_Ri_put_1 gin gif ix 0 xx.toInt64) ix 1 yy.toInt64))))]) hP hD [1, 2] [0, 3, 4, 5, 6, 7, 8, 9, 10, 11, 12] rfl rfl (by decide) (by decide) hk1 hFc hP1 hD1
          have hP : va_P (dC, dI) cls4 [(ob, .inr (0, [.int wi, .int hi, .int fo, .ref gi, .ref ke, .ref sp, .ref pi, .ref fa])), (gi, .inr (1, [.ref gia, .int gin])), (gia, .inl (cJ, 114, .inr (.inl (f_Ri_put_1 gin (f_Ri_put_1 gin gif ix 0 xx.toInt64) ix 1 yy.toInt64)))), (ke, .inr (1, [.ref kea, .int ken])), (kea, .inl (cJ, 114, .inr (.inl kef))), (sp, .inr (1, [.ref spa, .int spn])), (spa, .inl (cJ, 114, .inr (.inl spf))), (pi, .inr (1, [.ref pia, .int pin])), (pia, .inl (cJ, 114, .inr (.inl pif))), (fa, .inr (2, [.ref fas, .ref fat, .ref faa, .int fan])), (fas, .inl (cI, 17, .inl faS)), (fat, .inl (cI, 17, .inl faT)), (faa, .inl (cI, 17, .inl faA))] H := hP.sub [0, 11, 12, 1, 2, 3, 4, 5, 6, 7, 8, 9, 10] rfl
          have hD : va_D A [(ob, .inr (0, [.int wi, .int hi, .int fo, .ref gi, .ref ke, .ref sp, .ref pi, .ref fa])), (gi, .inr (1, [.ref gia, .int gin])), (gia, .inl (cJ, 114, .inr (.inl (f_Ri_put_1 gin (f_Ri_put_1 gin gif ix 0 xx.toInt64) ix 1 yy.toInt64)))), (ke, .inr (1, [.ref kea, .int ken])), (kea, .inl (cJ, 114, .inr (.inl kef))), (sp, .inr (1, [.ref spa, .int spn])), (spa, .inl (cJ, 114, .inr (.inl spf))), (pi, .inr (1, [.ref pia, .int pin])), (pia, .inl (cJ, 114, .inr (.inl pif))), (fa, .inr (2, [.ref fas, .ref fat, .ref faa, .int fan])), (fas, .inl (cI, 17, .inl faS)), (fat, .inl (cI, 17, .inl faT)), (faa, .inl (cI, 17, .inl faA))] := hD.sub [0, 11, 12, 1, 2, 3, 4, 5, 6, 7, 8, 9, 10] (by decide) rfl
          refine lv_aload_n hx hb d_PC_place_57 rfl (lv_at hl 0 rfl) ?_
          refine va_get (D := (dC, dI)) (ci := 0) (v := .ref gi) (C := R_PC) (T := F_PC) (N := 8) hx hb hts (fun w h => mw (i_PC w h)) hown hK hP 0 rfl rfl 3 (by decide) (hts _ (mw wd_84)) (fun _ h9 => h9) rfl d_PC_place_58 ?_
          refine lv_iload_n hx hb d_PC_place_61 rfl (lv_at hl 1 rfl) ?_
          refine lv_iconst (v := 2) hx hb d_PC_place_62 (by decide) ?_
          refine lv_iload hx hb d_PC_place_63 (lv_at hl 4 rfl) ?_
          refine lv_i2l hx hb d_PC_place_65 rfl ?_
          have hPc := hP.sub (ws' := [(gi, .inr (1, [.ref gia, .int gin])), (gia, .inl (cJ, 114, .inr (.inl (f_Ri_put_1 gin (f_Ri_put_1 gin gif ix 0 xx.toInt64) ix 1 yy.toInt64))))]) [1, 2] rfl
          have hDc := hD.sub (ws' := [(gi, .inr (1, [.ref gia, .int gin])), (gia, .inl (cJ, 114, .inr (.inl (f_Ri_put_1 gin (f_Ri_put_1 gin gif ix 0 xx.toInt64) ix 1 yy.toInt64))))]) [1, 2] (by decide) rfl
          have hFc := va_free (wc := [(gi, .inr (1, [.ref gia, .int gin])), (gia, .inl (cJ, 114, .inr (.inl (f_Ri_put_1 gin (f_Ri_put_1 gin gif ix 0 xx.toInt64) ix 1 yy.toInt64))))]) hD hS hA [1, 2] rfl
          refine va_callv (va_runVN (As := [.int ix, .int 2, .long zz.toInt64]) (rest := []) ⟨hx, hb, hml, hown, hts⟩ (c_Ri_put l dC dI cJ cI H.size gi gia gin (f_Ri_put_1 gin (f_Ri_put_1 gin gif ix 0 xx.toInt64) ix 1 yy.toInt64) ix 2 zz.toInt64) (⟨va_cnB 3 hts (gd_0 wd_113) rfl rfl rfl (hN _ nw_7) (hts _ (mw wd_35)) (by decide +kernel) ⟨Nat.le_of_ble_eq_true rfl, Nat.le_of_ble_eq_true rfl⟩, (hts _ (mw wd_112)), (hts _ (mw wd_2))⟩) ⟨fb_rw, va_recv hK hPc (ci := 1) (q0 := 0) rfl rfl, pre_rw hK hN hPc hDc⟩ rfl rfl hl.1 rfl (lv_room (Nat.le_of_ble_eq_true rfl)) d_PC_place_66 ⟨Nat.le_of_ble_eq_true rfl, Nat.le_of_ble_eq_true rfl⟩) hS (fun q _ h => hFc q h) hFc (fun u t H locs ht hvm hw hB hz1 hk1 hS => ?_)
          obtain ⟨hP1, hD1⟩ := hB
          rw [ht] at hP1
          obtain ⟨hP, hD⟩ := va_join (wr := [(ob, .inr (0, [.int wi, .int hi, .int fo, .ref gi, .ref ke, .ref sp, .ref pi, .ref fa])), (ke, .inr (1, [.ref kea, .int ken])), (kea, .inl (cJ, 114, .inr (.inl kef))), (sp, .inr (1, [.ref spa, .int spn])), (spa, .inl (cJ, 114, .inr (.inl spf))), (pi, .inr (1, [.ref pia, .int pin])), (pia, .inl (cJ, 114, .inr (.inl pif))), (fa, .inr (2, [.ref fas, .ref fat, .ref faa, .int fan])), (fas, .inl (cI, 17, .inl faS)), (fat, .inl (cI, 17, .inl faT)), (faa, .inl (cI, 17, .inl faA))]) (w1 := [(gi, .inr (1, [.ref gia, .int gin])), (gia, .inl (cJ, 114, .inr (.inl (f_Ri_put_1 gin (f_Ri_put_1 gin (f_Ri_put_1 gin gif ix 0 xx.toInt64) ix 1 yy.toInt64) ix 2 zz.toInt64))))]) hP hD [1, 2] [0, 3, 4, 5, 6, 7, 8, 9, 10, 11, 12] rfl rfl (by decide) (by decide) hk1 hFc hP1 hD1
          have hP : va_P (dC, dI) cls4 [(ob, .inr (0, [.int wi, .int hi, .int fo, .ref gi, .ref ke, .ref sp, .ref pi, .ref fa])), (gi, .inr (1, [.ref gia, .int gin])), (gia, .inl (cJ, 114, .inr (.inl (f_Ri_put_1 gin (f_Ri_put_1 gin (f_Ri_put_1 gin gif ix 0 xx.toInt64) ix 1 yy.toInt64) ix 2 zz.toInt64)))), (ke, .inr (1, [.ref kea, .int ken])), (kea, .inl (cJ, 114, .inr (.inl kef))), (sp, .inr (1, [.ref spa, .int spn])), (spa, .inl (cJ, 114, .inr (.inl spf))), (pi, .inr (1, [.ref pia, .int pin])), (pia, .inl (cJ, 114, .inr (.inl pif))), (fa, .inr (2, [.ref fas, .ref fat, .ref faa, .int fan])), (fas, .inl (cI, 17, .inl faS)), (fat, .inl (cI, 17, .inl faT)), (faa, .inl (cI, 17, .inl faA))] H := hP.sub [0, 11, 12, 1, 2, 3, 4, 5, 6, 7, 8, 9, 10] rfl
          have hD : va_D A [(ob, .inr (0, [.int wi, .int hi, .int fo, .ref gi, .ref ke, .ref sp, .ref pi, .ref fa])), (gi, .inr (1, [.ref gia, .int gin])), (gia, .inl (cJ, 114, .inr (.inl (f_Ri_put_1 gin (f_Ri_put_1 gin (f_Ri_put_1 gin gif ix 0 xx.toInt64) ix 1 yy.toInt64) ix 2 zz.toInt64)))), (ke, .inr (1, [.ref kea, .int ken])), (kea, .inl (cJ, 114, .inr (.inl kef))), (sp, .inr (1, [.ref spa, .int spn])), (spa, .inl (cJ, 114, .inr (.inl spf))), (pi, .inr (1, [.ref pia, .int pin])), (pia, .inl (cJ, 114, .inr (.inl pif))), (fa, .inr (2, [.ref fas, .ref fat, .ref faa, .int fan])), (fas, .inl (cI, 17, .inl faS)), (fat, .inl (cI, 17, .inl faT)), (faa, .inl (cI, 17, .inl faA))] := hD.sub [0, 11, 12, 1, 2, 3, 4, 5, 6, 7, 8, 9, 10] (by decide) rfl
          refine lv_iconst (v := 1) hx hb d_PC_place_69 (by decide) ?_
          subst er_1
          subst er_5
          subst er_9
          subst er_13
          have ew_15 : f_PC_place_r gin ix xx yy zz = 1 := by rw [f_PC_place_r, if_neg c_2, if_neg c_6, if_neg c_10, if_neg c_14]
          have ew_16 : f_PC_place_2 gin gif ix xx yy zz = f_Ri_put_1 gin (f_Ri_put_1 gin (f_Ri_put_1 gin gif ix 0 xx.toInt64) ix 1 yy.toInt64) ix 2 zz.toInt64 := by rw [f_PC_place_2, if_neg c_2, if_neg c_6, if_neg c_10, if_neg c_14]
          exact W.zret (v := 1) hx hb hr (by decide) (fun t ht hW => ⟨⟨_, (), rfl, by rw [f_PC_place_r, if_neg c_2, if_neg c_6, if_neg c_10, if_neg c_14], by rw [ht, ew_16]; exact hP, by rw [ew_16]; exact hD⟩, hS.F ht⟩) hS.2.2 d_PC_place_70
        · have c_14 : r_13 = 0 := c_14
          refine lv_iconst (v := 0) hx hb d_PC_place_33 (by decide) ?_
          subst er_1
          subst er_5
          subst er_9
          subst er_13
          have ew_17 : f_PC_place_r gin ix xx yy zz = 0 := by rw [f_PC_place_r, if_neg c_2, if_neg c_6, if_neg c_10, if_pos c_14]
          have ew_18 : f_PC_place_2 gin gif ix xx yy zz = gif := by rw [f_PC_place_2, if_neg c_2, if_neg c_6, if_neg c_10, if_pos c_14]
          exact W.zret (v := 0) hx hb hr (by decide) (fun t ht hW => ⟨⟨_, (), rfl, by rw [f_PC_place_r, if_neg c_2, if_neg c_6, if_neg c_10, if_pos c_14], by rw [ht, ew_18]; exact hP, by rw [ew_18]; exact hD⟩, hS.F ht⟩) hS.2.2 d_PC_place_34
def f_PC_paint_r (gin : Int32) (ix : Int32) (uu : Int32) (vv : Int32) (ll : Int32) : Int32 := if (f_Ri_has gin ix) = 0 then 0 else (if (f_PC_isPaint uu) = 0 then 0 else (if (f_PC_isPaint vv) = 0 then 0 else (if ll < 0 then 0 else (if ll ≤ 65536 then 1 else 0))))
def f_PC_paint_2 (gin : Int32) (gif : Nat → Int64) (ix : Int32) (uu : Int32) (vv : Int32) (ll : Int32) : Nat → Int64 := if (f_Ri_has gin ix) = 0 then gif else (if (f_PC_isPaint uu) = 0 then gif else (if (f_PC_isPaint vv) = 0 then gif else (if ll < 0 then gif else (if ll ≤ 65536 then (f_Ri_put_1 gin (f_Ri_put_1 gin (f_Ri_put_1 gin gif ix 3 uu.toInt64) ix 4 vv.toInt64) ix 5 ll.toInt64) else gif))))
set_option maxHeartbeats 4000000 in
set_option maxRecDepth 100000 in
theorem c_PC_paint (l : Launch) (dC : Nat → ClassId) (dI : Nat → Nat → Nat) (cJ cI : ClassId) (sz : Nat) (ob : Nat) (wi : Int32) (hi : Int32) (fo : Int32) (gi : Nat) (gia : Nat) (gin : Int32) (gif : Nat → Int64) (ke : Nat) (kea : Nat) (ken : Int32) (kef : Nat → Int64) (sp : Nat) (spa : Nat) (spn : Int32) (spf : Nat → Int64) (pi : Nat) (pia : Nat) (pin : Int32) (pif : Nat → Int64) (fa : Nat) (fas : Nat) (fat : Nat) (faa : Nat) (fan : Int32) (faS : Nat → Int32) (faT : Nat → Int32) (faA : Nat → Int32) (ix : Int32) (uu : Int32) (vv : Int32) (ll : Int32) : Met l y_PC_paint w_PC_paint ({ frames := 2, cells := 0, slots := 0, locals := 45 } : Room) (rq_rw (dC, dI) cJ cI sz [.ref ob, .int ix, .int uu, .int vv, .int ll] [(ob, .inr (0, [.int wi, .int hi, .int fo, .ref gi, .ref ke, .ref sp, .ref pi, .ref fa])), (gi, .inr (1, [.ref gia, .int gin])), (gia, .inl (cJ, 114, .inr (.inl gif))), (ke, .inr (1, [.ref kea, .int ken])), (kea, .inl (cJ, 114, .inr (.inl kef))), (sp, .inr (1, [.ref spa, .int spn])), (spa, .inl (cJ, 114, .inr (.inl spf))), (pi, .inr (1, [.ref pia, .int pin])), (pia, .inl (cJ, 114, .inr (.inl pif))), (fa, .inr (2, [.ref fas, .ref fat, .ref faa, .int fan])), (fas, .inl (cI, 17, .inl faS)), (fat, .inl (cI, 17, .inl faT)), (faa, .inl (cI, 17, .inl faA))]) (va_Qi (fun (r : Int32) (_ : Unit) => r = f_PC_paint_r gin ix uu vv ll) (rz (dC, dI) (va_A [(ob, .inr (0, [.int wi, .int hi, .int fo, .ref gi, .ref ke, .ref sp, .ref pi, .ref fa])), (gi, .inr (1, [.ref gia, .int gin])), (gia, .inl (cJ, 114, .inr (.inl gif))), (ke, .inr (1, [.ref kea, .int ken])), (kea, .inl (cJ, 114, .inr (.inl kef))), (sp, .inr (1, [.ref spa, .int spn])), (spa, .inl (cJ, 114, .inr (.inl spf))), (pi, .inr (1, [.ref pia, .int pin])), (pia, .inl (cJ, 114, .inr (.inl pif))), (fa, .inr (2, [.ref fas, .ref fat, .ref faa, .int fan])), (fas, .inl (cI, 17, .inl faS)), (fat, .inl (cI, 17, .inl faT)), (faa, .inl (cI, 17, .inl faA))] sz) [(ob, .inr (0, [.int wi, .int hi, .int fo, .ref gi, .ref ke, .ref sp, .ref pi, .ref fa])), (gi, .inr (1, [.ref gia, .int gin])), (gia, .inl (cJ, 114, .inr (.inl (f_PC_paint_2 gin gif ix uu vv ll)))), (ke, .inr (1, [.ref kea, .int ken])), (kea, .inl (cJ, 114, .inr (.inl kef))), (sp, .inr (1, [.ref spa, .int spn])), (spa, .inl (cJ, 114, .inr (.inl spf))), (pi, .inr (1, [.ref pia, .int pin])), (pia, .inl (cJ, 114, .inr (.inl pif))), (fa, .inr (2, [.ref fas, .ref fat, .ref faa, .int fan])), (fas, .inl (cI, 17, .inl faS)), (fat, .inl (cI, 17, .inl faT)), (faa, .inl (cI, 17, .inl faA))]) (va_A [(ob, .inr (0, [.int wi, .int hi, .int fo, .ref gi, .ref ke, .ref sp, .ref pi, .ref fa])), (gi, .inr (1, [.ref gia, .int gin])), (gia, .inl (cJ, 114, .inr (.inl gif))), (ke, .inr (1, [.ref kea, .int ken])), (kea, .inl (cJ, 114, .inr (.inl kef))), (sp, .inr (1, [.ref spa, .int spn])), (spa, .inl (cJ, 114, .inr (.inl spf))), (pi, .inr (1, [.ref pia, .int pin])), (pia, .inl (cJ, 114, .inr (.inl pif))), (fa, .inr (2, [.ref fas, .ref fat, .ref faa, .int fan])), (fas, .inl (cI, 17, .inl faS)), (fat, .inl (cI, 17, .inl faT)), (faa, .inl (cI, 17, .inl faA))] sz)) 0 0 (va_A [(ob, .inr (0, [.int wi, .int hi, .int fo, .ref gi, .ref ke, .ref sp, .ref pi, .ref fa])), (gi, .inr (1, [.ref gia, .int gin])), (gia, .inl (cJ, 114, .inr (.inl gif))), (ke, .inr (1, [.ref kea, .int ken])), (kea, .inl (cJ, 114, .inr (.inl kef))), (sp, .inr (1, [.ref spa, .int spn])), (spa, .inl (cJ, 114, .inr (.inl spf))), (pi, .inr (1, [.ref pia, .int pin])), (pia, .inl (cJ, 114, .inr (.inl pif))), (fa, .inr (2, [.ref fas, .ref fat, .ref faa, .int fan])), (fas, .inl (cI, 17, .inl faS)), (fat, .inl (cI, 17, .inl faT)), (faa, .inl (cI, 17, .inl faA))] sz) := by
  refine Met.ofW (cc := b_PC_paint) (maxL := 5) (ret := (some .boolean)) (by decide) rfl ?_
  intro p e s m args below meth c s₁ B hml hv
  obtain ⟨rfl, hsz, hP, hK, hN, hD0⟩ := hv
  have hx := B.exec
  have hb := B.bytes
  have hr := B.returns
  have hts := atoms_spec (ws := w_PC_paint) B.pre
  have hown : s.vm.findClass R_PC = some m.cls := findClass_of_methodNamed B.named
  have hlocks := B.notSynchronized
  subst hsz
  have hD := hD0.self (sz := s.heap.size)
  generalize hAe : va_A [(ob, .inr (0, [.int wi, .int hi, .int fo, .ref gi, .ref ke, .ref sp, .ref pi, .ref fa])), (gi, .inr (1, [.ref gia, .int gin])), (gia, .inl (cJ, 114, .inr (.inl gif))), (ke, .inr (1, [.ref kea, .int ken])), (kea, .inl (cJ, 114, .inr (.inl kef))), (sp, .inr (1, [.ref spa, .int spn])), (spa, .inl (cJ, 114, .inr (.inl spf))), (pi, .inr (1, [.ref pia, .int pin])), (pia, .inl (cJ, 114, .inr (.inl pif))), (fa, .inr (2, [.ref fas, .ref fat, .ref faa, .int fan])), (fas, .inl (cI, 17, .inl faS)), (fat, .inl (cI, 17, .inl faT)), (faa, .inl (cI, 17, .inl faA))] s.heap.size = A at hD ⊢
  have hA : ∀ q : Nat, s.heap.size ≤ q → A q := fun q h => by rw [← hAe]; exact Or.inr h
  have hS : va_S A s.heap s.heap [] := va_S.rf
  have hl := lv_entry ([.ref ob, .int ix, .int uu, .int vv, .int ll]) (n := 5) (Nat.le_of_ble_eq_true rfl)
  rw [lg_entry_eq]
  generalize (lg_sl ([.ref ob, .int ix, .int uu, .int vv, .int ll]) ++ List.replicate (5 - (lg_sl ([.ref ob, .int ix, .int uu, .int vv, .int ll])).length) Slot.unset).toArray = ls at hl ⊢
  have hl : lv_has ls 5 [(0, .ref ob), (1, .int ix), (2, .int uu), (3, .int vv), (4, .int ll)] := hl
  have hP : va_P (dC, dI) cls4 [(ob, .inr (0, [.int wi, .int hi, .int fo, .ref gi, .ref ke, .ref sp, .ref pi, .ref fa])), (gi, .inr (1, [.ref gia, .int gin])), (gia, .inl (cJ, 114, .inr (.inl gif))), (ke, .inr (1, [.ref kea, .int ken])), (kea, .inl (cJ, 114, .inr (.inl kef))), (sp, .inr (1, [.ref spa, .int spn])), (spa, .inl (cJ, 114, .inr (.inl spf))), (pi, .inr (1, [.ref pia, .int pin])), (pia, .inl (cJ, 114, .inr (.inl pif))), (fa, .inr (2, [.ref fas, .ref fat, .ref faa, .int fan])), (fas, .inl (cI, 17, .inl faS)), (fat, .inl (cI, 17, .inl faT)), (faa, .inl (cI, 17, .inl faA))] s.heap := hP
  refine lv_aload_n hx hb d_PC_paint_0 rfl (lv_at hl 0 rfl) ?_
  refine va_get (D := (dC, dI)) (ci := 0) (v := .ref gi) (C := R_PC) (T := F_PC) (N := 8) hx hb hts (fun w h => mw (i_PC w h)) hown hK hP 0 rfl rfl 3 (by decide) (hts _ (mw wd_84)) (fun _ h9 => h9) rfl d_PC_paint_1 ?_
  refine lv_iload_n hx hb d_PC_paint_4 rfl (lv_at hl 1 rfl) ?_
  have hPc := hP.sub (ws' := [(gi, .inr (1, [.ref gia, .int gin])), (gia, .inl (cJ, 114, .inr (.inl gif)))]) [1, 2] rfl
  refine vp_callSi (va_Run.run (va_runVN (As := [.int ix]) (rest := []) ⟨hx, hb, hml, hown, hts⟩ (c_Ri_has l dC dI cJ cI gi gia gin gif ix) (⟨va_cnB 1 hts (gd_0 wd_106) rfl rfl rfl (hN _ nw_6) (hts _ (mw wd_35)) (by decide +kernel) ⟨Nat.le_of_ble_eq_true rfl, Nat.le_of_ble_eq_true rfl⟩, (hts _ (mw wd_105)), (hts _ (mw wd_1))⟩) ⟨fb_ro, va_recv hK hPc (ci := 1) (q0 := 0) rfl rfl, pre_ro hK hN hPc⟩ rfl rfl hl.1 rfl (lv_room (Nat.le_of_ble_eq_true rfl)) d_PC_paint_5 ⟨Nat.le_of_ble_eq_true rfl, Nat.le_of_ble_eq_true rfl⟩)) (fun r_1 er_1 => ?_)
  have er_1 : r_1 = f_Ri_has gin ix := er_1
  refine lv_if_eq (tgt := 37) hx hb d_PC_paint_8 (by decide) (fun c_2 => ?_) (fun c_2 => ?_)
  · have c_2 : r_1 = 0 := c_2
    refine lv_iconst (v := 0) hx hb d_PC_paint_37 (by decide) ?_
    subst er_1
    have ew_3 : f_PC_paint_r gin ix uu vv ll = 0 := by rw [f_PC_paint_r, if_pos c_2]
    have ew_4 : f_PC_paint_2 gin gif ix uu vv ll = gif := by rw [f_PC_paint_2, if_pos c_2]
    exact W.zret (v := 0) hx hb hr (by decide) (fun t ht hW => ⟨⟨_, (), rfl, by rw [f_PC_paint_r, if_pos c_2], by rw [ht, ew_4]; exact hP, by rw [ew_4]; exact hD⟩, hS.F ht⟩) hS.2.2 d_PC_paint_38
  · have c_2 : ¬ (r_1 = 0) := c_2
    refine lv_iload_n hx hb d_PC_paint_11 rfl (lv_at hl 2 rfl) ?_
    refine vp_callSi (va_Run.run (va_runS (As := [.int uu]) (rest := []) ⟨hx, hb, hml, hown, hts⟩ (c_PC_isPaint l dC dI cJ cI uu) (va_cwS 1 hts (gd_S wd_119 wd_120 wd_33 wd_121) rfl rfl rfl (by decide +kernel) ⟨Nat.le_of_ble_eq_true rfl, Nat.le_of_ble_eq_true rfl⟩) ⟨fb_ro, pre_ro hK hN va_nil⟩ rfl rfl hl.1 rfl (lv_room (Nat.le_of_ble_eq_true rfl)) d_PC_paint_12 ⟨Nat.le_of_ble_eq_true rfl, Nat.le_of_ble_eq_true rfl⟩)) (fun r_5 er_5 => ?_)
    have er_5 : r_5 = f_PC_isPaint uu := er_5
    refine lv_if_eq (tgt := 37) hx hb d_PC_paint_15 (by decide) (fun c_6 => ?_) (fun c_6 => ?_)
    · have c_6 : r_5 = 0 := c_6
      refine lv_iconst (v := 0) hx hb d_PC_paint_37 (by decide) ?_
      subst er_1
      subst er_5
      have ew_7 : f_PC_paint_r gin ix uu vv ll = 0 := by rw [f_PC_paint_r, if_neg c_2, if_pos c_6]
      have ew_8 : f_PC_paint_2 gin gif ix uu vv ll = gif := by rw [f_PC_paint_2, if_neg c_2, if_pos c_6]
      exact W.zret (v := 0) hx hb hr (by decide) (fun t ht hW => ⟨⟨_, (), rfl, by rw [f_PC_paint_r, if_neg c_2, if_pos c_6], by rw [ht, ew_8]; exact hP, by rw [ew_8]; exact hD⟩, hS.F ht⟩) hS.2.2 d_PC_paint_38
    · have c_6 : ¬ (r_5 = 0) := c_6
      refine lv_iload_n hx hb d_PC_paint_18 rfl (lv_at hl 3 rfl) ?_
      refine vp_callSi (va_Run.run (va_runS (As := [.int vv]) (rest := []) ⟨hx, hb, hml, hown, hts⟩ (c_PC_isPaint l dC dI cJ cI vv) (va_cwS 1 hts (gd_S wd_119 wd_120 wd_33 wd_121) rfl rfl rfl (by decide +kernel) ⟨Nat.le_of_ble_eq_true rfl, Nat.le_of_ble_eq_true rfl⟩) ⟨fb_ro, pre_ro hK hN va_nil⟩ rfl rfl hl.1 rfl (lv_room (Nat.le_of_ble_eq_true rfl)) d_PC_paint_19 ⟨Nat.le_of_ble_eq_true rfl, Nat.le_of_ble_eq_true rfl⟩)) (fun r_9 er_9 => ?_)
      have er_9 : r_9 = f_PC_isPaint vv := er_9
      refine lv_if_eq (tgt := 37) hx hb d_PC_paint_22 (by decide) (fun c_10 => ?_) (fun c_10 => ?_)
      · have c_10 : r_9 = 0 := c_10
        refine lv_iconst (v := 0) hx hb d_PC_paint_37 (by decide) ?_
        subst er_1
        subst er_5
        subst er_9
        have ew_11 : f_PC_paint_r gin ix uu vv ll = 0 := by rw [f_PC_paint_r, if_neg c_2, if_neg c_6, if_pos c_10]
        have ew_12 : f_PC_paint_2 gin gif ix uu vv ll = gif := by rw [f_PC_paint_2, if_neg c_2, if_neg c_6, if_pos c_10]
        exact W.zret (v := 0) hx hb hr (by decide) (fun t ht hW => ⟨⟨_, (), rfl, by rw [f_PC_paint_r, if_neg c_2, if_neg c_6, if_pos c_10], by rw [ht, ew_12]; exact hP, by rw [ew_12]; exact hD⟩, hS.F ht⟩) hS.2.2 d_PC_paint_38
      · have c_10 : ¬ (r_9 = 0) := c_10
        refine lv_iload hx hb d_PC_paint_25 (lv_at hl 4 rfl) ?_
        refine lv_if_lt (tgt := 37) hx hb d_PC_paint_27 (by decide) (fun c_13 => ?_) (fun c_13 => ?_)
        · have c_13 : ll < 0 := c_13
          refine lv_iconst (v := 0) hx hb d_PC_paint_37 (by decide) ?_
          subst er_1
          subst er_5
          subst er_9
          have ew_14 : f_PC_paint_r gin ix uu vv ll = 0 := by rw [f_PC_paint_r, if_neg c_2, if_neg c_6, if_neg c_10, if_pos c_13]
          have ew_15 : f_PC_paint_2 gin gif ix uu vv ll = gif := by rw [f_PC_paint_2, if_neg c_2, if_neg c_6, if_neg c_10, if_pos c_13]
          exact W.zret (v := 0) hx hb hr (by decide) (fun t ht hW => ⟨⟨_, (), rfl, by rw [f_PC_paint_r, if_neg c_2, if_neg c_6, if_neg c_10, if_pos c_13], by rw [ht, ew_15]; exact hP, by rw [ew_15]; exact hD⟩, hS.F ht⟩) hS.2.2 d_PC_paint_38
        · have c_13 : ¬ (ll < 0) := c_13
          refine lv_iload hx hb d_PC_paint_30 (lv_at hl 4 rfl) ?_
          refine lv_ldc hx hb hown (hts _ (mw wd_124)) d_PC_paint_32 ?_
          refine lv_icmp_le (tgt := 39) hx hb d_PC_paint_34 (by decide) (fun c_16 => ?_) (fun c_16 => ?_)
          · have c_16 : ll ≤ 65536 := c_16
            refine lv_aload_n hx hb d_PC_paint_39 rfl (lv_at hl 0 rfl) ?_
            refine va_get (D := (dC, dI)) (ci := 0) (v := .ref gi) (C := R_PC) (T := F_PC) (N := 8) hx hb hts (fun w h => mw (i_PC w h)) hown hK hP 0 rfl rfl 3 (by decide) (hts _ (mw wd_84)) (fun _ h9 => h9) rfl d_PC_paint_40 ?_
            refine lv_iload_n hx hb d_PC_paint_43 rfl (lv_at hl 1 rfl) ?_
            refine lv_iconst (v := 3) hx hb d_PC_paint_44 (by decide) ?_
            refine lv_iload_n hx hb d_PC_paint_45 rfl (lv_at hl 2 rfl) ?_
            refine lv_i2l hx hb d_PC_paint_46 rfl ?_
            have hPc := hP.sub (ws' := [(gi, .inr (1, [.ref gia, .int gin])), (gia, .inl (cJ, 114, .inr (.inl gif)))]) [1, 2] rfl
            have hDc := hD.sub (ws' := [(gi, .inr (1, [.ref gia, .int gin])), (gia, .inl (cJ, 114, .inr (.inl gif)))]) [1, 2] (by decide) rfl
            have hFc := va_free (wc := [(gi, .inr (1, [.ref gia, .int gin])), (gia, .inl (cJ, 114, .inr (.inl gif)))]) hD hS hA [1, 2] rfl
            refine va_callv (va_runVN (As := [.int ix, .int 3, .long uu.toInt64]) (rest := []) ⟨hx, hb, hml, hown, hts⟩ (c_Ri_put l dC dI cJ cI s.heap.size gi gia gin gif ix 3 uu.toInt64) (⟨va_cnB 3 hts (gd_0 wd_113) rfl rfl rfl (hN _ nw_7) (hts _ (mw wd_35)) (by decide +kernel) ⟨Nat.le_of_ble_eq_true rfl, Nat.le_of_ble_eq_true rfl⟩, (hts _ (mw wd_112)), (hts _ (mw wd_2))⟩) ⟨fb_rw, va_recv hK hPc (ci := 1) (q0 := 0) rfl rfl, pre_rw hK hN hPc hDc⟩ rfl rfl hl.1 rfl (lv_room (Nat.le_of_ble_eq_true rfl)) d_PC_paint_47 ⟨Nat.le_of_ble_eq_true rfl, Nat.le_of_ble_eq_true rfl⟩) hS (fun q _ h => hFc q h) hFc (fun u t H locs ht hvm hw hB hz1 hk1 hS => ?_)
            obtain ⟨hP1, hD1⟩ := hB
            rw [ht] at hP1
            obtain ⟨hP, hD⟩ := va_join (wr := [(ob, .inr (0, [.int wi, .int hi, .int fo, .ref gi, .ref ke, .ref sp, .ref pi, .ref fa])), (ke, .inr (1, [.ref kea, .int ken])), (kea, .inl (cJ, 114, .inr (.inl kef))), (sp, .inr (1, [.ref spa, .int spn])), (spa, .inl (cJ, 114, .inr (.inl spf))), (pi, .inr (1, [.ref pia, .int pin])), (pia, .inl (cJ, 114, .inr (.inl pif))), (fa, .inr (2, [.ref fas, .ref fat, .ref faa, .int fan])), (fas, .inl (cI, 17, .inl faS)), (fat, .inl (cI, 17, .inl faT)), (faa, .inl (cI, 17, .inl faA))]) (w1 := [(gi, .inr (1, [.ref gia, .int gin])), (gia, .inl (cJ, 114, .inr (.inl (f_Ri_put_1 gin gif ix 3 uu.toInt64))))]) hP hD [1, 2] [0, 3, 4, 5, 6, 7, 8, 9, 10, 11, 12] rfl rfl (by decide) (by decide) hk1 hFc hP1 hD1
            have hP : va_P (dC, dI) cls4 [(ob, .inr (0, [.int wi, .int hi, .int fo, .ref gi, .ref ke, .ref sp, .ref pi, .ref fa])), (gi, .inr (1, [.ref gia, .int gin])), (gia, .inl (cJ, 114, .inr (.inl (f_Ri_put_1 gin gif ix 3 uu.toInt64)))), (ke, .inr (1, [.ref kea, .int ken])), (kea, .inl (cJ, 114, .inr (.inl kef))), (sp, .inr (1, [.ref spa, .int spn])), (spa, .inl (cJ, 114, .inr (.inl spf))), (pi, .inr (1, [.ref pia, .int pin])), (pia, .inl (cJ, 114, .inr (.inl pif))), (fa, .inr (2, [.ref fas, .ref fat, .ref faa, .int fan])), (fas, .inl (cI, 17, .inl faS)), (fat, .inl (cI, 17, .inl faT)), (faa, .inl (cI, 17, .inl faA))] H := hP.sub [0, 11, 12, 1, 2, 3, 4, 5, 6, 7, 8, 9, 10] rfl
            have hD : va_D A [(ob, .inr (0, [.int wi, .int hi, .int fo, .ref gi, .ref ke, .ref sp, .ref pi, .ref fa])), (gi, .inr (1, [.ref gia, .int gin])), (gia, .inl (cJ, 114, .inr (.inl (f_Ri_put_1 gin gif ix 3 uu.toInt64)))), (ke, .inr (1, [.ref kea, .int ken])), (kea, .inl (cJ, 114, .inr (.inl kef))), (sp, .inr (1, [.ref spa, .int spn])), (spa, .inl (cJ, 114, .inr (.inl spf))), (pi, .inr (1, [.ref pia, .int pin])), (pia, .inl (cJ, 114, .inr (.inl pif))), (fa, .inr (2, [.ref fas, .ref fat, .ref faa, .int fan])), (fas, .inl (cI, 17, .inl faS)), (fat, .inl (cI, 17, .inl faT)), (faa, .inl (cI, 17, .inl faA))] := hD.sub [0, 11, 12, 1, 2, 3, 4, 5, 6, 7, 8, 9, 10] (by decide) rfl
            refine lv_aload_n hx hb d_PC_paint_50 rfl (lv_at hl 0 rfl) ?_
            refine va_get (D := (dC, dI)) (ci := 0) (v := .ref gi) (C := R_PC) (T := F_PC) (N := 8) hx hb hts (fun w h => mw (i_PC w h)) hown hK hP 0 rfl rfl 3 (by decide) (hts _ (mw wd_84)) (fun _ h9 => h9) rfl d_PC_paint_51 ?_
            refine lv_iload_n hx hb d_PC_paint_54 rfl (lv_at hl 1 rfl) ?_
            refine lv_iconst (v := 4) hx hb d_PC_paint_55 (by decide) ?_
            refine lv_iload_n hx hb d_PC_paint_56 rfl (lv_at hl 3 rfl) ?_
            refine lv_i2l hx hb d_PC_paint_57 rfl ?_
            have hPc := hP.sub (ws' := [(gi, .inr (1, [.ref gia, .int gin])), (gia, .inl (cJ, 114, .inr (.inl (f_Ri_put_1 gin gif ix 3 uu.toInt64))))]) [1, 2] rfl
            have hDc := hD.sub (ws' := [(gi, .inr (1, [.ref gia, .int gin])), (gia, .inl (cJ, 114, .inr (.inl (f_Ri_put_1 gin gif ix 3 uu.toInt64))))]) [1, 2] (by decide) rfl
            have hFc := va_free (wc := [(gi, .inr (1, [.ref gia, .int gin])), (gia, .inl (cJ, 114, .inr (.inl (f_Ri_put_1 gin gif ix 3 uu.toInt64))))]) hD hS hA [1, 2] rfl
            refine va_callv (va_runVN (As := [.int ix, .int 4, .long vv.toInt64]) (rest := []) ⟨hx, hb, hml, hown, hts⟩ (c_Ri_put l dC dI cJ cI H.size gi gia gin (f_Ri_put_1 gin gif ix 3 uu.toInt64) ix 4 vv.toInt64) (⟨va_cnB 3 hts (gd_0 wd_113) rfl rfl rfl (hN _ nw_7) (hts _ (mw wd_35)) (by decide +kernel) ⟨Nat.le_of_ble_eq_true rfl, Nat.le_of_ble_eq_true rfl⟩, (hts _ (mw wd_112)), (hts _ (mw wd_2))⟩) ⟨fb_rw, va_recv hK hPc (ci := 1) (q0 := 0) rfl rfl, pre_rw hK hN hPc hDc⟩ rfl rfl hl.1 rfl (lv_room (Nat.le_of_ble_eq_true rfl)) d_PC_paint_58 ⟨Nat.le_of_ble_eq_true rfl, Nat.le_of_ble_eq_true rfl⟩) hS (fun q _ h => hFc q h) hFc (fun u t H locs ht hvm hw hB hz1 hk1 hS => ?_)
            obtain ⟨hP1, hD1⟩ := hB
            rw [ht] at hP1
            obtain ⟨hP, hD⟩ := va_join (wr := [(ob, .inr (0, [.int wi, .int hi, .int fo, .ref gi, .ref ke, .ref sp, .ref pi, .ref fa])), (ke, .inr (1, [.ref kea, .int ken])), (kea, .inl (cJ, 114, .inr (.inl kef))), (sp, .inr (1, [.ref spa, .int spn])), (spa, .inl (cJ, 114, .inr (.inl spf))), (pi, .inr (1, [.ref pia, .int pin])), (pia, .inl (cJ, 114, .inr (.inl pif))), (fa, .inr (2, [.ref fas, .ref fat, .ref faa, .int fan])), (fas, .inl (cI, 17, .inl faS)), (fat, .inl (cI, 17, .inl faT)), (faa, .inl (cI, 17, .inl faA))]) (w1 := [(gi, .inr (1, [.ref gia, .int gin])), (gia, .inl (cJ, 114, .inr (.inl (f_Ri_put_1 gin (f_Ri_put_1 gin gif ix 3 uu.toInt64) ix 4 vv.toInt64))))]) hP hD [1, 2] [0, 3, 4, 5, 6, 7, 8, 9, 10, 11, 12] rfl rfl (by decide) (by decide) hk1 hFc hP1 hD1
            have hP : va_P (dC, dI) cls4 [(ob, .inr (0, [.int wi, .int hi, .int fo, .ref gi, .ref ke, .ref sp, .ref pi, .ref fa])), (gi, .inr (1, [.ref gia, .int gin])), (gia, .inl (cJ, 114, .inr (.inl (f_Ri_put_1 gin (f_Ri_put_1 gin gif ix 3 uu.toInt64) ix 4 vv.toInt64)))), (ke, .inr (1, [.ref kea, .int ken])), (kea, .inl (cJ, 114, .inr (.inl kef))), (sp, .inr (1, [.ref spa, .int spn])), (spa, .inl (cJ, 114, .inr (.inl spf))), (pi, .inr (1, [.ref pia, .int pin])), (pia, .inl (cJ, 114, .inr (.inl pif))), (fa, .inr (2, [.ref fas, .ref fat, .ref faa, .int fan])), (fas, .inl (cI, 17, .inl faS)), (fat, .inl (cI, 17, .inl faT)), (faa, .inl (cI, 17, .inl faA))] H := hP.sub [0, 11, 12, 1, 2, 3, 4, 5, 6, 7, 8, 9, 10] rfl
            have hD : va_D A [(ob, .inr (0, [.int wi, .int hi, .int fo, .ref gi, .ref ke, .ref sp, .ref pi, .ref fa])), (gi, .inr (1, [.ref gia, .int gin])), (gia, .inl (cJ, 114, .inr (.inl (f_Ri_put_1 gin (f_Ri_put_1 gin gif ix 3 uu.toInt64) ix 4 vv.toInt64)))), (ke, .inr (1, [.ref kea, .int ken])), (kea, .inl (cJ, 114, .inr (.inl kef))), (sp, .inr (1, [.ref spa, .int spn])), (spa, .inl (cJ, 114, .inr (.inl spf))), (pi, .inr (1, [.ref pia, .int pin])), (pia, .inl (cJ, 114, .inr (.inl pif))), (fa, .inr (2, [.ref fas, .ref fat, .ref faa, .int fan])), (fas, .inl (cI, 17, .inl faS)), (fat, .inl (cI, 17, .inl faT)), (faa, .inl (cI, 17, .inl faA))] := hD.sub [0, 11, 12, 1, 2, 3, 4, 5, 6, 7, 8, 9, 10] (by decide) rfl
            refine lv_aload_n hx hb d_PC_paint_61 rfl (lv_at hl 0 rfl) ?_
            refine va_get (D := (dC, dI)) (ci := 0) (v := .ref gi) (C := R_PC) (T := F_PC) (N := 8) hx hb hts (fun w h => mw (i_PC w h)) hown hK hP 0 rfl rfl 3 (by decide) (hts _ (mw wd_84)) (fun _ h9 => h9) rfl d_PC_paint_62 ?_
            refine lv_iload_n hx hb d_PC_paint_65 rfl (lv_at hl 1 rfl) ?_
            refine lv_iconst (v := 5) hx hb d_PC_paint_66 (by decide) ?_
            refine lv_iload hx hb d_PC_paint_67 (lv_at hl 4 rfl) ?_
            refine lv_i2l hx hb d_PC_paint_69 rfl ?_
            have hPc := hP.sub (ws' := [(gi, .inr (1, [.ref gia, .int gin])), (gia, .inl (cJ, 114, .inr (.inl (f_Ri_put_1 gin (f_Ri_put_1 gin gif ix 3 uu.toInt64) ix 4 vv.toInt64))))]) [1, 2] rfl
            have hDc := hD.sub (ws' := [(gi, .inr (1, [.ref gia, .int gin])), (gia, .inl (cJ, 114, .inr (.inl (f_Ri_put_1 gin (f_Ri_put_1 gin gif ix 3 uu.toInt64) ix 4 vv.toInt64))))]) [1, 2] (by decide) rfl
            have hFc := va_free (wc := [(gi, .inr (1, [.ref gia, .int gin])), (gia, .inl (cJ, 114, .inr (.inl (f_Ri_put_1 gin (f_Ri_put_1 gin gif ix 3 uu.toInt64) ix 4 vv.toInt64))))]) hD hS hA [1, 2] rfl
            refine va_callv (va_runVN (As := [.int ix, .int 5, .long ll.toInt64]) (rest := []) ⟨hx, hb, hml, hown, hts⟩ (c_Ri_put l dC dI cJ cI H.size gi gia gin (f_Ri_put_1 gin (f_Ri_put_1 gin gif ix 3 uu.toInt64) ix 4 vv.toInt64) ix 5 ll.toInt64) (⟨va_cnB 3 hts (gd_0 wd_113) rfl rfl rfl (hN _ nw_7) (hts _ (mw wd_35)) (by decide +kernel) ⟨Nat.le_of_ble_eq_true rfl, Nat.le_of_ble_eq_true rfl⟩, (hts _ (mw wd_112)), (hts _ (mw wd_2))⟩) ⟨fb_rw, va_recv hK hPc (ci := 1) (q0 := 0) rfl rfl, pre_rw hK hN hPc hDc⟩ rfl rfl hl.1 rfl (lv_room (Nat.le_of_ble_eq_true rfl)) d_PC_paint_70 ⟨Nat.le_of_ble_eq_true rfl, Nat.le_of_ble_eq_true rfl⟩) hS (fun q _ h => hFc q h) hFc (fun u t H locs ht hvm hw hB hz1 hk1 hS => ?_)
            obtain ⟨hP1, hD1⟩ := hB
            rw [ht] at hP1
            obtain ⟨hP, hD⟩ := va_join (wr := [(ob, .inr (0, [.int wi, .int hi, .int fo, .ref gi, .ref ke, .ref sp, .ref pi, .ref fa])), (ke, .inr (1, [.ref kea, .int ken])), (kea, .inl (cJ, 114, .inr (.inl kef))), (sp, .inr (1, [.ref spa, .int spn])), (spa, .inl (cJ, 114, .inr (.inl spf))), (pi, .inr (1, [.ref pia, .int pin])), (pia, .inl (cJ, 114, .inr (.inl pif))), (fa, .inr (2, [.ref fas, .ref fat, .ref faa, .int fan])), (fas, .inl (cI, 17, .inl faS)), (fat, .inl (cI, 17, .inl faT)), (faa, .inl (cI, 17, .inl faA))]) (w1 := [(gi, .inr (1, [.ref gia, .int gin])), (gia, .inl (cJ, 114, .inr (.inl (f_Ri_put_1 gin (f_Ri_put_1 gin (f_Ri_put_1 gin gif ix 3 uu.toInt64) ix 4 vv.toInt64) ix 5 ll.toInt64))))]) hP hD [1, 2] [0, 3, 4, 5, 6, 7, 8, 9, 10, 11, 12] rfl rfl (by decide) (by decide) hk1 hFc hP1 hD1
            have hP : va_P (dC, dI) cls4 [(ob, .inr (0, [.int wi, .int hi, .int fo, .ref gi, .ref ke, .ref sp, .ref pi, .ref fa])), (gi, .inr (1, [.ref gia, .int gin])), (gia, .inl (cJ, 114, .inr (.inl (f_Ri_put_1 gin (f_Ri_put_1 gin (f_Ri_put_1 gin gif ix 3 uu.toInt64) ix 4 vv.toInt64) ix 5 ll.toInt64)))), (ke, .inr (1, [.ref kea, .int ken])), (kea, .inl (cJ, 114, .inr (.inl kef))), (sp, .inr (1, [.ref spa, .int spn])), (spa, .inl (cJ, 114, .inr (.inl spf))), (pi, .inr (1, [.ref pia, .int pin])), (pia, .inl (cJ, 114, .inr (.inl pif))), (fa, .inr (2, [.ref fas, .ref fat, .ref faa, .int fan])), (fas, .inl (cI, 17, .inl faS)), (fat, .inl (cI, 17, .inl faT)), (faa, .inl (cI, 17, .inl faA))] H := hP.sub [0, 11, 12, 1, 2, 3, 4, 5, 6, 7, 8, 9, 10] rfl
            have hD : va_D A [(ob, .inr (0, [.int wi, .int hi, .int fo, .ref gi, .ref ke, .ref sp, .ref pi, .ref fa])), (gi, .inr (1, [.ref gia, .int gin])), (gia, .inl (cJ, 114, .inr (.inl (f_Ri_put_1 gin (f_Ri_put_1 gin (f_Ri_put_1 gin gif ix 3 uu.toInt64) ix 4 vv.toInt64) ix 5 ll.toInt64)))), (ke, .inr (1, [.ref kea, .int ken])), (kea, .inl (cJ, 114, .inr (.inl kef))), (sp, .inr (1, [.ref spa, .int spn])), (spa, .inl (cJ, 114, .inr (.inl spf))), (pi, .inr (1, [.ref pia, .int pin])), (pia, .inl (cJ, 114, .inr (.inl pif))), (fa, .inr (2, [.ref fas, .ref fat, .ref faa, .int fan])), (fas, .inl (cI, 17, .inl faS)), (fat, .inl (cI, 17, .inl faT)), (faa, .inl (cI, 17, .inl faA))] := hD.sub [0, 11, 12, 1, 2, 3, 4, 5, 6, 7, 8, 9, 10] (by decide) rfl
            refine lv_iconst (v := 1) hx hb d_PC_paint_73 (by decide) ?_
            subst er_1
            subst er_5
            subst er_9
            have ew_17 : f_PC_paint_r gin ix uu vv ll = 1 := by rw [f_PC_paint_r, if_neg c_2, if_neg c_6, if_neg c_10, if_neg c_13, if_pos c_16]
            have ew_18 : f_PC_paint_2 gin gif ix uu vv ll = f_Ri_put_1 gin (f_Ri_put_1 gin (f_Ri_put_1 gin gif ix 3 uu.toInt64) ix 4 vv.toInt64) ix 5 ll.toInt64 := by rw [f_PC_paint_2, if_neg c_2, if_neg c_6, if_neg c_10, if_neg c_13, if_pos c_16]
            exact W.zret (v := 1) hx hb hr (by decide) (fun t ht hW => ⟨⟨_, (), rfl, by rw [f_PC_paint_r, if_neg c_2, if_neg c_6, if_neg c_10, if_neg c_13, if_pos c_16], by rw [ht, ew_18]; exact hP, by rw [ew_18]; exact hD⟩, hS.F ht⟩) hS.2.2 d_PC_paint_74
          · have c_16 : ¬ (ll ≤ 65536) := c_16
            refine lv_iconst (v := 0) hx hb d_PC_paint_37 (by decide) ?_
            subst er_1
            subst er_5
            subst er_9
            have ew_19 : f_PC_paint_r gin ix uu vv ll = 0 := by rw [f_PC_paint_r, if_neg c_2, if_neg c_6, if_neg c_10, if_neg c_13, if_neg c_16]
            have ew_20 : f_PC_paint_2 gin gif ix uu vv ll = gif := by rw [f_PC_paint_2, if_neg c_2, if_neg c_6, if_neg c_10, if_neg c_13, if_neg c_16]
            exact W.zret (v := 0) hx hb hr (by decide) (fun t ht hW => ⟨⟨_, (), rfl, by rw [f_PC_paint_r, if_neg c_2, if_neg c_6, if_neg c_10, if_neg c_13, if_neg c_16], by rw [ht, ew_20]; exact hP, by rw [ew_20]; exact hD⟩, hS.F ht⟩) hS.2.2 d_PC_paint_38
def f_PC_addBetween_6 (wi : Int32) (hi : Int32) (fo : Int32) (ken : Int32) (kef : Nat → Int64) (spn : Int32) (spf : Nat → Int64) (st : Int32) (le : Int32) (sd : Int32) : Nat → Int64 := f_Ri_put_1 (f_Ri_addRow_0_1 spn) (f_Ri_put_1 (f_Ri_addRow_0_1 spn) (f_Ri_put_1 (f_Ri_addRow_0_1 spn) (f_Ri_put_1 (f_Ri_addRow_0_1 spn) (f_Ri_put_1 (f_Ri_addRow_0_1 spn) (f_Ri_put_1 (f_Ri_addRow_0_1 spn) spf (f_Ri_addRow_r spn) 0 ((f_Ri_at ken kef st 0) + (f_PC_div (((f_Ri_at ken kef le 0) - (f_Ri_at ken kef st 0)) * (f_PC_sideNumber wi hi fo ken kef st sd)) ((f_PC_sideNumber wi hi fo ken kef st sd) - (f_PC_sideNumber wi hi fo ken kef le sd))))) (f_Ri_addRow_r spn) 1 ((f_Ri_at ken kef st 1) + (f_PC_div (((f_Ri_at ken kef le 1) - (f_Ri_at ken kef st 1)) * (f_PC_sideNumber wi hi fo ken kef st sd)) ((f_PC_sideNumber wi hi fo ken kef st sd) - (f_PC_sideNumber wi hi fo ken kef le sd))))) (f_Ri_addRow_r spn) 2 ((f_Ri_at ken kef st 2) + (f_PC_div (((f_Ri_at ken kef le 2) - (f_Ri_at ken kef st 2)) * (f_PC_sideNumber wi hi fo ken kef st sd)) ((f_PC_sideNumber wi hi fo ken kef st sd) - (f_PC_sideNumber wi hi fo ken kef le sd))))) (f_Ri_addRow_r spn) 3 ((f_Ri_at ken kef st 3) + (f_PC_div (((f_Ri_at ken kef le 3) - (f_Ri_at ken kef st 3)) * (f_PC_sideNumber wi hi fo ken kef st sd)) ((f_PC_sideNumber wi hi fo ken kef st sd) - (f_PC_sideNumber wi hi fo ken kef le sd))))) (f_Ri_addRow_r spn) 4 ((f_Ri_at ken kef st 4) + (f_PC_div (((f_Ri_at ken kef le 4) - (f_Ri_at ken kef st 4)) * (f_PC_sideNumber wi hi fo ken kef st sd)) ((f_PC_sideNumber wi hi fo ken kef st sd) - (f_PC_sideNumber wi hi fo ken kef le sd))))) (f_Ri_addRow_r spn) 5 ((f_Ri_at ken kef st 5) + (f_PC_div (((f_Ri_at ken kef le 5) - (f_Ri_at ken kef st 5)) * (f_PC_sideNumber wi hi fo ken kef st sd)) ((f_PC_sideNumber wi hi fo ken kef st sd) - (f_PC_sideNumber wi hi fo ken kef le sd))))
set_option maxHeartbeats 4000000 in
set_option maxRecDepth 100000 in
theorem c_PC_addBetween (l : Launch) (dC : Nat → ClassId) (dI : Nat → Nat → Nat) (cJ cI : ClassId) (sz : Nat) (ob : Nat) (wi : Int32) (hi : Int32) (fo : Int32) (gi : Nat) (gia : Nat) (gin : Int32) (gif : Nat → Int64) (ke : Nat) (kea : Nat) (ken : Int32) (kef : Nat → Int64) (sp : Nat) (spa : Nat) (spn : Int32) (spf : Nat → Int64) (pi : Nat) (pia : Nat) (pin : Int32) (pif : Nat → Int64) (fa : Nat) (fas : Nat) (fat : Nat) (faa : Nat) (fan : Int32) (faS : Nat → Int32) (faT : Nat → Int32) (faA : Nat → Int32) (st : Int32) (le : Int32) (sd : Int32) : Met l y_PC_addBetween w_PC_addBetween ({ frames := 3, cells := 0, slots := 0, locals := 71 } : Room) (rq_rw (dC, dI) cJ cI sz [.ref ob, .int st, .int le, .int sd] [(ob, .inr (0, [.int wi, .int hi, .int fo, .ref gi, .ref ke, .ref sp, .ref pi, .ref fa])), (gi, .inr (1, [.ref gia, .int gin])), (gia, .inl (cJ, 114, .inr (.inl gif))), (ke, .inr (1, [.ref kea, .int ken])), (kea, .inl (cJ, 114, .inr (.inl kef))), (sp, .inr (1, [.ref spa, .int spn])), (spa, .inl (cJ, 114, .inr (.inl spf))), (pi, .inr (1, [.ref pia, .int pin])), (pia, .inl (cJ, 114, .inr (.inl pif))), (fa, .inr (2, [.ref fas, .ref fat, .ref faa, .int fan])), (fas, .inl (cI, 17, .inl faS)), (fat, .inl (cI, 17, .inl faT)), (faa, .inl (cI, 17, .inl faA))]) (va_Qv (fun _ : Unit => True) (rz (dC, dI) (va_A [(ob, .inr (0, [.int wi, .int hi, .int fo, .ref gi, .ref ke, .ref sp, .ref pi, .ref fa])), (gi, .inr (1, [.ref gia, .int gin])), (gia, .inl (cJ, 114, .inr (.inl gif))), (ke, .inr (1, [.ref kea, .int ken])), (kea, .inl (cJ, 114, .inr (.inl kef))), (sp, .inr (1, [.ref spa, .int spn])), (spa, .inl (cJ, 114, .inr (.inl spf))), (pi, .inr (1, [.ref pia, .int pin])), (pia, .inl (cJ, 114, .inr (.inl pif))), (fa, .inr (2, [.ref fas, .ref fat, .ref faa, .int fan])), (fas, .inl (cI, 17, .inl faS)), (fat, .inl (cI, 17, .inl faT)), (faa, .inl (cI, 17, .inl faA))] sz) [(ob, .inr (0, [.int wi, .int hi, .int fo, .ref gi, .ref ke, .ref sp, .ref pi, .ref fa])), (gi, .inr (1, [.ref gia, .int gin])), (gia, .inl (cJ, 114, .inr (.inl gif))), (ke, .inr (1, [.ref kea, .int ken])), (kea, .inl (cJ, 114, .inr (.inl kef))), (sp, .inr (1, [.ref spa, .int (f_Ri_addRow_0_1 spn)])), (spa, .inl (cJ, 114, .inr (.inl (f_PC_addBetween_6 wi hi fo ken kef spn spf st le sd)))), (pi, .inr (1, [.ref pia, .int pin])), (pia, .inl (cJ, 114, .inr (.inl pif))), (fa, .inr (2, [.ref fas, .ref fat, .ref faa, .int fan])), (fas, .inl (cI, 17, .inl faS)), (fat, .inl (cI, 17, .inl faT)), (faa, .inl (cI, 17, .inl faA))]) (va_A [(ob, .inr (0, [.int wi, .int hi, .int fo, .ref gi, .ref ke, .ref sp, .ref pi, .ref fa])), (gi, .inr (1, [.ref gia, .int gin])), (gia, .inl (cJ, 114, .inr (.inl gif))), (ke, .inr (1, [.ref kea, .int ken])), (kea, .inl (cJ, 114, .inr (.inl kef))), (sp, .inr (1, [.ref spa, .int spn])), (spa, .inl (cJ, 114, .inr (.inl spf))), (pi, .inr (1, [.ref pia, .int pin])), (pia, .inl (cJ, 114, .inr (.inl pif))), (fa, .inr (2, [.ref fas, .ref fat, .ref faa, .int fan])), (fas, .inl (cI, 17, .inl faS)), (fat, .inl (cI, 17, .inl faT)), (faa, .inl (cI, 17, .inl faA))] sz)) 0 0 (va_A [(ob, .inr (0, [.int wi, .int hi, .int fo, .ref gi, .ref ke, .ref sp, .ref pi, .ref fa])), (gi, .inr (1, [.ref gia, .int gin])), (gia, .inl (cJ, 114, .inr (.inl gif))), (ke, .inr (1, [.ref kea, .int ken])), (kea, .inl (cJ, 114, .inr (.inl kef))), (sp, .inr (1, [.ref spa, .int spn])), (spa, .inl (cJ, 114, .inr (.inl spf))), (pi, .inr (1, [.ref pia, .int pin])), (pia, .inl (cJ, 114, .inr (.inl pif))), (fa, .inr (2, [.ref fas, .ref fat, .ref faa, .int fan])), (fas, .inl (cI, 17, .inl faS)), (fat, .inl (cI, 17, .inl faT)), (faa, .inl (cI, 17, .inl faA))] sz) := by
  refine Met.ofW (cc := b_PC_addBetween) (maxL := 14) (ret := none) (by decide) rfl ?_
  intro p e s m args below meth c s₁ B hml hv
  obtain ⟨rfl, hsz, hP, hK, hN, hD0⟩ := hv
  have hx := B.exec
  have hb := B.bytes
  have hr := B.returns
  have hts := atoms_spec (ws := w_PC_addBetween) B.pre
  have hown : s.vm.findClass R_PC = some m.cls := findClass_of_methodNamed B.named
  have hlocks := B.notSynchronized
  subst hsz
  have hD := hD0.self (sz := s.heap.size)
  generalize hAe : va_A [(ob, .inr (0, [.int wi, .int hi, .int fo, .ref gi, .ref ke, .ref sp, .ref pi, .ref fa])), (gi, .inr (1, [.ref gia, .int gin])), (gia, .inl (cJ, 114, .inr (.inl gif))), (ke, .inr (1, [.ref kea, .int ken])), (kea, .inl (cJ, 114, .inr (.inl kef))), (sp, .inr (1, [.ref spa, .int spn])), (spa, .inl (cJ, 114, .inr (.inl spf))), (pi, .inr (1, [.ref pia, .int pin])), (pia, .inl (cJ, 114, .inr (.inl pif))), (fa, .inr (2, [.ref fas, .ref fat, .ref faa, .int fan])), (fas, .inl (cI, 17, .inl faS)), (fat, .inl (cI, 17, .inl faT)), (faa, .inl (cI, 17, .inl faA))] s.heap.size = A at hD ⊢
  have hA : ∀ q : Nat, s.heap.size ≤ q → A q := fun q h => by rw [← hAe]; exact Or.inr h
  have hS : va_S A s.heap s.heap [] := va_S.rf
  have hl := lv_entry ([.ref ob, .int st, .int le, .int sd]) (n := 14) (Nat.le_of_ble_eq_true rfl)
  rw [lg_entry_eq]
  generalize (lg_sl ([.ref ob, .int st, .int le, .int sd]) ++ List.replicate (14 - (lg_sl ([.ref ob, .int st, .int le, .int sd])).length) Slot.unset).toArray = ls at hl ⊢
  have hl : lv_has ls 14 [(0, .ref ob), (1, .int st), (2, .int le), (3, .int sd)] := hl
  have hP : va_P (dC, dI) cls4 [(ob, .inr (0, [.int wi, .int hi, .int fo, .ref gi, .ref ke, .ref sp, .ref pi, .ref fa])), (gi, .inr (1, [.ref gia, .int gin])), (gia, .inl (cJ, 114, .inr (.inl gif))), (ke, .inr (1, [.ref kea, .int ken])), (kea, .inl (cJ, 114, .inr (.inl kef))), (sp, .inr (1, [.ref spa, .int spn])), (spa, .inl (cJ, 114, .inr (.inl spf))), (pi, .inr (1, [.ref pia, .int pin])), (pia, .inl (cJ, 114, .inr (.inl pif))), (fa, .inr (2, [.ref fas, .ref fat, .ref faa, .int fan])), (fas, .inl (cI, 17, .inl faS)), (fat, .inl (cI, 17, .inl faT)), (faa, .inl (cI, 17, .inl faA))] s.heap := hP
  refine lv_aload_n hx hb d_PC_addBetween_0 rfl (lv_at hl 0 rfl) ?_
  refine lv_iload_n hx hb d_PC_addBetween_1 rfl (lv_at hl 1 rfl) ?_
  refine lv_iload_n hx hb d_PC_addBetween_2 rfl (lv_at hl 3 rfl) ?_
  have hPc := hP
  refine vp_callSl (va_Run.run (va_runV (As := [.int st, .int sd]) (rest := []) ⟨hx, hb, hml, hown, hts⟩ (c_PC_sideNumber l dC dI cJ cI ob wi hi fo gi gia gin gif ke kea ken kef sp spa spn spf pi pia pin pif fa fas fat faa fan faS faT faA st sd) (cwV 2 hts (gd_V wd_141 wd_142 wd_7 wd_33 wd_143) rfl rfl rfl (by decide +kernel) ⟨Nat.le_of_ble_eq_true rfl, Nat.le_of_ble_eq_true rfl⟩) ⟨fb_ro, va_recv hK hPc (ci := 0) (q0 := 0) rfl rfl, pre_ro hK hN hPc⟩ rfl rfl hl.1 rfl (lv_room (Nat.le_of_ble_eq_true rfl)) d_PC_addBetween_3 ⟨Nat.le_of_ble_eq_true rfl, Nat.le_of_ble_eq_true rfl⟩)) (fun r_1 er_1 => ?_)
  have er_1 : r_1 = f_PC_sideNumber wi hi fo ken kef st sd := er_1
  refine lv_lstore (lv' := [(4, .long r_1), (0, .ref ob), (1, .int st), (2, .int le), (3, .int sd)]) hx hb d_PC_addBetween_6 hl (by decide) rfl (fun ls hl => ?_)
  refine lv_aload_n hx hb d_PC_addBetween_8 rfl (lv_at hl 1 rfl) ?_
  refine lv_iload_n hx hb d_PC_addBetween_9 rfl (lv_at hl 3 rfl) ?_
  refine lv_iload_n hx hb d_PC_addBetween_10 rfl (lv_at hl 4 rfl) ?_
  have hPc := hP
  refine vp_callSl (va_Run.run (va_runV (As := [.int le, .int sd]) (rest := []) ⟨hx, hb, hml, hown, hts⟩ (c_PC_sideNumber l dC dI cJ cI ob wi hi fo gi gia gin gif ke kea ken kef sp spa spn spf pi pia pin pif fa fas fat faa fan faS faT faA le sd) (cwV 2 hts (gd_V wd_141 wd_142 wd_7 wd_33 wd_143) rfl rfl rfl (by decide +kernel) ⟨Nat.le_of_ble_eq_true rfl, Nat.le_of_ble_eq_true rfl⟩) ⟨fb_ro, va_recv hK hPc (ci := 0) (q0 := 0) rfl rfl, pre_ro hK hN hPc⟩ rfl rfl hl.1 rfl (lv_room (Nat.le_of_ble_eq_true rfl)) d_PC_addBetween_11 ⟨Nat.le_of_ble_eq_true rfl, Nat.le_of_ble_eq_true rfl⟩)) (fun r_2 er_2 => ?_)
  have er_2 : r_2 = f_PC_sideNumber wi hi fo ken kef le sd := er_2
  refine lv_lstore (lv' := [(6, .long r_2), (4, .long r_1), (0, .ref ob), (1, .int st), (2, .int le), (3, .int sd)]) hx hb d_PC_addBetween_14 hl (by decide) rfl (fun ls hl => ?_)
  refine lv_aload_n hx hb d_PC_addBetween_16 rfl (lv_at hl 2 rfl) ?_
  refine va_get (D := (dC, dI)) (ci := 0) (v := .ref sp) (C := R_PC) (T := F_PC) (N := 8) hx hb hts (fun w h => mw (i_PC w h)) hown hK hP 0 rfl rfl 5 (by decide) (hts _ (mw wd_86)) (fun _ h9 => h9) rfl d_PC_addBetween_17 ?_
  have hPc := hP.sub (ws' := [(sp, .inr (1, [.ref spa, .int spn])), (spa, .inl (cJ, 114, .inr (.inl spf)))]) [5, 6] rfl
  have hDc := hD.sub (ws' := [(sp, .inr (1, [.ref spa, .int spn])), (spa, .inl (cJ, 114, .inr (.inl spf)))]) [5, 6] (by decide) rfl
  have hFc := va_free (wc := [(sp, .inr (1, [.ref spa, .int spn])), (spa, .inl (cJ, 114, .inr (.inl spf)))]) hD hS hA [5, 6] rfl
  refine va_calli (va_runVN (As := []) (rest := []) ⟨hx, hb, hml, hown, hts⟩ (c_Ri_addRow l dC dI cJ cI s.heap.size sp spa spn spf) (⟨va_cnB 0 hts (gd_0 wd_66) rfl rfl rfl (hN _ nw_2) (hts _ (mw wd_35)) (by decide +kernel) ⟨Nat.le_of_ble_eq_true rfl, Nat.le_of_ble_eq_true rfl⟩, (hts _ (mw wd_65)), (hts _ (mw wd_0))⟩) ⟨fb_rw, va_recv hK hPc (ci := 1) (q0 := 0) rfl rfl, pre_rw hK hN hPc hDc⟩ rfl rfl hl.1 rfl (lv_room (Nat.le_of_ble_eq_true rfl)) d_PC_addBetween_20 ⟨Nat.le_of_ble_eq_true rfl, Nat.le_of_ble_eq_true rfl⟩) hS (fun q _ h => hFc q h) hFc (fun r_3 u t H locs ht hvm hw hB hz1 hk1 hS => ?_)
  obtain ⟨hP1, hD1⟩ := hB
  rw [ht] at hP1
  obtain ⟨hP, hD⟩ := va_join (wr := [(ob, .inr (0, [.int wi, .int hi, .int fo, .ref gi, .ref ke, .ref sp, .ref pi, .ref fa])), (gi, .inr (1, [.ref gia, .int gin])), (gia, .inl (cJ, 114, .inr (.inl gif))), (ke, .inr (1, [.ref kea, .int ken])), (kea, .inl (cJ, 114, .inr (.inl kef))), (pi, .inr (1, [.ref pia, .int pin])), (pia, .inl (cJ, 114, .inr (.inl pif))), (fa, .inr (2, [.ref fas, .ref fat, .ref faa, .int fan])), (fas, .inl (cI, 17, .inl faS)), (fat, .inl (cI, 17, .inl faT)), (faa, .inl (cI, 17, .inl faA))]) (w1 := [(sp, .inr (1, [.ref spa, .int (f_Ri_addRow_0_1 spn)])), (spa, .inl (cJ, 114, .inr (.inl spf)))]) hP hD [5, 6] [0, 1, 2, 3, 4, 7, 8, 9, 10, 11, 12] rfl rfl (by decide) (by decide) hk1 hFc hP1 hD1
  have er_3 := hw
  have er_3 : r_3 = f_Ri_addRow_r spn := er_3
  have hP : va_P (dC, dI) cls4 [(ob, .inr (0, [.int wi, .int hi, .int fo, .ref gi, .ref ke, .ref sp, .ref pi, .ref fa])), (gi, .inr (1, [.ref gia, .int gin])), (gia, .inl (cJ, 114, .inr (.inl gif))), (ke, .inr (1, [.ref kea, .int ken])), (kea, .inl (cJ, 114, .inr (.inl kef))), (sp, .inr (1, [.ref spa, .int (f_Ri_addRow_0_1 spn)])), (spa, .inl (cJ, 114, .inr (.inl spf))), (pi, .inr (1, [.ref pia, .int pin])), (pia, .inl (cJ, 114, .inr (.inl pif))), (fa, .inr (2, [.ref fas, .ref fat, .ref faa, .int fan])), (fas, .inl (cI, 17, .inl faS)), (fat, .inl (cI, 17, .inl faT)), (faa, .inl (cI, 17, .inl faA))] H := hP.sub [0, 1, 2, 3, 4, 11, 12, 5, 6, 7, 8, 9, 10] rfl
  have hD : va_D A [(ob, .inr (0, [.int wi, .int hi, .int fo, .ref gi, .ref ke, .ref sp, .ref pi, .ref fa])), (gi, .inr (1, [.ref gia, .int gin])), (gia, .inl (cJ, 114, .inr (.inl gif))), (ke, .inr (1, [.ref kea, .int ken])), (kea, .inl (cJ, 114, .inr (.inl kef))), (sp, .inr (1, [.ref spa, .int (f_Ri_addRow_0_1 spn)])), (spa, .inl (cJ, 114, .inr (.inl spf))), (pi, .inr (1, [.ref pia, .int pin])), (pia, .inl (cJ, 114, .inr (.inl pif))), (fa, .inr (2, [.ref fas, .ref fat, .ref faa, .int fan])), (fas, .inl (cI, 17, .inl faS)), (fat, .inl (cI, 17, .inl faT)), (faa, .inl (cI, 17, .inl faA))] := hD.sub [0, 1, 2, 3, 4, 11, 12, 5, 6, 7, 8, 9, 10] (by decide) rfl
  refine lv_istore (lv' := [(8, .int r_3), (6, .long r_2), (4, .long r_1), (0, .ref ob), (1, .int st), (2, .int le), (3, .int sd)]) hx hb d_PC_addBetween_23 hl (by decide) rfl (fun ls hl => ?_)
  refine lv_iconst (v := 0) hx hb d_PC_addBetween_25 (by decide) ?_
  refine lv_istore (lv' := [(9, .int 0), (8, .int r_3), (6, .long r_2), (4, .long r_1), (0, .ref ob), (1, .int st), (2, .int le), (3, .int sd)]) hx hb d_PC_addBetween_26 hl (by decide) rfl (fun ls hl => ?_)
  refine lv_iload hx hb d_PC_addBetween_28 (lv_at hl 0 rfl) ?_
  refine lv_bipush (v := 6) hx hb d_PC_addBetween_30 (by decide) ?_
  refine lv_icmp_ge (tgt := 95) hx hb d_PC_addBetween_32 (by decide) (fun c_4 => absurd c_4 (by decide)) (fun _ => ?_)
  refine lv_aload_n hx hb d_PC_addBetween_35 rfl (lv_at hl 4 rfl) ?_
  refine va_get (D := (dC, dI)) (ci := 0) (v := .ref ke) (C := R_PC) (T := F_PC) (N := 8) hx hb hts (fun w h => mw (i_PC w h)) hown hK hP 0 rfl rfl 4 (by decide) (hts _ (mw wd_85)) (fun _ h9 => h9) rfl d_PC_addBetween_36 ?_
  refine lv_iload_n hx hb d_PC_addBetween_39 rfl (lv_at hl 5 rfl) ?_
  refine lv_iload hx hb d_PC_addBetween_40 (lv_at hl 0 rfl) ?_
  have hPc := hP.sub (ws' := [(ke, .inr (1, [.ref kea, .int ken])), (kea, .inl (cJ, 114, .inr (.inl kef)))]) [3, 4] rfl
  refine vp_callSl (va_Run.run (va_runVN (As := [.int st, .int 0]) (rest := []) ⟨hx, hb, hml, hown, hts⟩ (c_Ri_at l dC dI cJ cI ke kea ken kef st 0) (⟨va_cnB 2 hts (gd_0 wd_136) rfl rfl rfl (hN _ nw_10) (hts _ (mw wd_35)) (by decide +kernel) ⟨Nat.le_of_ble_eq_true rfl, Nat.le_of_ble_eq_true rfl⟩, (hts _ (mw wd_135)), (hts _ (mw wd_5))⟩) ⟨fb_ro, va_recv hK hPc (ci := 1) (q0 := 0) rfl rfl, pre_ro hK hN hPc⟩ rfl rfl hl.1 rfl (lv_room (Nat.le_of_ble_eq_true rfl)) d_PC_addBetween_42 ⟨Nat.le_of_ble_eq_true rfl, Nat.le_of_ble_eq_true rfl⟩)) (fun r_5 er_5 => ?_)
  have er_5 : r_5 = f_Ri_at ken kef st 0 := er_5
  refine lv_lstore (lv' := [(10, .long r_5), (9, .int 0), (8, .int r_3), (6, .long r_2), (4, .long r_1), (0, .ref ob), (1, .int st), (2, .int le), (3, .int sd)]) hx hb d_PC_addBetween_45 hl (by decide) rfl (fun ls hl => ?_)
  refine lv_aload_n hx hb d_PC_addBetween_47 rfl (lv_at hl 5 rfl) ?_
  refine va_get (D := (dC, dI)) (ci := 0) (v := .ref ke) (C := R_PC) (T := F_PC) (N := 8) hx hb hts (fun w h => mw (i_PC w h)) hown hK hP 0 rfl rfl 4 (by decide) (hts _ (mw wd_85)) (fun _ h9 => h9) rfl d_PC_addBetween_48 ?_
  refine lv_iload_n hx hb d_PC_addBetween_51 rfl (lv_at hl 7 rfl) ?_
  refine lv_iload hx hb d_PC_addBetween_52 (lv_at hl 1 rfl) ?_
  have hPc := hP.sub (ws' := [(ke, .inr (1, [.ref kea, .int ken])), (kea, .inl (cJ, 114, .inr (.inl kef)))]) [3, 4] rfl
  refine vp_callSl (va_Run.run (va_runVN (As := [.int le, .int 0]) (rest := []) ⟨hx, hb, hml, hown, hts⟩ (c_Ri_at l dC dI cJ cI ke kea ken kef le 0) (⟨va_cnB 2 hts (gd_0 wd_136) rfl rfl rfl (hN _ nw_10) (hts _ (mw wd_35)) (by decide +kernel) ⟨Nat.le_of_ble_eq_true rfl, Nat.le_of_ble_eq_true rfl⟩, (hts _ (mw wd_135)), (hts _ (mw wd_5))⟩) ⟨fb_ro, va_recv hK hPc (ci := 1) (q0 := 0) rfl rfl, pre_ro hK hN hPc⟩ rfl rfl hl.1 rfl (lv_room (Nat.le_of_ble_eq_true rfl)) d_PC_addBetween_54 ⟨Nat.le_of_ble_eq_true rfl, Nat.le_of_ble_eq_true rfl⟩)) (fun r_6 er_6 => ?_)
  have er_6 : r_6 = f_Ri_at ken kef le 0 := er_6
  refine lv_lstore (lv' := [(12, .long r_6), (10, .long r_5), (9, .int 0), (8, .int r_3), (6, .long r_2), (4, .long r_1), (0, .ref ob), (1, .int st), (2, .int le), (3, .int sd)]) hx hb d_PC_addBetween_57 hl (by decide) rfl (fun ls hl => ?_)
  refine lv_aload_n hx hb d_PC_addBetween_59 rfl (lv_at hl 6 rfl) ?_
  refine va_get (D := (dC, dI)) (ci := 0) (v := .ref sp) (C := R_PC) (T := F_PC) (N := 8) hx hb hts (fun w h => mw (i_PC w h)) hown hK hP 0 rfl rfl 5 (by decide) (hts _ (mw wd_86)) (fun _ h9 => h9) rfl d_PC_addBetween_60 ?_
  refine lv_iload hx hb d_PC_addBetween_63 (lv_at hl 3 rfl) ?_
  refine lv_iload hx hb d_PC_addBetween_65 (lv_at hl 2 rfl) ?_
  refine lv_lload hx hb d_PC_addBetween_67 (lv_at hl 1 rfl) ?_
  refine lv_lload hx hb d_PC_addBetween_69 (lv_at hl 0 rfl) ?_
  refine lv_lload hx hb d_PC_addBetween_71 (lv_at hl 1 rfl) ?_
  refine lv_lsub hx hb d_PC_addBetween_73 ?_
  refine lv_lload hx hb d_PC_addBetween_74 (lv_at hl 5 rfl) ?_
  refine lv_lmul hx hb d_PC_addBetween_76 ?_
  refine lv_lload hx hb d_PC_addBetween_77 (lv_at hl 5 rfl) ?_
  refine lv_lload hx hb d_PC_addBetween_79 (lv_at hl 4 rfl) ?_
  refine lv_lsub hx hb d_PC_addBetween_81 ?_
  refine vp_callSl (va_Run.run (va_runS (As := [.long ((r_6 - r_5) * r_1), .long (r_1 - r_2)]) (rest := [.long r_5, .int 0, .int r_3, .ref sp]) ⟨hx, hb, hml, hown, hts⟩ (c_PC_div l dC dI cJ cI ((r_6 - r_5) * r_1) (r_1 - r_2)) (va_cwS 2 hts (gd_S wd_148 wd_149 wd_33 wd_150) rfl rfl rfl (by decide +kernel) ⟨Nat.le_of_ble_eq_true rfl, Nat.le_of_ble_eq_true rfl⟩) ⟨fb_ro, pre_ro hK hN va_nil⟩ rfl rfl hl.1 rfl (lv_room (Nat.le_of_ble_eq_true rfl)) d_PC_addBetween_82 ⟨Nat.le_of_ble_eq_true rfl, Nat.le_of_ble_eq_true rfl⟩)) (fun r_7 er_7 => ?_)
  have er_7 : r_7 = f_PC_div ((r_6 - r_5) * r_1) (r_1 - r_2) := er_7
  refine lv_ladd hx hb d_PC_addBetween_85 ?_
  have hPc := hP.sub (ws' := [(sp, .inr (1, [.ref spa, .int (f_Ri_addRow_0_1 spn)])), (spa, .inl (cJ, 114, .inr (.inl spf)))]) [5, 6] rfl
  have hDc := hD.sub (ws' := [(sp, .inr (1, [.ref spa, .int (f_Ri_addRow_0_1 spn)])), (spa, .inl (cJ, 114, .inr (.inl spf)))]) [5, 6] (by decide) rfl
  have hFc := va_free (wc := [(sp, .inr (1, [.ref spa, .int (f_Ri_addRow_0_1 spn)])), (spa, .inl (cJ, 114, .inr (.inl spf)))]) hD hS hA [5, 6] rfl
  refine va_callv (va_runVN (As := [.int r_3, .int 0, .long (r_5 + r_7)]) (rest := []) ⟨hx, hb, hml, hown, hts⟩ (c_Ri_put l dC dI cJ cI H.size sp spa (f_Ri_addRow_0_1 spn) spf r_3 0 (r_5 + r_7)) (⟨va_cnB 3 hts (gd_0 wd_113) rfl rfl rfl (hN _ nw_7) (hts _ (mw wd_35)) (by decide +kernel) ⟨Nat.le_of_ble_eq_true rfl, Nat.le_of_ble_eq_true rfl⟩, (hts _ (mw wd_112)), (hts _ (mw wd_2))⟩) ⟨fb_rw, va_recv hK hPc (ci := 1) (q0 := 0) rfl rfl, pre_rw hK hN hPc hDc⟩ rfl rfl hl.1 rfl (lv_room (Nat.le_of_ble_eq_true rfl)) d_PC_addBetween_86 ⟨Nat.le_of_ble_eq_true rfl, Nat.le_of_ble_eq_true rfl⟩) hS (fun q _ h => hFc q h) hFc (fun u t H locs ht hvm hw hB hz1 hk1 hS => ?_)
  obtain ⟨hP1, hD1⟩ := hB
  rw [ht] at hP1
  obtain ⟨hP, hD⟩ := va_join (wr := [(ob, .inr (0, [.int wi, .int hi, .int fo, .ref gi, .ref ke, .ref sp, .ref pi, .ref fa])), (gi, .inr (1, [.ref gia, .int gin])), (gia, .inl (cJ, 114, .inr (.inl gif))), (ke, .inr (1, [.ref kea, .int ken])), (kea, .inl (cJ, 114, .inr (.inl kef))), (pi, .inr (1, [.ref pia, .int pin])), (pia, .inl (cJ, 114, .inr (.inl pif))), (fa, .inr (2, [.ref fas, .ref fat, .ref faa, .int fan])), (fas, .inl (cI, 17, .inl faS)), (fat, .inl (cI, 17, .inl faT)), (faa, .inl (cI, 17, .inl faA))]) (w1 := [(sp, .inr (1, [.ref spa, .int (f_Ri_addRow_0_1 spn)])), (spa, .inl (cJ, 114, .inr (.inl (f_Ri_put_1 (f_Ri_addRow_0_1 spn) spf r_3 0 (r_5 + r_7)))))]) hP hD [5, 6] [0, 1, 2, 3, 4, 7, 8, 9, 10, 11, 12] rfl rfl (by decide) (by decide) hk1 hFc hP1 hD1
  have hP : va_P (dC, dI) cls4 [(ob, .inr (0, [.int wi, .int hi, .int fo, .ref gi, .ref ke, .ref sp, .ref pi, .ref fa])), (gi, .inr (1, [.ref gia, .int gin])), (gia, .inl (cJ, 114, .inr (.inl gif))), (ke, .inr (1, [.ref kea, .int ken])), (kea, .inl (cJ, 114, .inr (.inl kef))), (sp, .inr (1, [.ref spa, .int (f_Ri_addRow_0_1 spn)])), (spa, .inl (cJ, 114, .inr (.inl (f_Ri_put_1 (f_Ri_addRow_0_1 spn) spf r_3 0 (r_5 + r_7))))), (pi, .inr (1, [.ref pia, .int pin])), (pia, .inl (cJ, 114, .inr (.inl pif))), (fa, .inr (2, [.ref fas, .ref fat, .ref faa, .int fan])), (fas, .inl (cI, 17, .inl faS)), (fat, .inl (cI, 17, .inl faT)), (faa, .inl (cI, 17, .inl faA))] H := hP.sub [0, 1, 2, 3, 4, 11, 12, 5, 6, 7, 8, 9, 10] rfl
  have hD : va_D A [(ob, .inr (0, [.int wi, .int hi, .int fo, .ref gi, .ref ke, .ref sp, .ref pi, .ref fa])), (gi, .inr (1, [.ref gia, .int gin])), (gia, .inl (cJ, 114, .inr (.inl gif))), (ke, .inr (1, [.ref kea, .int ken])), (kea, .inl (cJ, 114, .inr (.inl kef))), (sp, .inr (1, [.ref spa, .int (f_Ri_addRow_0_1 spn)])), (spa, .inl (cJ, 114, .inr (.inl (f_Ri_put_1 (f_Ri_addRow_0_1 spn) spf r_3 0 (r_5 + r_7))))), (pi, .inr (1, [.ref pia, .int pin])), (pia, .inl (cJ, 114, .inr (.inl pif))), (fa, .inr (2, [.ref fas, .ref fat, .ref faa, .int fan])), (fas, .inl (cI, 17, .inl faS)), (fat, .inl (cI, 17, .inl faT)), (faa, .inl (cI, 17, .inl faA))] := hD.sub [0, 1, 2, 3, 4, 11, 12, 5, 6, 7, 8, 9, 10] (by decide) rfl
  refine lv_iinc (v := 1) (lv' := [(9, .int 1), (12, .long r_6), (10, .long r_5), (8, .int r_3), (6, .long r_2), (4, .long r_1), (0, .ref ob), (1, .int st), (2, .int le), (3, .int sd)]) hx hb d_PC_addBetween_89 hl (k := 2) rfl (by decide) (by decide) rfl (fun ls hl => ?_)
  refine lv_goto (tgt := 28) hx hb d_PC_addBetween_92 (by decide) ?_
  refine lv_iload hx hb d_PC_addBetween_28 (lv_at hl 0 rfl) ?_
  refine lv_bipush (v := 6) hx hb d_PC_addBetween_30 (by decide) ?_
  refine lv_icmp_ge (tgt := 95) hx hb d_PC_addBetween_32 (by decide) (fun c_8 => absurd c_8 (by decide)) (fun _ => ?_)
  refine lv_aload_n hx hb d_PC_addBetween_35 rfl (lv_at hl 6 rfl) ?_
  refine va_get (D := (dC, dI)) (ci := 0) (v := .ref ke) (C := R_PC) (T := F_PC) (N := 8) hx hb hts (fun w h => mw (i_PC w h)) hown hK hP 0 rfl rfl 4 (by decide) (hts _ (mw wd_85)) (fun _ h9 => h9) rfl d_PC_addBetween_36 ?_
  refine lv_iload_n hx hb d_PC_addBetween_39 rfl (lv_at hl 7 rfl) ?_
  refine lv_iload hx hb d_PC_addBetween_40 (lv_at hl 0 rfl) ?_
  have hPc := hP.sub (ws' := [(ke, .inr (1, [.ref kea, .int ken])), (kea, .inl (cJ, 114, .inr (.inl kef)))]) [3, 4] rfl
  refine vp_callSl (va_Run.run (va_runVN (As := [.int st, .int 1]) (rest := []) ⟨hx, hb, hml, hown, hts⟩ (c_Ri_at l dC dI cJ cI ke kea ken kef st 1) (⟨va_cnB 2 hts (gd_0 wd_136) rfl rfl rfl (hN _ nw_10) (hts _ (mw wd_35)) (by decide +kernel) ⟨Nat.le_of_ble_eq_true rfl, Nat.le_of_ble_eq_true rfl⟩, (hts _ (mw wd_135)), (hts _ (mw wd_5))⟩) ⟨fb_ro, va_recv hK hPc (ci := 1) (q0 := 0) rfl rfl, pre_ro hK hN hPc⟩ rfl rfl hl.1 rfl (lv_room (Nat.le_of_ble_eq_true rfl)) d_PC_addBetween_42 ⟨Nat.le_of_ble_eq_true rfl, Nat.le_of_ble_eq_true rfl⟩)) (fun r_9 er_9 => ?_)
  have er_9 : r_9 = f_Ri_at ken kef st 1 := er_9
  refine lv_lstore (lv' := [(10, .long r_9), (9, .int 1), (12, .long r_6), (8, .int r_3), (6, .long r_2), (4, .long r_1), (0, .ref ob), (1, .int st), (2, .int le), (3, .int sd)]) hx hb d_PC_addBetween_45 hl (by decide) rfl (fun ls hl => ?_)
  refine lv_aload_n hx hb d_PC_addBetween_47 rfl (lv_at hl 6 rfl) ?_
  refine va_get (D := (dC, dI)) (ci := 0) (v := .ref ke) (C := R_PC) (T := F_PC) (N := 8) hx hb hts (fun w h => mw (i_PC w h)) hown hK hP 0 rfl rfl 4 (by decide) (hts _ (mw wd_85)) (fun _ h9 => h9) rfl d_PC_addBetween_48 ?_
  refine lv_iload_n hx hb d_PC_addBetween_51 rfl (lv_at hl 8 rfl) ?_
  refine lv_iload hx hb d_PC_addBetween_52 (lv_at hl 1 rfl) ?_
  have hPc := hP.sub (ws' := [(ke, .inr (1, [.ref kea, .int ken])), (kea, .inl (cJ, 114, .inr (.inl kef)))]) [3, 4] rfl
  refine vp_callSl (va_Run.run (va_runVN (As := [.int le, .int 1]) (rest := []) ⟨hx, hb, hml, hown, hts⟩ (c_Ri_at l dC dI cJ cI ke kea ken kef le 1) (⟨va_cnB 2 hts (gd_0 wd_136) rfl rfl rfl (hN _ nw_10) (hts _ (mw wd_35)) (by decide +kernel) ⟨Nat.le_of_ble_eq_true rfl, Nat.le_of_ble_eq_true rfl⟩, (hts _ (mw wd_135)), (hts _ (mw wd_5))⟩) ⟨fb_ro, va_recv hK hPc (ci := 1) (q0 := 0) rfl rfl, pre_ro hK hN hPc⟩ rfl rfl hl.1 rfl (lv_room (Nat.le_of_ble_eq_true rfl)) d_PC_addBetween_54 ⟨Nat.le_of_ble_eq_true rfl, Nat.le_of_ble_eq_true rfl⟩)) (fun r_10 er_10 => ?_)
  have er_10 : r_10 = f_Ri_at ken kef le 1 := er_10
  refine lv_lstore (lv' := [(12, .long r_10), (10, .long r_9), (9, .int 1), (8, .int r_3), (6, .long r_2), (4, .long r_1), (0, .ref ob), (1, .int st), (2, .int le), (3, .int sd)]) hx hb d_PC_addBetween_57 hl (by decide) rfl (fun ls hl => ?_)
  refine lv_aload_n hx hb d_PC_addBetween_59 rfl (lv_at hl 6 rfl) ?_
  refine va_get (D := (dC, dI)) (ci := 0) (v := .ref sp) (C := R_PC) (T := F_PC) (N := 8) hx hb hts (fun w h => mw (i_PC w h)) hown hK hP 0 rfl rfl 5 (by decide) (hts _ (mw wd_86)) (fun _ h9 => h9) rfl d_PC_addBetween_60 ?_
  refine lv_iload hx hb d_PC_addBetween_63 (lv_at hl 3 rfl) ?_
  refine lv_iload hx hb d_PC_addBetween_65 (lv_at hl 2 rfl) ?_
  refine lv_lload hx hb d_PC_addBetween_67 (lv_at hl 1 rfl) ?_
  refine lv_lload hx hb d_PC_addBetween_69 (lv_at hl 0 rfl) ?_
  refine lv_lload hx hb d_PC_addBetween_71 (lv_at hl 1 rfl) ?_
  refine lv_lsub hx hb d_PC_addBetween_73 ?_
  refine lv_lload hx hb d_PC_addBetween_74 (lv_at hl 5 rfl) ?_
  refine lv_lmul hx hb d_PC_addBetween_76 ?_
  refine lv_lload hx hb d_PC_addBetween_77 (lv_at hl 5 rfl) ?_
  refine lv_lload hx hb d_PC_addBetween_79 (lv_at hl 4 rfl) ?_
  refine lv_lsub hx hb d_PC_addBetween_81 ?_
  refine vp_callSl (va_Run.run (va_runS (As := [.long ((r_10 - r_9) * r_1), .long (r_1 - r_2)]) (rest := [.long r_9, .int 1, .int r_3, .ref sp]) ⟨hx, hb, hml, hown, hts⟩ (c_PC_div l dC dI cJ cI ((r_10 - r_9) * r_1) (r_1 - r_2)) (va_cwS 2 hts (gd_S wd_148 wd_149 wd_33 wd_150) rfl rfl rfl (by decide +kernel) ⟨Nat.le_of_ble_eq_true rfl, Nat.le_of_ble_eq_true rfl⟩) ⟨fb_ro, pre_ro hK hN va_nil⟩ rfl rfl hl.1 rfl (lv_room (Nat.le_of_ble_eq_true rfl)) d_PC_addBetween_82 ⟨Nat.le_of_ble_eq_true rfl, Nat.le_of_ble_eq_true rfl⟩)) (fun r_11 er_11 => ?_)
  have er_11 : r_11 = f_PC_div ((r_10 - r_9) * r_1) (r_1 - r_2) := er_11
  refine lv_ladd hx hb d_PC_addBetween_85 ?_
  have hPc := hP.sub (ws' := [(sp, .inr (1, [.ref spa, .int (f_Ri_addRow_0_1 spn)])), (spa, .inl (cJ, 114, .inr (.inl (f_Ri_put_1 (f_Ri_addRow_0_1 spn) spf r_3 0 (r_5 + r_7)))))]) [5, 6] rfl
  have hDc := hD.sub (ws' := [(sp, .inr (1, [.ref spa, .int (f_Ri_addRow_0_1 spn)])), (spa, .inl (cJ, 114, .inr (.inl (f_Ri_put_1 (f_Ri_addRow_0_1 spn) spf r_3 0 (r_5 + r_7)))))]) [5, 6] (by decide) rfl
  have hFc := va_free (wc := [(sp, .inr (1, [.ref spa, .int (f_Ri_addRow_0_1 spn)])), (spa, .inl (cJ, 114, .inr (.inl (f_Ri_put_1 (f_Ri_addRow_0_1 spn) spf r_3 0 (r_5 + r_7)))))]) hD hS hA [5, 6] rfl
  refine va_callv (va_runVN (As := [.int r_3, .int 1, .long (r_9 + r_11)]) (rest := []) ⟨hx, hb, hml, hown, hts⟩ (c_Ri_put l dC dI cJ cI H.size sp spa (f_Ri_addRow_0_1 spn) (f_Ri_put_1 (f_Ri_addRow_0_1 spn) spf r_3 0 (r_5 + r_7)) r_3 1 (r_9 + r_11)) (⟨va_cnB 3 hts (gd_0 wd_113) rfl rfl rfl (hN _ nw_7) (hts _ (mw wd_35)) (by decide +kernel) ⟨Nat.le_of_ble_eq_true rfl, Nat.le_of_ble_eq_true rfl⟩, (hts _ (mw wd_112)), (hts _ (mw wd_2))⟩) ⟨fb_rw, va_recv hK hPc (ci := 1) (q0 := 0) rfl rfl, pre_rw hK hN hPc hDc⟩ rfl rfl hl.1 rfl (lv_room (Nat.le_of_ble_eq_true rfl)) d_PC_addBetween_86 ⟨Nat.le_of_ble_eq_true rfl, Nat.le_of_ble_eq_true rfl⟩) hS (fun q _ h => hFc q h) hFc (fun u t H locs ht hvm hw hB hz1 hk1 hS => ?_)
  obtain ⟨hP1, hD1⟩ := hB
  rw [ht] at hP1
  obtain ⟨hP, hD⟩ := va_join (wr := [(ob, .inr (0, [.int wi, .int hi, .int fo, .ref gi, .ref ke, .ref sp, .ref pi, .ref fa])), (gi, .inr (1, [.ref gia, .int gin])), (gia, .inl (cJ, 114, .inr (.inl gif))), (ke, .inr (1, [.ref kea, .int ken])), (kea, .inl (cJ, 114, .inr (.inl kef))), (pi, .inr (1, [.ref pia, .int pin])), (pia, .inl (cJ, 114, .inr (.inl pif))), (fa, .inr (2, [.ref fas, .ref fat, .ref faa, .int fan])), (fas, .inl (cI, 17, .inl faS)), (fat, .inl (cI, 17, .inl faT)), (faa, .inl (cI, 17, .inl faA))]) (w1 := [(sp, .inr (1, [.ref spa, .int (f_Ri_addRow_0_1 spn)])), (spa, .inl (cJ, 114, .inr (.inl (f_Ri_put_1 (f_Ri_addRow_0_1 spn) (f_Ri_put_1 (f_Ri_addRow_0_1 spn) spf r_3 0 (r_5 + r_7)) r_3 1 (r_9 + r_11)))))]) hP hD [5, 6] [0, 1, 2, 3, 4, 7, 8, 9, 10, 11, 12] rfl rfl (by decide) (by decide) hk1 hFc hP1 hD1
  have hP : va_P (dC, dI) cls4 [(ob, .inr (0, [.int wi, .int hi, .int fo, .ref gi, .ref ke, .ref sp, .ref pi, .ref fa])), (gi, .inr (1, [.ref gia, .int gin])), (gia, .inl (cJ, 114, .inr (.inl gif))), (ke, .inr (1, [.ref kea, .int ken])), (kea, .inl (cJ, 114, .inr (.inl kef))), (sp, .inr (1, [.ref spa, .int (f_Ri_addRow_0_1 spn)])), (spa, .inl (cJ, 114, .inr (.inl (f_Ri_put_1 (f_Ri_addRow_0_1 spn) (f_Ri_put_1 (f_Ri_addRow_0_1 spn) spf r_3 0 (r_5 + r_7)) r_3 1 (r_9 + r_11))))), (pi, .inr (1, [.ref pia, .int pin])), (pia, .inl (cJ, 114, .inr (.inl pif))), (fa, .inr (2, [.ref fas, .ref fat, .ref faa, .int fan])), (fas, .inl (cI, 17, .inl faS)), (fat, .inl (cI, 17, .inl faT)), (faa, .inl (cI, 17, .inl faA))] H := hP.sub [0, 1, 2, 3, 4, 11, 12, 5, 6, 7, 8, 9, 10] rfl
  have hD : va_D A [(ob, .inr (0, [.int wi, .int hi, .int fo, .ref gi, .ref ke, .ref sp, .ref pi, .ref fa])), (gi, .inr (1, [.ref gia, .int gin])), (gia, .inl (cJ, 114, .inr (.inl gif))), (ke, .inr (1, [.ref kea, .int ken])), (kea, .inl (cJ, 114, .inr (.inl kef))), (sp, .inr (1, [.ref spa, .int (f_Ri_addRow_0_1 spn)])), (spa, .inl (cJ, 114, .inr (.inl (f_Ri_put_1 (f_Ri_addRow_0_1 spn) (f_Ri_put_1 (f_Ri_addRow_0_1 spn) spf r_3 0 (r_5 + r_7)) r_3 1 (r_9 + r_11))))), (pi, .inr (1, [.ref pia, .int pin])), (pia, .inl (cJ, 114, .inr (.inl pif))), (fa, .inr (2, [.ref fas, .ref fat, .ref faa, .int fan])), (fas, .inl (cI, 17, .inl faS)), (fat, .inl (cI, 17, .inl faT)), (faa, .inl (cI, 17, .inl faA))] := hD.sub [0, 1, 2, 3, 4, 11, 12, 5, 6, 7, 8, 9, 10] (by decide) rfl
  refine lv_iinc (v := 2) (lv' := [(9, .int 2), (12, .long r_10), (10, .long r_9), (8, .int r_3), (6, .long r_2), (4, .long r_1), (0, .ref ob), (1, .int st), (2, .int le), (3, .int sd)]) hx hb d_PC_addBetween_89 hl (k := 2) rfl (by decide) (by decide) rfl (fun ls hl => ?_)
  refine lv_goto (tgt := 28) hx hb d_PC_addBetween_92 (by decide) ?_
  refine lv_iload hx hb d_PC_addBetween_28 (lv_at hl 0 rfl) ?_
  refine lv_bipush (v := 6) hx hb d_PC_addBetween_30 (by decide) ?_
  refine lv_icmp_ge (tgt := 95) hx hb d_PC_addBetween_32 (by decide) (fun c_12 => absurd c_12 (by decide)) (fun _ => ?_)
  refine lv_aload_n hx hb d_PC_addBetween_35 rfl (lv_at hl 6 rfl) ?_
  refine va_get (D := (dC, dI)) (ci := 0) (v := .ref ke) (C := R_PC) (T := F_PC) (N := 8) hx hb hts (fun w h => mw (i_PC w h)) hown hK hP 0 rfl rfl 4 (by decide) (hts _ (mw wd_85)) (fun _ h9 => h9) rfl d_PC_addBetween_36 ?_
  refine lv_iload_n hx hb d_PC_addBetween_39 rfl (lv_at hl 7 rfl) ?_
  refine lv_iload hx hb d_PC_addBetween_40 (lv_at hl 0 rfl) ?_
  have hPc := hP.sub (ws' := [(ke, .inr (1, [.ref kea, .int ken])), (kea, .inl (cJ, 114, .inr (.inl kef)))]) [3, 4] rfl
  refine vp_callSl (va_Run.run (va_runVN (As := [.int st, .int 2]) (rest := []) ⟨hx, hb, hml, hown, hts⟩ (c_Ri_at l dC dI cJ cI ke kea ken kef st 2) (⟨va_cnB 2 hts (gd_0 wd_136) rfl rfl rfl (hN _ nw_10) (hts _ (mw wd_35)) (by decide +kernel) ⟨Nat.le_of_ble_eq_true rfl, Nat.le_of_ble_eq_true rfl⟩, (hts _ (mw wd_135)), (hts _ (mw wd_5))⟩) ⟨fb_ro, va_recv hK hPc (ci := 1) (q0 := 0) rfl rfl, pre_ro hK hN hPc⟩ rfl rfl hl.1 rfl (lv_room (Nat.le_of_ble_eq_true rfl)) d_PC_addBetween_42 ⟨Nat.le_of_ble_eq_true rfl, Nat.le_of_ble_eq_true rfl⟩)) (fun r_13 er_13 => ?_)
  have er_13 : r_13 = f_Ri_at ken kef st 2 := er_13
  refine lv_lstore (lv' := [(10, .long r_13), (9, .int 2), (12, .long r_10), (8, .int r_3), (6, .long r_2), (4, .long r_1), (0, .ref ob), (1, .int st), (2, .int le), (3, .int sd)]) hx hb d_PC_addBetween_45 hl (by decide) rfl (fun ls hl => ?_)
  refine lv_aload_n hx hb d_PC_addBetween_47 rfl (lv_at hl 6 rfl) ?_
  refine va_get (D := (dC, dI)) (ci := 0) (v := .ref ke) (C := R_PC) (T := F_PC) (N := 8) hx hb hts (fun w h => mw (i_PC w h)) hown hK hP 0 rfl rfl 4 (by decide) (hts _ (mw wd_85)) (fun _ h9 => h9) rfl d_PC_addBetween_48 ?_
  refine lv_iload_n hx hb d_PC_addBetween_51 rfl (lv_at hl 8 rfl) ?_
  refine lv_iload hx hb d_PC_addBetween_52 (lv_at hl 1 rfl) ?_
  have hPc := hP.sub (ws' := [(ke, .inr (1, [.ref kea, .int ken])), (kea, .inl (cJ, 114, .inr (.inl kef)))]) [3, 4] rfl
  refine vp_callSl (va_Run.run (va_runVN (As := [.int le, .int 2]) (rest := []) ⟨hx, hb, hml, hown, hts⟩ (c_Ri_at l dC dI cJ cI ke kea ken kef le 2) (⟨va_cnB 2 hts (gd_0 wd_136) rfl rfl rfl (hN _ nw_10) (hts _ (mw wd_35)) (by decide +kernel) ⟨Nat.le_of_ble_eq_true rfl, Nat.le_of_ble_eq_true rfl⟩, (hts _ (mw wd_135)), (hts _ (mw wd_5))⟩) ⟨fb_ro, va_recv hK hPc (ci := 1) (q0 := 0) rfl rfl, pre_ro hK hN hPc⟩ rfl rfl hl.1 rfl (lv_room (Nat.le_of_ble_eq_true rfl)) d_PC_addBetween_54 ⟨Nat.le_of_ble_eq_true rfl, Nat.le_of_ble_eq_true rfl⟩)) (fun r_14 er_14 => ?_)
  have er_14 : r_14 = f_Ri_at ken kef le 2 := er_14
  refine lv_lstore (lv' := [(12, .long r_14), (10, .long r_13), (9, .int 2), (8, .int r_3), (6, .long r_2), (4, .long r_1), (0, .ref ob), (1, .int st), (2, .int le), (3, .int sd)]) hx hb d_PC_addBetween_57 hl (by decide) rfl (fun ls hl => ?_)
  refine lv_aload_n hx hb d_PC_addBetween_59 rfl (lv_at hl 6 rfl) ?_
  refine va_get (D := (dC, dI)) (ci := 0) (v := .ref sp) (C := R_PC) (T := F_PC) (N := 8) hx hb hts (fun w h => mw (i_PC w h)) hown hK hP 0 rfl rfl 5 (by decide) (hts _ (mw wd_86)) (fun _ h9 => h9) rfl d_PC_addBetween_60 ?_
  refine lv_iload hx hb d_PC_addBetween_63 (lv_at hl 3 rfl) ?_
  refine lv_iload hx hb d_PC_addBetween_65 (lv_at hl 2 rfl) ?_
  refine lv_lload hx hb d_PC_addBetween_67 (lv_at hl 1 rfl) ?_
  refine lv_lload hx hb d_PC_addBetween_69 (lv_at hl 0 rfl) ?_
  refine lv_lload hx hb d_PC_addBetween_71 (lv_at hl 1 rfl) ?_
  refine lv_lsub hx hb d_PC_addBetween_73 ?_
  refine lv_lload hx hb d_PC_addBetween_74 (lv_at hl 5 rfl) ?_
  refine lv_lmul hx hb d_PC_addBetween_76 ?_
  refine lv_lload hx hb d_PC_addBetween_77 (lv_at hl 5 rfl) ?_
  refine lv_lload hx hb d_PC_addBetween_79 (lv_at hl 4 rfl) ?_
  refine lv_lsub hx hb d_PC_addBetween_81 ?_
  refine vp_callSl (va_Run.run (va_runS (As := [.long ((r_14 - r_13) * r_1), .long (r_1 - r_2)]) (rest := [.long r_13, .int 2, .int r_3, .ref sp]) ⟨hx, hb, hml, hown, hts⟩ (c_PC_div l dC dI cJ cI ((r_14 - r_13) * r_1) (r_1 - r_2)) (va_cwS 2 hts (gd_S wd_148 wd_149 wd_33 wd_150) rfl rfl rfl (by decide +kernel) ⟨Nat.le_of_ble_eq_true rfl, Nat.le_of_ble_eq_true rfl⟩) ⟨fb_ro, pre_ro hK hN va_nil⟩ rfl rfl hl.1 rfl (lv_room (Nat.le_of_ble_eq_true rfl)) d_PC_addBetween_82 ⟨Nat.le_of_ble_eq_true rfl, Nat.le_of_ble_eq_true rfl⟩)) (fun r_15 er_15 => ?_)
  have er_15 : r_15 = f_PC_div ((r_14 - r_13) * r_1) (r_1 - r_2) := er_15
  refine lv_ladd hx hb d_PC_addBetween_85 ?_
  have hPc := hP.sub (ws' := [(sp, .inr (1, [.ref spa, .int (f_Ri_addRow_0_1 spn)])), (spa, .inl (cJ, 114, .inr (.inl (f_Ri_put_1 (f_Ri_addRow_0_1 spn) (f_Ri_put_1 (f_Ri_addRow_0_1 spn) spf r_3 0 (r_5 + r_7)) r_3 1 (r_9 + r_11)))))]) [5, 6] rfl
  have hDc := hD.sub (ws' := [(sp, .inr (1, [.ref spa, .int (f_Ri_addRow_0_1 spn)])), (spa, .inl (cJ, 114, .inr (.inl (f_Ri_put_1 (f_Ri_addRow_0_1 spn) (f_Ri_put_1 (f_Ri_addRow_0_1 spn) spf r_3 0 (r_5 + r_7)) r_3 1 (r_9 + r_11)))))]) [5, 6] (by decide) rfl
  have hFc := va_free (wc := [(sp, .inr (1, [.ref spa, .int (f_Ri_addRow_0_1 spn)])), (spa, .inl (cJ, 114, .inr (.inl (f_Ri_put_1 (f_Ri_addRow_0_1 spn) (f_Ri_put_1 (f_Ri_addRow_0_1 spn) spf r_3 0 (r_5 + r_7)) r_3 1 (r_9 + r_11)))))]) hD hS hA [5, 6] rfl
  refine va_callv (va_runVN (As := [.int r_3, .int 2, .long (r_13 + r_15)]) (rest := []) ⟨hx, hb, hml, hown, hts⟩ (c_Ri_put l dC dI cJ cI H.size sp spa (f_Ri_addRow_0_1 spn) (f_Ri_put_1 (f_Ri_addRow_0_1 spn) (f_Ri_put_1 (f_Ri_addRow_0_1 spn) spf r_3 0 (r_5 + r_7)) r_3 1 (r_9 + r_11)) r_3 2 (r_13 + r_15)) (⟨va_cnB 3 hts (gd_0 wd_113) rfl rfl rfl (hN _ nw_7) (hts _ (mw wd_35)) (by decide +kernel) ⟨Nat.le_of_ble_eq_true rfl, Nat.le_of_ble_eq_true rfl⟩, (hts _ (mw wd_112)), (hts _ (mw wd_2))⟩) ⟨fb_rw, va_recv hK hPc (ci := 1) (q0 := 0) rfl rfl, pre_rw hK hN hPc hDc⟩ rfl rfl hl.1 rfl (lv_room (Nat.le_of_ble_eq_true rfl)) d_PC_addBetween_86 ⟨Nat.le_of_ble_eq_true rfl, Nat.le_of_ble_eq_true rfl⟩) hS (fun q _ h => hFc q h) hFc (fun u t H locs ht hvm hw hB hz1 hk1 hS => ?_)
  obtain ⟨hP1, hD1⟩ := hB
  rw [ht] at hP1
  obtain ⟨hP, hD⟩ := va_join (wr := [(ob, .inr (0, [.int wi, .int hi, .int fo, .ref gi, .ref ke, .ref sp, .ref pi, .ref fa])), (gi, .inr (1, [.ref gia, .int gin])), (gia, .inl (cJ, 114, .inr (.inl gif))), (ke, .inr (1, [.ref kea, .int ken])), (kea, .inl (cJ, 114, .inr (.inl kef))), (pi, .inr (1, [.ref pia, .int pin])), (pia, .inl (cJ, 114, .inr (.inl pif))), (fa, .inr (2, [.ref fas, .ref fat, .ref faa, .int fan])), (fas, .inl (cI, 17, .inl faS)), (fat, .inl (cI, 17, .inl faT)), (faa, .inl (cI, 17, .inl faA))]) (w1 := [(sp, .inr (1, [.ref spa, .int (f_Ri_addRow_0_1 spn)])), (spa, .inl (cJ, 114, .inr (.inl (f_Ri_put_1 (f_Ri_addRow_0_1 spn) (f_Ri_put_1 (f_Ri_addRow_0_1 spn) (f_Ri_put_1 (f_Ri_addRow_0_1 spn) spf r_3 0 (r_5 + r_7)) r_3 1 (r_9 + r_11)) r_3 2 (r_13 + r_15)))))]) hP hD [5, 6] [0, 1, 2, 3, 4, 7, 8, 9, 10, 11, 12] rfl rfl (by decide) (by decide) hk1 hFc hP1 hD1
  have hP : va_P (dC, dI) cls4 [(ob, .inr (0, [.int wi, .int hi, .int fo, .ref gi, .ref ke, .ref sp, .ref pi, .ref fa])), (gi, .inr (1, [.ref gia, .int gin])), (gia, .inl (cJ, 114, .inr (.inl gif))), (ke, .inr (1, [.ref kea, .int ken])), (kea, .inl (cJ, 114, .inr (.inl kef))), (sp, .inr (1, [.ref spa, .int (f_Ri_addRow_0_1 spn)])), (spa, .inl (cJ, 114, .inr (.inl (f_Ri_put_1 (f_Ri_addRow_0_1 spn) (f_Ri_put_1 (f_Ri_addRow_0_1 spn) (f_Ri_put_1 (f_Ri_addRow_0_1 spn) spf r_3 0 (r_5 + r_7)) r_3 1 (r_9 + r_11)) r_3 2 (r_13 + r_15))))), (pi, .inr (1, [.ref pia, .int pin])), (pia, .inl (cJ, 114, .inr (.inl pif))), (fa, .inr (2, [.ref fas, .ref fat, .ref faa, .int fan])), (fas, .inl (cI, 17, .inl faS)), (fat, .inl (cI, 17, .inl faT)), (faa, .inl (cI, 17, .inl faA))] H := hP.sub [0, 1, 2, 3, 4, 11, 12, 5, 6, 7, 8, 9, 10] rfl
  have hD : va_D A [(ob, .inr (0, [.int wi, .int hi, .int fo, .ref gi, .ref ke, .ref sp, .ref pi, .ref fa])), (gi, .inr (1, [.ref gia, .int gin])), (gia, .inl (cJ, 114, .inr (.inl gif))), (ke, .inr (1, [.ref kea, .int ken])), (kea, .inl (cJ, 114, .inr (.inl kef))), (sp, .inr (1, [.ref spa, .int (f_Ri_addRow_0_1 spn)])), (spa, .inl (cJ, 114, .inr (.inl (f_Ri_put_1 (f_Ri_addRow_0_1 spn) (f_Ri_put_1 (f_Ri_addRow_0_1 spn) (f_Ri_put_1 (f_Ri_addRow_0_1 spn) spf r_3 0 (r_5 + r_7)) r_3 1 (r_9 + r_11)) r_3 2 (r_13 + r_15))))), (pi, .inr (1, [.ref pia, .int pin])), (pia, .inl (cJ, 114, .inr (.inl pif))), (fa, .inr (2, [.ref fas, .ref fat, .ref faa, .int fan])), (fas, .inl (cI, 17, .inl faS)), (fat, .inl (cI, 17, .inl faT)), (faa, .inl (cI, 17, .inl faA))] := hD.sub [0, 1, 2, 3, 4, 11, 12, 5, 6, 7, 8, 9, 10] (by decide) rfl
  refine lv_iinc (v := 3) (lv' := [(9, .int 3), (12, .long r_14), (10, .long r_13), (8, .int r_3), (6, .long r_2), (4, .long r_1), (0, .ref ob), (1, .int st), (2, .int le), (3, .int sd)]) hx hb d_PC_addBetween_89 hl (k := 2) rfl (by decide) (by decide) rfl (fun ls hl => ?_)
  refine lv_goto (tgt := 28) hx hb d_PC_addBetween_92 (by decide) ?_
  refine lv_iload hx hb d_PC_addBetween_28 (lv_at hl 0 rfl) ?_
  refine lv_bipush (v := 6) hx hb d_PC_addBetween_30 (by decide) ?_
  refine lv_icmp_ge (tgt := 95) hx hb d_PC_addBetween_32 (by decide) (fun c_16 => absurd c_16 (by decide)) (fun _ => ?_)
  refine lv_aload_n hx hb d_PC_addBetween_35 rfl (lv_at hl 6 rfl) ?_
  refine va_get (D := (dC, dI)) (ci := 0) (v := .ref ke) (C := R_PC) (T := F_PC) (N := 8) hx hb hts (fun w h => mw (i_PC w h)) hown hK hP 0 rfl rfl 4 (by decide) (hts _ (mw wd_85)) (fun _ h9 => h9) rfl d_PC_addBetween_36 ?_
  refine lv_iload_n hx hb d_PC_addBetween_39 rfl (lv_at hl 7 rfl) ?_
  refine lv_iload hx hb d_PC_addBetween_40 (lv_at hl 0 rfl) ?_
  have hPc := hP.sub (ws' := [(ke, .inr (1, [.ref kea, .int ken])), (kea, .inl (cJ, 114, .inr (.inl kef)))]) [3, 4] rfl
  refine vp_callSl (va_Run.run (va_runVN (As := [.int st, .int 3]) (rest := []) ⟨hx, hb, hml, hown, hts⟩ (c_Ri_at l dC dI cJ cI ke kea ken kef st 3) (⟨va_cnB 2 hts (gd_0 wd_136) rfl rfl rfl (hN _ nw_10) (hts _ (mw wd_35)) (by decide +kernel) ⟨Nat.le_of_ble_eq_true rfl, Nat.le_of_ble_eq_true rfl⟩, (hts _ (mw wd_135)), (hts _ (mw wd_5))⟩) ⟨fb_ro, va_recv hK hPc (ci := 1) (q0 := 0) rfl rfl, pre_ro hK hN hPc⟩ rfl rfl hl.1 rfl (lv_room (Nat.le_of_ble_eq_true rfl)) d_PC_addBetween_42 ⟨Nat.le_of_ble_eq_true rfl, Nat.le_of_ble_eq_true rfl⟩)) (fun r_17 er_17 => ?_)
  have er_17 : r_17 = f_Ri_at ken kef st 3 := er_17
  refine lv_lstore (lv' := [(10, .long r_17), (9, .int 3), (12, .long r_14), (8, .int r_3), (6, .long r_2), (4, .long r_1), (0, .ref ob), (1, .int st), (2, .int le), (3, .int sd)]) hx hb d_PC_addBetween_45 hl (by decide) rfl (fun ls hl => ?_)
  refine lv_aload_n hx hb d_PC_addBetween_47 rfl (lv_at hl 6 rfl) ?_
  refine va_get (D := (dC, dI)) (ci := 0) (v := .ref ke) (C := R_PC) (T := F_PC) (N := 8) hx hb hts (fun w h => mw (i_PC w h)) hown hK hP 0 rfl rfl 4 (by decide) (hts _ (mw wd_85)) (fun _ h9 => h9) rfl d_PC_addBetween_48 ?_
  refine lv_iload_n hx hb d_PC_addBetween_51 rfl (lv_at hl 8 rfl) ?_
  refine lv_iload hx hb d_PC_addBetween_52 (lv_at hl 1 rfl) ?_
  have hPc := hP.sub (ws' := [(ke, .inr (1, [.ref kea, .int ken])), (kea, .inl (cJ, 114, .inr (.inl kef)))]) [3, 4] rfl
  refine vp_callSl (va_Run.run (va_runVN (As := [.int le, .int 3]) (rest := []) ⟨hx, hb, hml, hown, hts⟩ (c_Ri_at l dC dI cJ cI ke kea ken kef le 3) (⟨va_cnB 2 hts (gd_0 wd_136) rfl rfl rfl (hN _ nw_10) (hts _ (mw wd_35)) (by decide +kernel) ⟨Nat.le_of_ble_eq_true rfl, Nat.le_of_ble_eq_true rfl⟩, (hts _ (mw wd_135)), (hts _ (mw wd_5))⟩) ⟨fb_ro, va_recv hK hPc (ci := 1) (q0 := 0) rfl rfl, pre_ro hK hN hPc⟩ rfl rfl hl.1 rfl (lv_room (Nat.le_of_ble_eq_true rfl)) d_PC_addBetween_54 ⟨Nat.le_of_ble_eq_true rfl, Nat.le_of_ble_eq_true rfl⟩)) (fun r_18 er_18 => ?_)
  have er_18 : r_18 = f_Ri_at ken kef le 3 := er_18
  refine lv_lstore (lv' := [(12, .long r_18), (10, .long r_17), (9, .int 3), (8, .int r_3), (6, .long r_2), (4, .long r_1), (0, .ref ob), (1, .int st), (2, .int le), (3, .int sd)]) hx hb d_PC_addBetween_57 hl (by decide) rfl (fun ls hl => ?_)
  refine lv_aload_n hx hb d_PC_addBetween_59 rfl (lv_at hl 6 rfl) ?_
  refine va_get (D := (dC, dI)) (ci := 0) (v := .ref sp) (C := R_PC) (T := F_PC) (N := 8) hx hb hts (fun w h => mw (i_PC w h)) hown hK hP 0 rfl rfl 5 (by decide) (hts _ (mw wd_86)) (fun _ h9 => h9) rfl d_PC_addBetween_60 ?_
  refine lv_iload hx hb d_PC_addBetween_63 (lv_at hl 3 rfl) ?_
  refine lv_iload hx hb d_PC_addBetween_65 (lv_at hl 2 rfl) ?_
  refine lv_lload hx hb d_PC_addBetween_67 (lv_at hl 1 rfl) ?_
  refine lv_lload hx hb d_PC_addBetween_69 (lv_at hl 0 rfl) ?_
  refine lv_lload hx hb d_PC_addBetween_71 (lv_at hl 1 rfl) ?_
  refine lv_lsub hx hb d_PC_addBetween_73 ?_
  refine lv_lload hx hb d_PC_addBetween_74 (lv_at hl 5 rfl) ?_
  refine lv_lmul hx hb d_PC_addBetween_76 ?_
  refine lv_lload hx hb d_PC_addBetween_77 (lv_at hl 5 rfl) ?_
  refine lv_lload hx hb d_PC_addBetween_79 (lv_at hl 4 rfl) ?_
  refine lv_lsub hx hb d_PC_addBetween_81 ?_
  refine vp_callSl (va_Run.run (va_runS (As := [.long ((r_18 - r_17) * r_1), .long (r_1 - r_2)]) (rest := [.long r_17, .int 3, .int r_3, .ref sp]) ⟨hx, hb, hml, hown, hts⟩ (c_PC_div l dC dI cJ cI ((r_18 - r_17) * r_1) (r_1 - r_2)) (va_cwS 2 hts (gd_S wd_148 wd_149 wd_33 wd_150) rfl rfl rfl (by decide +kernel) ⟨Nat.le_of_ble_eq_true rfl, Nat.le_of_ble_eq_true rfl⟩) ⟨fb_ro, pre_ro hK hN va_nil⟩ rfl rfl hl.1 rfl (lv_room (Nat.le_of_ble_eq_true rfl)) d_PC_addBetween_82 ⟨Nat.le_of_ble_eq_true rfl, Nat.le_of_ble_eq_true rfl⟩)) (fun r_19 er_19 => ?_)
  have er_19 : r_19 = f_PC_div ((r_18 - r_17) * r_1) (r_1 - r_2) := er_19
  refine lv_ladd hx hb d_PC_addBetween_85 ?_
  have hPc := hP.sub (ws' := [(sp, .inr (1, [.ref spa, .int (f_Ri_addRow_0_1 spn)])), (spa, .inl (cJ, 114, .inr (.inl (f_Ri_put_1 (f_Ri_addRow_0_1 spn) (f_Ri_put_1 (f_Ri_addRow_0_1 spn) (f_Ri_put_1 (f_Ri_addRow_0_1 spn) spf r_3 0 (r_5 + r_7)) r_3 1 (r_9 + r_11)) r_3 2 (r_13 + r_15)))))]) [5, 6] rfl
  have hDc := hD.sub (ws' := [(sp, .inr (1, [.ref spa, .int (f_Ri_addRow_0_1 spn)])), (spa, .inl (cJ, 114, .inr (.inl (f_Ri_put_1 (f_Ri_addRow_0_1 spn) (f_Ri_put_1 (f_Ri_addRow_0_1 spn) (f_Ri_put_1 (f_Ri_addRow_0_1 spn) spf r_3 0 (r_5 + r_7)) r_3 1 (r_9 + r_11)) r_3 2 (r_13 + r_15)))))]) [5, 6] (by decide) rfl
  have hFc := va_free (wc := [(sp, .inr (1, [.ref spa, .int (f_Ri_addRow_0_1 spn)])), (spa, .inl (cJ, 114, .inr (.inl (f_Ri_put_1 (f_Ri_addRow_0_1 spn) (f_Ri_put_1 (f_Ri_addRow_0_1 spn) (f_Ri_put_1 (f_Ri_addRow_0_1 spn) spf r_3 0 (r_5 + r_7)) r_3 1 (r_9 + r_11)) r_3 2 (r_13 + r_15)))))]) hD hS hA [5, 6] rfl
  refine va_callv (va_runVN (As := [.int r_3, .int 3, .long (r_17 + r_19)]) (rest := []) ⟨hx, hb, hml, hown, hts⟩ (c_Ri_put l dC dI cJ cI H.size sp spa (f_Ri_addRow_0_1 spn) (f_Ri_put_1 (f_Ri_addRow_0_1 spn) (f_Ri_put_1 (f_Ri_addRow_0_1 spn) (f_Ri_put_1 (f_Ri_addRow_0_1 spn) spf r_3 0 (r_5 + r_7)) r_3 1 (r_9 + r_11)) r_3 2 (r_13 + r_15)) r_3 3 (r_17 + r_19)) (⟨va_cnB 3 hts (gd_0 wd_113) rfl rfl rfl (hN _ nw_7) (hts _ (mw wd_35)) (by decide +kernel) ⟨Nat.le_of_ble_eq_true rfl, Nat.le_of_ble_eq_true rfl⟩, (hts _ (mw wd_112)), (hts _ (mw wd_2))⟩) ⟨fb_rw, va_recv hK hPc (ci := 1) (q0 := 0) rfl rfl, pre_rw hK hN hPc hDc⟩ rfl rfl hl.1 rfl (lv_room (Nat.le_of_ble_eq_true rfl)) d_PC_addBetween_86 ⟨Nat.le_of_ble_eq_true rfl, Nat.le_of_ble_eq_true rfl⟩) hS (fun q _ h => hFc q h) hFc (fun u t H locs ht hvm hw hB hz1 hk1 hS => ?_)
  obtain ⟨hP1, hD1⟩ := hB
  rw [ht] at hP1
  obtain ⟨hP, hD⟩ := va_join (wr := [(ob, .inr (0, [.int wi, .int hi, .int fo, .ref gi, .ref ke, .ref sp, .ref pi, .ref fa])), (gi, .inr (1, [.ref gia, .int gin])), (gia, .inl (cJ, 114, .inr (.inl gif))), (ke, .inr (1, [.ref kea, .int ken])), (kea, .inl (cJ, 114, .inr (.inl kef))), (pi, .inr (1, [.ref pia, .int pin])), (pia, .inl (cJ, 114, .inr (.inl pif))), (fa, .inr (2, [.ref fas, .ref fat, .ref faa, .int fan])), (fas, .inl (cI, 17, .inl faS)), (fat, .inl (cI, 17, .inl faT)), (faa, .inl (cI, 17, .inl faA))]) (w1 := [(sp, .inr (1, [.ref spa, .int (f_Ri_addRow_0_1 spn)])), (spa, .inl (cJ, 114, .inr (.inl (f_Ri_put_1 (f_Ri_addRow_0_1 spn) (f_Ri_put_1 (f_Ri_addRow_0_1 spn) (f_Ri_put_1 (f_Ri_addRow_0_1 spn) (f_Ri_put_1 (f_Ri_addRow_0_1 spn) spf r_3 0 (r_5 + r_7)) r_3 1 (r_9 + r_11)) r_3 2 (r_13 + r_15)) r_3 3 (r_17 + r_19)))))]) hP hD [5, 6] [0, 1, 2, 3, 4, 7, 8, 9, 10, 11, 12] rfl rfl (by decide) (by decide) hk1 hFc hP1 hD1
  have hP : va_P (dC, dI) cls4 [(ob, .inr (0, [.int wi, .int hi, .int fo, .ref gi, .ref ke, .ref sp, .ref pi, .ref fa])), (gi, .inr (1, [.ref gia, .int gin])), (gia, .inl (cJ, 114, .inr (.inl gif))), (ke, .inr (1, [.ref kea, .int ken])), (kea, .inl (cJ, 114, .inr (.inl kef))), (sp, .inr (1, [.ref spa, .int (f_Ri_addRow_0_1 spn)])), (spa, .inl (cJ, 114, .inr (.inl (f_Ri_put_1 (f_Ri_addRow_0_1 spn) (f_Ri_put_1 (f_Ri_addRow_0_1 spn) (f_Ri_put_1 (f_Ri_addRow_0_1 spn) (f_Ri_put_1 (f_Ri_addRow_0_1 spn) spf r_3 0 (r_5 + r_7)) r_3 1 (r_9 + r_11)) r_3 2 (r_13 + r_15)) r_3 3 (r_17 + r_19))))), (pi, .inr (1, [.ref pia, .int pin])), (pia, .inl (cJ, 114, .inr (.inl pif))), (fa, .inr (2, [.ref fas, .ref fat, .ref faa, .int fan])), (fas, .inl (cI, 17, .inl faS)), (fat, .inl (cI, 17, .inl faT)), (faa, .inl (cI, 17, .inl faA))] H := hP.sub [0, 1, 2, 3, 4, 11, 12, 5, 6, 7, 8, 9, 10] rfl
  have hD : va_D A [(ob, .inr (0, [.int wi, .int hi, .int fo, .ref gi, .ref ke, .ref sp, .ref pi, .ref fa])), (gi, .inr (1, [.ref gia, .int gin])), (gia, .inl (cJ, 114, .inr (.inl gif))), (ke, .inr (1, [.ref kea, .int ken])), (kea, .inl (cJ, 114, .inr (.inl kef))), (sp, .inr (1, [.ref spa, .int (f_Ri_addRow_0_1 spn)])), (spa, .inl (cJ, 114, .inr (.inl (f_Ri_put_1 (f_Ri_addRow_0_1 spn) (f_Ri_put_1 (f_Ri_addRow_0_1 spn) (f_Ri_put_1 (f_Ri_addRow_0_1 spn) (f_Ri_put_1 (f_Ri_addRow_0_1 spn) spf r_3 0 (r_5 + r_7)) r_3 1 (r_9 + r_11)) r_3 2 (r_13 + r_15)) r_3 3 (r_17 + r_19))))), (pi, .inr (1, [.ref pia, .int pin])), (pia, .inl (cJ, 114, .inr (.inl pif))), (fa, .inr (2, [.ref fas, .ref fat, .ref faa, .int fan])), (fas, .inl (cI, 17, .inl faS)), (fat, .inl (cI, 17, .inl faT)), (faa, .inl (cI, 17, .inl faA))] := hD.sub [0, 1, 2, 3, 4, 11, 12, 5, 6, 7, 8, 9, 10] (by decide) rfl
  refine lv_iinc (v := 4) (lv' := [(9, .int 4), (12, .long r_18), (10, .long r_17), (8, .int r_3), (6, .long r_2), (4, .long r_1), (0, .ref ob), (1, .int st), (2, .int le), (3, .int sd)]) hx hb d_PC_addBetween_89 hl (k := 2) rfl (by decide) (by decide) rfl (fun ls hl => ?_)
  refine lv_goto (tgt := 28) hx hb d_PC_addBetween_92 (by decide) ?_
  refine lv_iload hx hb d_PC_addBetween_28 (lv_at hl 0 rfl) ?_
  refine lv_bipush (v := 6) hx hb d_PC_addBetween_30 (by decide) ?_
  refine lv_icmp_ge (tgt := 95) hx hb d_PC_addBetween_32 (by decide) (fun c_20 => absurd c_20 (by decide)) (fun _ => ?_)
  refine lv_aload_n hx hb d_PC_addBetween_35 rfl (lv_at hl 6 rfl) ?_
  refine va_get (D := (dC, dI)) (ci := 0) (v := .ref ke) (C := R_PC) (T := F_PC) (N := 8) hx hb hts (fun w h => mw (i_PC w h)) hown hK hP 0 rfl rfl 4 (by decide) (hts _ (mw wd_85)) (fun _ h9 => h9) rfl d_PC_addBetween_36 ?_
  refine lv_iload_n hx hb d_PC_addBetween_39 rfl (lv_at hl 7 rfl) ?_
  refine lv_iload hx hb d_PC_addBetween_40 (lv_at hl 0 rfl) ?_
  have hPc := hP.sub (ws' := [(ke, .inr (1, [.ref kea, .int ken])), (kea, .inl (cJ, 114, .inr (.inl kef)))]) [3, 4] rfl
  refine vp_callSl (va_Run.run (va_runVN (As := [.int st, .int 4]) (rest := []) ⟨hx, hb, hml, hown, hts⟩ (c_Ri_at l dC dI cJ cI ke kea ken kef st 4) (⟨va_cnB 2 hts (gd_0 wd_136) rfl rfl rfl (hN _ nw_10) (hts _ (mw wd_35)) (by decide +kernel) ⟨Nat.le_of_ble_eq_true rfl, Nat.le_of_ble_eq_true rfl⟩, (hts _ (mw wd_135)), (hts _ (mw wd_5))⟩) ⟨fb_ro, va_recv hK hPc (ci := 1) (q0 := 0) rfl rfl, pre_ro hK hN hPc⟩ rfl rfl hl.1 rfl (lv_room (Nat.le_of_ble_eq_true rfl)) d_PC_addBetween_42 ⟨Nat.le_of_ble_eq_true rfl, Nat.le_of_ble_eq_true rfl⟩)) (fun r_21 er_21 => ?_)
  have er_21 : r_21 = f_Ri_at ken kef st 4 := er_21
  refine lv_lstore (lv' := [(10, .long r_21), (9, .int 4), (12, .long r_18), (8, .int r_3), (6, .long r_2), (4, .long r_1), (0, .ref ob), (1, .int st), (2, .int le), (3, .int sd)]) hx hb d_PC_addBetween_45 hl (by decide) rfl (fun ls hl => ?_)
  refine lv_aload_n hx hb d_PC_addBetween_47 rfl (lv_at hl 6 rfl) ?_
  refine va_get (D := (dC, dI)) (ci := 0) (v := .ref ke) (C := R_PC) (T := F_PC) (N := 8) hx hb hts (fun w h => mw (i_PC w h)) hown hK hP 0 rfl rfl 4 (by decide) (hts _ (mw wd_85)) (fun _ h9 => h9) rfl d_PC_addBetween_48 ?_
  refine lv_iload_n hx hb d_PC_addBetween_51 rfl (lv_at hl 8 rfl) ?_
  refine lv_iload hx hb d_PC_addBetween_52 (lv_at hl 1 rfl) ?_
  have hPc := hP.sub (ws' := [(ke, .inr (1, [.ref kea, .int ken])), (kea, .inl (cJ, 114, .inr (.inl kef)))]) [3, 4] rfl
  refine vp_callSl (va_Run.run (va_runVN (As := [.int le, .int 4]) (rest := []) ⟨hx, hb, hml, hown, hts⟩ (c_Ri_at l dC dI cJ cI ke kea ken kef le 4) (⟨va_cnB 2 hts (gd_0 wd_136) rfl rfl rfl (hN _ nw_10) (hts _ (mw wd_35)) (by decide +kernel) ⟨Nat.le_of_ble_eq_true rfl, Nat.le_of_ble_eq_true rfl⟩, (hts _ (mw wd_135)), (hts _ (mw wd_5))⟩) ⟨fb_ro, va_recv hK hPc (ci := 1) (q0 := 0) rfl rfl, pre_ro hK hN hPc⟩ rfl rfl hl.1 rfl (lv_room (Nat.le_of_ble_eq_true rfl)) d_PC_addBetween_54 ⟨Nat.le_of_ble_eq_true rfl, Nat.le_of_ble_eq_true rfl⟩)) (fun r_22 er_22 => ?_)
  have er_22 : r_22 = f_Ri_at ken kef le 4 := er_22
  refine lv_lstore (lv' := [(12, .long r_22), (10, .long r_21), (9, .int 4), (8, .int r_3), (6, .long r_2), (4, .long r_1), (0, .ref ob), (1, .int st), (2, .int le), (3, .int sd)]) hx hb d_PC_addBetween_57 hl (by decide) rfl (fun ls hl => ?_)
  refine lv_aload_n hx hb d_PC_addBetween_59 rfl (lv_at hl 6 rfl) ?_
  refine va_get (D := (dC, dI)) (ci := 0) (v := .ref sp) (C := R_PC) (T := F_PC) (N := 8) hx hb hts (fun w h => mw (i_PC w h)) hown hK hP 0 rfl rfl 5 (by decide) (hts _ (mw wd_86)) (fun _ h9 => h9) rfl d_PC_addBetween_60 ?_
  refine lv_iload hx hb d_PC_addBetween_63 (lv_at hl 3 rfl) ?_
  refine lv_iload hx hb d_PC_addBetween_65 (lv_at hl 2 rfl) ?_
  refine lv_lload hx hb d_PC_addBetween_67 (lv_at hl 1 rfl) ?_
  refine lv_lload hx hb d_PC_addBetween_69 (lv_at hl 0 rfl) ?_
  refine lv_lload hx hb d_PC_addBetween_71 (lv_at hl 1 rfl) ?_
  refine lv_lsub hx hb d_PC_addBetween_73 ?_
  refine lv_lload hx hb d_PC_addBetween_74 (lv_at hl 5 rfl) ?_
  refine lv_lmul hx hb d_PC_addBetween_76 ?_
  refine lv_lload hx hb d_PC_addBetween_77 (lv_at hl 5 rfl) ?_
  refine lv_lload hx hb d_PC_addBetween_79 (lv_at hl 4 rfl) ?_
  refine lv_lsub hx hb d_PC_addBetween_81 ?_
  refine vp_callSl (va_Run.run (va_runS (As := [.long ((r_22 - r_21) * r_1), .long (r_1 - r_2)]) (rest := [.long r_21, .int 4, .int r_3, .ref sp]) ⟨hx, hb, hml, hown, hts⟩ (c_PC_div l dC dI cJ cI ((r_22 - r_21) * r_1) (r_1 - r_2)) (va_cwS 2 hts (gd_S wd_148 wd_149 wd_33 wd_150) rfl rfl rfl (by decide +kernel) ⟨Nat.le_of_ble_eq_true rfl, Nat.le_of_ble_eq_true rfl⟩) ⟨fb_ro, pre_ro hK hN va_nil⟩ rfl rfl hl.1 rfl (lv_room (Nat.le_of_ble_eq_true rfl)) d_PC_addBetween_82 ⟨Nat.le_of_ble_eq_true rfl, Nat.le_of_ble_eq_true rfl⟩)) (fun r_23 er_23 => ?_)
  have er_23 : r_23 = f_PC_div ((r_22 - r_21) * r_1) (r_1 - r_2) := er_23
  refine lv_ladd hx hb d_PC_addBetween_85 ?_
  have hPc := hP.sub (ws' := [(sp, .inr (1, [.ref spa, .int (f_Ri_addRow_0_1 spn)])), (spa, .inl (cJ, 114, .inr (.inl (f_Ri_put_1 (f_Ri_addRow_0_1 spn) (f_Ri_put_1 (f_Ri_addRow_0_1 spn) (f_Ri_put_1 (f_Ri_addRow_0_1 spn) (f_Ri_put_1 (f_Ri_addRow_0_1 spn) spf r_3 0 (r_5 + r_7)) r_3 1 (r_9 + r_11)) r_3 2 (r_13 + r_15)) r_3 3 (r_17 + r_19)))))]) [5, 6] rfl
  have hDc := hD.sub (ws' := [(sp, .inr (1, [.ref spa, .int (f_Ri_addRow_0_1 spn)])), (spa, .inl (cJ, 114, .inr (.inl (f_Ri_put_1 (f_Ri_addRow_0_1 spn) (f_Ri_put_1 (f_Ri_addRow_0_1 spn) (f_Ri_put_1 (f_Ri_addRow_0_1 spn) (f_Ri_put_1 (f_Ri_addRow_0_1 spn) spf r_3 0 (r_5 + r_7)) r_3 1 (r_9 + r_11)) r_3 2 (r_13 + r_15)) r_3 3 (r_17 + r_19)))))]) [5, 6] (by decide) rfl
  have hFc := va_free (wc := [(sp, .inr (1, [.ref spa, .int (f_Ri_addRow_0_1 spn)])), (spa, .inl (cJ, 114, .inr (.inl (f_Ri_put_1 (f_Ri_addRow_0_1 spn) (f_Ri_put_1 (f_Ri_addRow_0_1 spn) (f_Ri_put_1 (f_Ri_addRow_0_1 spn) (f_Ri_put_1 (f_Ri_addRow_0_1 spn) spf r_3 0 (r_5 + r_7)) r_3 1 (r_9 + r_11)) r_3 2 (r_13 + r_15)) r_3 3 (r_17 + r_19)))))]) hD hS hA [5, 6] rfl
  refine va_callv (va_runVN (As := [.int r_3, .int 4, .long (r_21 + r_23)]) (rest := []) ⟨hx, hb, hml, hown, hts⟩ (c_Ri_put l dC dI cJ cI H.size sp spa (f_Ri_addRow_0_1 spn) (f_Ri_put_1 (f_Ri_addRow_0_1 spn) (f_Ri_put_1 (f_Ri_addRow_0_1 spn) (f_Ri_put_1 (f_Ri_addRow_0_1 spn) (f_Ri_put_1 (f_Ri_addRow_0_1 spn) spf r_3 0 (r_5 + r_7)) r_3 1 (r_9 + r_11)) r_3 2 (r_13 + r_15)) r_3 3 (r_17 + r_19)) r_3 4 (r_21 + r_23)) (⟨va_cnB 3 hts (gd_0 wd_113) rfl rfl rfl (hN _ nw_7) (hts _ (mw wd_35)) (by decide +kernel) ⟨Nat.le_of_ble_eq_true rfl, Nat.le_of_ble_eq_true rfl⟩, (hts _ (mw wd_112)), (hts _ (mw wd_2))⟩) ⟨fb_rw, va_recv hK hPc (ci := 1) (q0 := 0) rfl rfl, pre_rw hK hN hPc hDc⟩ rfl rfl hl.1 rfl (lv_room (Nat.le_of_ble_eq_true rfl)) d_PC_addBetween_86 ⟨Nat.le_of_ble_eq_true rfl, Nat.le_of_ble_eq_true rfl⟩) hS (fun q _ h => hFc q h) hFc (fun u t H locs ht hvm hw hB hz1 hk1 hS => ?_)
  obtain ⟨hP1, hD1⟩ := hB
  rw [ht] at hP1
  obtain ⟨hP, hD⟩ := va_join (wr := [(ob, .inr (0, [.int wi, .int hi, .int fo, .ref gi, .ref ke, .ref sp, .ref pi, .ref fa])), (gi, .inr (1, [.ref gia, .int gin])), (gia, .inl (cJ, 114, .inr (.inl gif))), (ke, .inr (1, [.ref kea, .int ken])), (kea, .inl (cJ, 114, .inr (.inl kef))), (pi, .inr (1, [.ref pia, .int pin])), (pia, .inl (cJ, 114, .inr (.inl pif))), (fa, .inr (2, [.ref fas, .ref fat, .ref faa, .int fan])), (fas, .inl (cI, 17, .inl faS)), (fat, .inl (cI, 17, .inl faT)), (faa, .inl (cI, 17, .inl faA))]) (w1 := [(sp, .inr (1, [.ref spa, .int (f_Ri_addRow_0_1 spn)])), (spa, .inl (cJ, 114, .inr (.inl (f_Ri_put_1 (f_Ri_addRow_0_1 spn) (f_Ri_put_1 (f_Ri_addRow_0_1 spn) (f_Ri_put_1 (f_Ri_addRow_0_1 spn) (f_Ri_put_1 (f_Ri_addRow_0_1 spn) (f_Ri_put_1 (f_Ri_addRow_0_1 spn) spf r_3 0 (r_5 + r_7)) r_3 1 (r_9 + r_11)) r_3 2 (r_13 + r_15)) r_3 3 (r_17 + r_19)) r_3 4 (r_21 + r_23)))))]) hP hD [5, 6] [0, 1, 2, 3, 4, 7, 8, 9, 10, 11, 12] rfl rfl (by decide) (by decide) hk1 hFc hP1 hD1
  have hP : va_P (dC, dI) cls4 [(ob, .inr (0, [.int wi, .int hi, .int fo, .ref gi, .ref ke, .ref sp, .ref pi, .ref fa])), (gi, .inr (1, [.ref gia, .int gin])), (gia, .inl (cJ, 114, .inr (.inl gif))), (ke, .inr (1, [.ref kea, .int ken])), (kea, .inl (cJ, 114, .inr (.inl kef))), (sp, .inr (1, [.ref spa, .int (f_Ri_addRow_0_1 spn)])), (spa, .inl (cJ, 114, .inr (.inl (f_Ri_put_1 (f_Ri_addRow_0_1 spn) (f_Ri_put_1 (f_Ri_addRow_0_1 spn) (f_Ri_put_1 (f_Ri_addRow_0_1 spn) (f_Ri_put_1 (f_Ri_addRow_0_1 spn) (f_Ri_put_1 (f_Ri_addRow_0_1 spn) spf r_3 0 (r_5 + r_7)) r_3 1 (r_9 + r_11)) r_3 2 (r_13 + r_15)) r_3 3 (r_17 + r_19)) r_3 4 (r_21 + r_23))))), (pi, .inr (1, [.ref pia, .int pin])), (pia, .inl (cJ, 114, .inr (.inl pif))), (fa, .inr (2, [.ref fas, .ref fat, .ref faa, .int fan])), (fas, .inl (cI, 17, .inl faS)), (fat, .inl (cI, 17, .inl faT)), (faa, .inl (cI, 17, .inl faA))] H := hP.sub [0, 1, 2, 3, 4, 11, 12, 5, 6, 7, 8, 9, 10] rfl
  have hD : va_D A [(ob, .inr (0, [.int wi, .int hi, .int fo, .ref gi, .ref ke, .ref sp, .ref pi, .ref fa])), (gi, .inr (1, [.ref gia, .int gin])), (gia, .inl (cJ, 114, .inr (.inl gif))), (ke, .inr (1, [.ref kea, .int ken])), (kea, .inl (cJ, 114, .inr (.inl kef))), (sp, .inr (1, [.ref spa, .int (f_Ri_addRow_0_1 spn)])), (spa, .inl (cJ, 114, .inr (.inl (f_Ri_put_1 (f_Ri_addRow_0_1 spn) (f_Ri_put_1 (f_Ri_addRow_0_1 spn) (f_Ri_put_1 (f_Ri_addRow_0_1 spn) (f_Ri_put_1 (f_Ri_addRow_0_1 spn) (f_Ri_put_1 (f_Ri_addRow_0_1 spn) spf r_3 0 (r_5 + r_7)) r_3 1 (r_9 + r_11)) r_3 2 (r_13 + r_15)) r_3 3 (r_17 + r_19)) r_3 4 (r_21 + r_23))))), (pi, .inr (1, [.ref pia, .int pin])), (pia, .inl (cJ, 114, .inr (.inl pif))), (fa, .inr (2, [.ref fas, .ref fat, .ref faa, .int fan])), (fas, .inl (cI, 17, .inl faS)), (fat, .inl (cI, 17, .inl faT)), (faa, .inl (cI, 17, .inl faA))] := hD.sub [0, 1, 2, 3, 4, 11, 12, 5, 6, 7, 8, 9, 10] (by decide) rfl
  refine lv_iinc (v := 5) (lv' := [(9, .int 5), (12, .long r_22), (10, .long r_21), (8, .int r_3), (6, .long r_2), (4, .long r_1), (0, .ref ob), (1, .int st), (2, .int le), (3, .int sd)]) hx hb d_PC_addBetween_89 hl (k := 2) rfl (by decide) (by decide) rfl (fun ls hl => ?_)
  refine lv_goto (tgt := 28) hx hb d_PC_addBetween_92 (by decide) ?_
  refine lv_iload hx hb d_PC_addBetween_28 (lv_at hl 0 rfl) ?_
  refine lv_bipush (v := 6) hx hb d_PC_addBetween_30 (by decide) ?_
  refine lv_icmp_ge (tgt := 95) hx hb d_PC_addBetween_32 (by decide) (fun c_24 => absurd c_24 (by decide)) (fun _ => ?_)
  refine lv_aload_n hx hb d_PC_addBetween_35 rfl (lv_at hl 6 rfl) ?_
  refine va_get (D := (dC, dI)) (ci := 0) (v := .ref ke) (C := R_PC) (T := F_PC) (N := 8) hx hb hts (fun w h => mw (i_PC w h)) hown hK hP 0 rfl rfl 4 (by decide) (hts _ (mw wd_85)) (fun _ h9 => h9) rfl d_PC_addBetween_36 ?_
  refine lv_iload_n hx hb d_PC_addBetween_39 rfl (lv_at hl 7 rfl) ?_
  refine lv_iload hx hb d_PC_addBetween_40 (lv_at hl 0 rfl) ?_
  have hPc := hP.sub (ws' := [(ke, .inr (1, [.ref kea, .int ken])), (kea, .inl (cJ, 114, .inr (.inl kef)))]) [3, 4] rfl
  refine vp_callSl (va_Run.run (va_runVN (As := [.int st, .int 5]) (rest := []) ⟨hx, hb, hml, hown, hts⟩ (c_Ri_at l dC dI cJ cI ke kea ken kef st 5) (⟨va_cnB 2 hts (gd_0 wd_136) rfl rfl rfl (hN _ nw_10) (hts _ (mw wd_35)) (by decide +kernel) ⟨Nat.le_of_ble_eq_true rfl, Nat.le_of_ble_eq_true rfl⟩, (hts _ (mw wd_135)), (hts _ (mw wd_5))⟩) ⟨fb_ro, va_recv hK hPc (ci := 1) (q0 := 0) rfl rfl, pre_ro hK hN hPc⟩ rfl rfl hl.1 rfl (lv_room (Nat.le_of_ble_eq_true rfl)) d_PC_addBetween_42 ⟨Nat.le_of_ble_eq_true rfl, Nat.le_of_ble_eq_true rfl⟩)) (fun r_25 er_25 => ?_)
  have er_25 : r_25 = f_Ri_at ken kef st 5 := er_25
  refine lv_lstore (lv' := [(10, .long r_25), (9, .int 5), (12, .long r_22), (8, .int r_3), (6, .long r_2), (4, .long r_1), (0, .ref ob), (1, .int st), (2, .int le), (3, .int sd)]) hx hb d_PC_addBetween_45 hl (by decide) rfl (fun ls hl => ?_)
  refine lv_aload_n hx hb d_PC_addBetween_47 rfl (lv_at hl 6 rfl) ?_
  refine va_get (D := (dC, dI)) (ci := 0) (v := .ref ke) (C := R_PC) (T := F_PC) (N := 8) hx hb hts (fun w h => mw (i_PC w h)) hown hK hP 0 rfl rfl 4 (by decide) (hts _ (mw wd_85)) (fun _ h9 => h9) rfl d_PC_addBetween_48 ?_
  refine lv_iload_n hx hb d_PC_addBetween_51 rfl (lv_at hl 8 rfl) ?_
  refine lv_iload hx hb d_PC_addBetween_52 (lv_at hl 1 rfl) ?_
  have hPc := hP.sub (ws' := [(ke, .inr (1, [.ref kea, .int ken])), (kea, .inl (cJ, 114, .inr (.inl kef)))]) [3, 4] rfl
  refine vp_callSl (va_Run.run (va_runVN (As := [.int le, .int 5]) (rest := []) ⟨hx, hb, hml, hown, hts⟩ (c_Ri_at l dC dI cJ cI ke kea ken kef le 5) (⟨va_cnB 2 hts (gd_0 wd_136) rfl rfl rfl (hN _ nw_10) (hts _ (mw wd_35)) (by decide +kernel) ⟨Nat.le_of_ble_eq_true rfl, Nat.le_of_ble_eq_true rfl⟩, (hts _ (mw wd_135)), (hts _ (mw wd_5))⟩) ⟨fb_ro, va_recv hK hPc (ci := 1) (q0 := 0) rfl rfl, pre_ro hK hN hPc⟩ rfl rfl hl.1 rfl (lv_room (Nat.le_of_ble_eq_true rfl)) d_PC_addBetween_54 ⟨Nat.le_of_ble_eq_true rfl, Nat.le_of_ble_eq_true rfl⟩)) (fun r_26 er_26 => ?_)
  have er_26 : r_26 = f_Ri_at ken kef le 5 := er_26
  refine lv_lstore (lv' := [(12, .long r_26), (10, .long r_25), (9, .int 5), (8, .int r_3), (6, .long r_2), (4, .long r_1), (0, .ref ob), (1, .int st), (2, .int le), (3, .int sd)]) hx hb d_PC_addBetween_57 hl (by decide) rfl (fun ls hl => ?_)
  refine lv_aload_n hx hb d_PC_addBetween_59 rfl (lv_at hl 6 rfl) ?_
  refine va_get (D := (dC, dI)) (ci := 0) (v := .ref sp) (C := R_PC) (T := F_PC) (N := 8) hx hb hts (fun w h => mw (i_PC w h)) hown hK hP 0 rfl rfl 5 (by decide) (hts _ (mw wd_86)) (fun _ h9 => h9) rfl d_PC_addBetween_60 ?_
  refine lv_iload hx hb d_PC_addBetween_63 (lv_at hl 3 rfl) ?_
  refine lv_iload hx hb d_PC_addBetween_65 (lv_at hl 2 rfl) ?_
  refine lv_lload hx hb d_PC_addBetween_67 (lv_at hl 1 rfl) ?_
  refine lv_lload hx hb d_PC_addBetween_69 (lv_at hl 0 rfl) ?_
  refine lv_lload hx hb d_PC_addBetween_71 (lv_at hl 1 rfl) ?_
  refine lv_lsub hx hb d_PC_addBetween_73 ?_
  refine lv_lload hx hb d_PC_addBetween_74 (lv_at hl 5 rfl) ?_
  refine lv_lmul hx hb d_PC_addBetween_76 ?_
  refine lv_lload hx hb d_PC_addBetween_77 (lv_at hl 5 rfl) ?_
  refine lv_lload hx hb d_PC_addBetween_79 (lv_at hl 4 rfl) ?_
  refine lv_lsub hx hb d_PC_addBetween_81 ?_
  refine vp_callSl (va_Run.run (va_runS (As := [.long ((r_26 - r_25) * r_1), .long (r_1 - r_2)]) (rest := [.long r_25, .int 5, .int r_3, .ref sp]) ⟨hx, hb, hml, hown, hts⟩ (c_PC_div l dC dI cJ cI ((r_26 - r_25) * r_1) (r_1 - r_2)) (va_cwS 2 hts (gd_S wd_148 wd_149 wd_33 wd_150) rfl rfl rfl (by decide +kernel) ⟨Nat.le_of_ble_eq_true rfl, Nat.le_of_ble_eq_true rfl⟩) ⟨fb_ro, pre_ro hK hN va_nil⟩ rfl rfl hl.1 rfl (lv_room (Nat.le_of_ble_eq_true rfl)) d_PC_addBetween_82 ⟨Nat.le_of_ble_eq_true rfl, Nat.le_of_ble_eq_true rfl⟩)) (fun r_27 er_27 => ?_)
  have er_27 : r_27 = f_PC_div ((r_26 - r_25) * r_1) (r_1 - r_2) := er_27
  refine lv_ladd hx hb d_PC_addBetween_85 ?_
  have hPc := hP.sub (ws' := [(sp, .inr (1, [.ref spa, .int (f_Ri_addRow_0_1 spn)])), (spa, .inl (cJ, 114, .inr (.inl (f_Ri_put_1 (f_Ri_addRow_0_1 spn) (f_Ri_put_1 (f_Ri_addRow_0_1 spn) (f_Ri_put_1 (f_Ri_addRow_0_1 spn) (f_Ri_put_1 (f_Ri_addRow_0_1 spn) (f_Ri_put_1 (f_Ri_addRow_0_1 spn) spf r_3 0 (r_5 + r_7)) r_3 1 (r_9 + r_11)) r_3 2 (r_13 + r_15)) r_3 3 (r_17 + r_19)) r_3 4 (r_21 + r_23)))))]) [5, 6] rfl
  have hDc := hD.sub (ws' := [(sp, .inr (1, [.ref spa, .int (f_Ri_addRow_0_1 spn)])), (spa, .inl (cJ, 114, .inr (.inl (f_Ri_put_1 (f_Ri_addRow_0_1 spn) (f_Ri_put_1 (f_Ri_addRow_0_1 spn) (f_Ri_put_1 (f_Ri_addRow_0_1 spn) (f_Ri_put_1 (f_Ri_addRow_0_1 spn) (f_Ri_put_1 (f_Ri_addRow_0_1 spn) spf r_3 0 (r_5 + r_7)) r_3 1 (r_9 + r_11)) r_3 2 (r_13 + r_15)) r_3 3 (r_17 + r_19)) r_3 4 (r_21 + r_23)))))]) [5, 6] (by decide) rfl
  have hFc := va_free (wc := [(sp, .inr (1, [.ref spa, .int (f_Ri_addRow_0_1 spn)])), (spa, .inl (cJ, 114, .inr (.inl (f_Ri_put_1 (f_Ri_addRow_0_1 spn) (f_Ri_put_1 (f_Ri_addRow_0_1 spn) (f_Ri_put_1 (f_Ri_addRow_0_1 spn) (f_Ri_put_1 (f_Ri_addRow_0_1 spn) (f_Ri_put_1 (f_Ri_addRow_0_1 spn) spf r_3 0 (r_5 + r_7)) r_3 1 (r_9 + r_11)) r_3 2 (r_13 + r_15)) r_3 3 (r_17 + r_19)) r_3 4 (r_21 + r_23)))))]) hD hS hA [5, 6] rfl
  refine va_callv (va_runVN (As := [.int r_3, .int 5, .long (r_25 + r_27)]) (rest := []) ⟨hx, hb, hml, hown, hts⟩ (c_Ri_put l dC dI cJ cI H.size sp spa (f_Ri_addRow_0_1 spn) (f_Ri_put_1 (f_Ri_addRow_0_1 spn) (f_Ri_put_1 (f_Ri_addRow_0_1 spn) (f_Ri_put_1 (f_Ri_addRow_0_1 spn) (f_Ri_put_1 (f_Ri_addRow_0_1 spn) (f_Ri_put_1 (f_Ri_addRow_0_1 spn) spf r_3 0 (r_5 + r_7)) r_3 1 (r_9 + r_11)) r_3 2 (r_13 + r_15)) r_3 3 (r_17 + r_19)) r_3 4 (r_21 + r_23)) r_3 5 (r_25 + r_27)) (⟨va_cnB 3 hts (gd_0 wd_113) rfl rfl rfl (hN _ nw_7) (hts _ (mw wd_35)) (by decide +kernel) ⟨Nat.le_of_ble_eq_true rfl, Nat.le_of_ble_eq_true rfl⟩, (hts _ (mw wd_112)), (hts _ (mw wd_2))⟩) ⟨fb_rw, va_recv hK hPc (ci := 1) (q0 := 0) rfl rfl, pre_rw hK hN hPc hDc⟩ rfl rfl hl.1 rfl (lv_room (Nat.le_of_ble_eq_true rfl)) d_PC_addBetween_86 ⟨Nat.le_of_ble_eq_true rfl, Nat.le_of_ble_eq_true rfl⟩) hS (fun q _ h => hFc q h) hFc (fun u t H locs ht hvm hw hB hz1 hk1 hS => ?_)
  obtain ⟨hP1, hD1⟩ := hB
  rw [ht] at hP1
  obtain ⟨hP, hD⟩ := va_join (wr := [(ob, .inr (0, [.int wi, .int hi, .int fo, .ref gi, .ref ke, .ref sp, .ref pi, .ref fa])), (gi, .inr (1, [.ref gia, .int gin])), (gia, .inl (cJ, 114, .inr (.inl gif))), (ke, .inr (1, [.ref kea, .int ken])), (kea, .inl (cJ, 114, .inr (.inl kef))), (pi, .inr (1, [.ref pia, .int pin])), (pia, .inl (cJ, 114, .inr (.inl pif))), (fa, .inr (2, [.ref fas, .ref fat, .ref faa, .int fan])), (fas, .inl (cI, 17, .inl faS)), (fat, .inl (cI, 17, .inl faT)), (faa, .inl (cI, 17, .inl faA))]) (w1 := [(sp, .inr (1, [.ref spa, .int (f_Ri_addRow_0_1 spn)])), (spa, .inl (cJ, 114, .inr (.inl (f_Ri_put_1 (f_Ri_addRow_0_1 spn) (f_Ri_put_1 (f_Ri_addRow_0_1 spn) (f_Ri_put_1 (f_Ri_addRow_0_1 spn) (f_Ri_put_1 (f_Ri_addRow_0_1 spn) (f_Ri_put_1 (f_Ri_addRow_0_1 spn) (f_Ri_put_1 (f_Ri_addRow_0_1 spn) spf r_3 0 (r_5 + r_7)) r_3 1 (r_9 + r_11)) r_3 2 (r_13 + r_15)) r_3 3 (r_17 + r_19)) r_3 4 (r_21 + r_23)) r_3 5 (r_25 + r_27)))))]) hP hD [5, 6] [0, 1, 2, 3, 4, 7, 8, 9, 10, 11, 12] rfl rfl (by decide) (by decide) hk1 hFc hP1 hD1
  have hP : va_P (dC, dI) cls4 [(ob, .inr (0, [.int wi, .int hi, .int fo, .ref gi, .ref ke, .ref sp, .ref pi, .ref fa])), (gi, .inr (1, [.ref gia, .int gin])), (gia, .inl (cJ, 114, .inr (.inl gif))), (ke, .inr (1, [.ref kea, .int ken])), (kea, .inl (cJ, 114, .inr (.inl kef))), (sp, .inr (1, [.ref spa, .int (f_Ri_addRow_0_1 spn)])), (spa, .inl (cJ, 114, .inr (.inl (f_Ri_put_1 (f_Ri_addRow_0_1 spn) (f_Ri_put_1 (f_Ri_addRow_0_1 spn) (f_Ri_put_1 (f_Ri_addRow_0_1 spn) (f_Ri_put_1 (f_Ri_addRow_0_1 spn) (f_Ri_put_1 (f_Ri_addRow_0_1 spn) (f_Ri_put_1 (f_Ri_addRow_0_1 spn) spf r_3 0 (r_5 + r_7)) r_3 1 (r_9 + r_11)) r_3 2 (r_13 + r_15)) r_3 3 (r_17 + r_19)) r_3 4 (r_21 + r_23)) r_3 5 (r_25 + r_27))))), (pi, .inr (1, [.ref pia, .int pin])), (pia, .inl (cJ, 114, .inr (.inl pif))), (fa, .inr (2, [.ref fas, .ref fat, .ref faa, .int fan])), (fas, .inl (cI, 17, .inl faS)), (fat, .inl (cI, 17, .inl faT)), (faa, .inl (cI, 17, .inl faA))] H := hP.sub [0, 1, 2, 3, 4, 11, 12, 5, 6, 7, 8, 9, 10] rfl
  have hD : va_D A [(ob, .inr (0, [.int wi, .int hi, .int fo, .ref gi, .ref ke, .ref sp, .ref pi, .ref fa])), (gi, .inr (1, [.ref gia, .int gin])), (gia, .inl (cJ, 114, .inr (.inl gif))), (ke, .inr (1, [.ref kea, .int ken])), (kea, .inl (cJ, 114, .inr (.inl kef))), (sp, .inr (1, [.ref spa, .int (f_Ri_addRow_0_1 spn)])), (spa, .inl (cJ, 114, .inr (.inl (f_Ri_put_1 (f_Ri_addRow_0_1 spn) (f_Ri_put_1 (f_Ri_addRow_0_1 spn) (f_Ri_put_1 (f_Ri_addRow_0_1 spn) (f_Ri_put_1 (f_Ri_addRow_0_1 spn) (f_Ri_put_1 (f_Ri_addRow_0_1 spn) (f_Ri_put_1 (f_Ri_addRow_0_1 spn) spf r_3 0 (r_5 + r_7)) r_3 1 (r_9 + r_11)) r_3 2 (r_13 + r_15)) r_3 3 (r_17 + r_19)) r_3 4 (r_21 + r_23)) r_3 5 (r_25 + r_27))))), (pi, .inr (1, [.ref pia, .int pin])), (pia, .inl (cJ, 114, .inr (.inl pif))), (fa, .inr (2, [.ref fas, .ref fat, .ref faa, .int fan])), (fas, .inl (cI, 17, .inl faS)), (fat, .inl (cI, 17, .inl faT)), (faa, .inl (cI, 17, .inl faA))] := hD.sub [0, 1, 2, 3, 4, 11, 12, 5, 6, 7, 8, 9, 10] (by decide) rfl
  refine lv_iinc (v := 6) (lv' := [(9, .int 6), (12, .long r_26), (10, .long r_25), (8, .int r_3), (6, .long r_2), (4, .long r_1), (0, .ref ob), (1, .int st), (2, .int le), (3, .int sd)]) hx hb d_PC_addBetween_89 hl (k := 2) rfl (by decide) (by decide) rfl (fun ls hl => ?_)
  refine lv_goto (tgt := 28) hx hb d_PC_addBetween_92 (by decide) ?_
  refine lv_iload hx hb d_PC_addBetween_28 (lv_at hl 0 rfl) ?_
  refine lv_bipush (v := 6) hx hb d_PC_addBetween_30 (by decide) ?_
  refine lv_icmp_ge (tgt := 95) hx hb d_PC_addBetween_32 (by decide) (fun _ => ?_) (fun c_28 => absurd (by decide) c_28)
  subst er_1
  subst er_2
  subst er_3
  subst er_5
  subst er_6
  subst er_7
  subst er_9
  subst er_10
  subst er_11
  subst er_13
  subst er_14
  subst er_15
  subst er_17
  subst er_18
  subst er_19
  subst er_21
  subst er_22
  subst er_23
  subst er_25
  subst er_26
  subst er_27
  have ew_29 : f_PC_addBetween_6 wi hi fo ken kef spn spf st le sd = f_Ri_put_1 (f_Ri_addRow_0_1 spn) (f_Ri_put_1 (f_Ri_addRow_0_1 spn) (f_Ri_put_1 (f_Ri_addRow_0_1 spn) (f_Ri_put_1 (f_Ri_addRow_0_1 spn) (f_Ri_put_1 (f_Ri_addRow_0_1 spn) (f_Ri_put_1 (f_Ri_addRow_0_1 spn) spf (f_Ri_addRow_r spn) 0 ((f_Ri_at ken kef st 0) + (f_PC_div (((f_Ri_at ken kef le 0) - (f_Ri_at ken kef st 0)) * (f_PC_sideNumber wi hi fo ken kef st sd)) ((f_PC_sideNumber wi hi fo ken kef st sd) - (f_PC_sideNumber wi hi fo ken kef le sd))))) (f_Ri_addRow_r spn) 1 ((f_Ri_at ken kef st 1) + (f_PC_div (((f_Ri_at ken kef le 1) - (f_Ri_at ken kef st 1)) * (f_PC_sideNumber wi hi fo ken kef st sd)) ((f_PC_sideNumber wi hi fo ken kef st sd) - (f_PC_sideNumber wi hi fo ken kef le sd))))) (f_Ri_addRow_r spn) 2 ((f_Ri_at ken kef st 2) + (f_PC_div (((f_Ri_at ken kef le 2) - (f_Ri_at ken kef st 2)) * (f_PC_sideNumber wi hi fo ken kef st sd)) ((f_PC_sideNumber wi hi fo ken kef st sd) - (f_PC_sideNumber wi hi fo ken kef le sd))))) (f_Ri_addRow_r spn) 3 ((f_Ri_at ken kef st 3) + (f_PC_div (((f_Ri_at ken kef le 3) - (f_Ri_at ken kef st 3)) * (f_PC_sideNumber wi hi fo ken kef st sd)) ((f_PC_sideNumber wi hi fo ken kef st sd) - (f_PC_sideNumber wi hi fo ken kef le sd))))) (f_Ri_addRow_r spn) 4 ((f_Ri_at ken kef st 4) + (f_PC_div (((f_Ri_at ken kef le 4) - (f_Ri_at ken kef st 4)) * (f_PC_sideNumber wi hi fo ken kef st sd)) ((f_PC_sideNumber wi hi fo ken kef st sd) - (f_PC_sideNumber wi hi fo ken kef le sd))))) (f_Ri_addRow_r spn) 5 ((f_Ri_at ken kef st 5) + (f_PC_div (((f_Ri_at ken kef le 5) - (f_Ri_at ken kef st 5)) * (f_PC_sideNumber wi hi fo ken kef st sd)) ((f_PC_sideNumber wi hi fo ken kef st sd) - (f_PC_sideNumber wi hi fo ken kef le sd)))) := by rw [f_PC_addBetween_6]
  exact W.vret hx hb hr (fun t ht hW => ⟨⟨(), rfl, trivial, by rw [ht, ew_29]; exact hP, by rw [ew_29]; exact hD⟩, hS.F ht⟩) hS.2.2 d_PC_addBetween_95
