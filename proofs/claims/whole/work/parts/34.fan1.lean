def f_Fa_has (fan : Int32) (ix : Int32) : Int32 := if ix < 0 then 0 else (if fan ≤ ix then 0 else (if 17 < fan then 0 else 1))
set_option maxHeartbeats 4000000 in
set_option maxRecDepth 100000 in
theorem c_Fa_has (l : Launch) (dC : Nat → ClassId) (dI : Nat → Nat → Nat) (cJ cI : ClassId) (fa : Nat) (fas : Nat) (fat : Nat) (faa : Nat) (fan : Int32) (faS : Nat → Int32) (faT : Nat → Int32) (faA : Nat → Int32) (ix : Int32) : Met l y_Fa_has w_Fa_has ({ frames := 0, cells := 0, slots := 0, locals := 0 } : Room) (rq_ro (dC, dI) cJ cI [.ref fa, .int ix] [(fa, .inr (2, [.ref fas, .ref fat, .ref faa, .int fan])), (fas, .inl (cI, 17, .inl faS)), (fat, .inl (cI, 17, .inl faT)), (faa, .inl (cI, 17, .inl faA))]) (vp_Si (fun r => r = f_Fa_has fan ix)) 0 0 (fun _ => False) := by
  refine Met.ofW (cc := b_Fa_has) (maxL := 2) (ret := (some .boolean)) (by decide) rfl ?_
  intro p e s m args below meth c s₁ B hml hv
  obtain ⟨rfl, hP, hK, hN⟩ := hv
  have hx := B.exec
  have hb := B.bytes
  have hr := B.returns
  have hts := atoms_spec (ws := w_Fa_has) B.pre
  have hown : s.vm.findClass R_Fa = some m.cls := findClass_of_methodNamed B.named
  have hlocks := B.notSynchronized
  have hl := lv_entry ([.ref fa, .int ix]) (n := 2) (Nat.le_of_ble_eq_true rfl)
  rw [lg_entry_eq]
  generalize (lg_sl ([.ref fa, .int ix]) ++ List.replicate (2 - (lg_sl ([.ref fa, .int ix])).length) Slot.unset).toArray = ls at hl ⊢
  have hl : lv_has ls 2 [(0, .ref fa), (1, .int ix)] := hl
  refine lv_iload_n hx hb d_Fa_has_0 rfl (lv_at hl 1 rfl) ?_
  refine lv_if_lt (tgt := 25) hx hb d_Fa_has_1 (by decide) (fun c_1 => ?_) (fun c_1 => ?_)
  · have c_1 : ix < 0 := c_1
    refine lv_iconst (v := 0) hx hb d_Fa_has_25 (by decide) ?_
    exact W.zret (v := 0) hx hb hr (by decide) (fun t ht hW => ⟨_, rfl, by rw [f_Fa_has, if_pos c_1], ht⟩) (fun q h => by cases h) d_Fa_has_26
  · have c_1 : ¬ (ix < 0) := c_1
    refine lv_iload_n hx hb d_Fa_has_4 rfl (lv_at hl 1 rfl) ?_
    refine lv_aload_n hx hb d_Fa_has_5 rfl (lv_at hl 0 rfl) ?_
    refine va_get (D := (dC, dI)) (ci := 2) (v := .int fan) (C := R_Fa) (T := F_Fa) (N := 4) hx hb hts (fun w h => mw (i_Fa w h)) hown hK hP 0 rfl rfl 3 (by decide) (hts _ (mw wd_75)) (fun _ h9 => h9) rfl d_Fa_has_6 ?_
    refine lv_icmp_ge (tgt := 25) hx hb d_Fa_has_9 (by decide) (fun c_2 => ?_) (fun c_2 => ?_)
    · have c_2 : fan ≤ ix := c_2
      refine lv_iconst (v := 0) hx hb d_Fa_has_25 (by decide) ?_
      exact W.zret (v := 0) hx hb hr (by decide) (fun t ht hW => ⟨_, rfl, by rw [f_Fa_has, if_neg c_1, if_pos c_2], ht⟩) (fun q h => by cases h) d_Fa_has_26
    · have c_2 : ¬ (fan ≤ ix) := c_2
      refine lv_aload_n hx hb d_Fa_has_12 rfl (lv_at hl 0 rfl) ?_
      refine va_get (D := (dC, dI)) (ci := 2) (v := .int fan) (C := R_Fa) (T := F_Fa) (N := 4) hx hb hts (fun w h => mw (i_Fa w h)) hown hK hP 0 rfl rfl 3 (by decide) (hts _ (mw wd_75)) (fun _ h9 => h9) rfl d_Fa_has_13 ?_
      refine lv_bipush (v := 17) hx hb d_Fa_has_16 (by decide) ?_
      refine lv_icmp_gt (tgt := 25) hx hb d_Fa_has_18 (by decide) (fun c_3 => ?_) (fun c_3 => ?_)
      · have c_3 : 17 < fan := c_3
        refine lv_iconst (v := 0) hx hb d_Fa_has_25 (by decide) ?_
        exact W.zret (v := 0) hx hb hr (by decide) (fun t ht hW => ⟨_, rfl, by rw [f_Fa_has, if_neg c_1, if_neg c_2, if_pos c_3], ht⟩) (fun q h => by cases h) d_Fa_has_26
      · have c_3 : ¬ (17 < fan) := c_3
        refine lv_iconst (v := 1) hx hb d_Fa_has_21 (by decide) ?_
        refine lv_goto (tgt := 26) hx hb d_Fa_has_22 (by decide) ?_
        exact W.zret (v := 1) hx hb hr (by decide) (fun t ht hW => ⟨_, rfl, by rw [f_Fa_has, if_neg c_1, if_neg c_2, if_neg c_3], ht⟩) (fun q h => by cases h) d_Fa_has_26
