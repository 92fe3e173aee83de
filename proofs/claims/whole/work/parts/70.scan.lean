set_option maxHeartbeats 4000000 in
set_option maxRecDepth 100000 in
theorem c_PC_first (l : Launch) (dC : Nat → ClassId) (dI : Nat → Nat → Nat) (cJ cI : ClassId) (ob : Nat) (wn : Nat) (hi : Int32) (fo : Int32) (gi : Nat) (gia : Nat) (gin : Int32) (gif : Nat → Int64) (ke : Nat) (kea : Nat) (ken : Int32) (kef : Nat → Int64) (sp : Nat) (spa : Nat) (spn : Int32) (spf : Nat → Int64) (pi : Nat) (pia : Nat) (pin : Int32) (pif : Nat → Int64) (fa : Nat) (fas : Nat) (fat : Nat) (faa : Nat) (fan : Int32) (faS : Nat → Int32) (faT : Nat → Int32) (faA : Nat → Int32) (ct : Nat) (pn : Nat) (S : Nat → Nat) (T : Nat → Nat) (P : Nat → Int64) (ix : Int32) (yy : Int32) (hr9 : cl_rel pin pif fan faS faT faA ct pn S T P) (hw9 : wn < 100) : Met l y_PC_first w_PC_first ({ frames := 5, cells := 0, slots := 0, locals := 127 } : Room) (rq_ro (dC, dI) cJ cI [.ref ob, .int ix, .int yy] [(ob, .inr (0, [.int (nI wn), .int hi, .int fo, .ref gi, .ref ke, .ref sp, .ref pi, .ref fa])), (gi, .inr (1, [.ref gia, .int gin])), (gia, .inl (cJ, 114, .inr (.inl gif))), (ke, .inr (1, [.ref kea, .int ken])), (kea, .inl (cJ, 114, .inr (.inl kef))), (sp, .inr (1, [.ref spa, .int spn])), (spa, .inl (cJ, 114, .inr (.inl spf))), (pi, .inr (1, [.ref pia, .int pin])), (pia, .inl (cJ, 114, .inr (.inl pif))), (fa, .inr (2, [.ref fas, .ref fat, .ref faa, .int fan])), (fas, .inl (cI, 17, .inl faS)), (fat, .inl (cI, 17, .inl faT)), (faa, .inl (cI, 17, .inl faA))]) (vp_Si (fun r => r = qa_first (nI wn) hi wn ct S T P ix yy)) 0 0 (fun _ => False) := by
  refine Met.ofW (cc := b_PC_first) (maxL := 4) (ret := (some .int)) (by decide) rfl ?_
  intro p e s m args below meth c s₁ B hml hv
  obtain ⟨rfl, hP, hK, hN⟩ := hv
  have hx := B.exec
  have hb := B.bytes
  have hr := B.returns
  have hts := atoms_spec (ws := w_PC_first) B.pre
  have hown : s.vm.findClass R_PC = some m.cls := findClass_of_methodNamed B.named
  have hlocks := B.notSynchronized
  have hl := lv_entry ([.ref ob, .int ix, .int yy]) (n := 4) (Nat.le_of_ble_eq_true rfl)
  rw [lg_entry_eq]
  generalize (lg_sl ([.ref ob, .int ix, .int yy]) ++ List.replicate (4 - (lg_sl ([.ref ob, .int ix, .int yy])).length) Slot.unset).toArray = ls at hl ⊢
  have hl : lv_has ls 4 [(0, .ref ob), (1, .int ix), (2, .int yy)] := hl
  have LOOP : ∀ (n : Nat) (k : Nat), (k ≤ wn) → (wn + 1 ≤ k + n) → (qs_up (fun xx => qc (nI wn) hi ct S T P ix (nI xx) yy) 0 (wn - 0) = qs_up (fun xx => qc (nI wn) hi ct S T P ix (nI xx) yy) k (wn - k)) → ∀ (ls : Array Slot), lv_has ls 4 [(0, .ref ob), (1, .int ix), (2, .int yy), (3, .int (nI k))] → W p l e (headSpec w_PC_first ({ frames := 5, cells := 0, slots := 0, locals := 127 } : Room)).room s m ([.ref ob, .int ix, .int yy] : List Value).toArray below meth c s.heap [] 0 0 (MQ below (vp_Si (fun r => r = qa_first (nI wn) hi wn ct S T P ix yy)) ([.ref ob, .int ix, .int yy] : List Value).toArray s 0 0 (fun _ => False)) (F0 m 2 ls []) := by
    intro  n
    induction n with
    | zero =>
      intro k hk hm hq
      exact absurd hm (by omega)
    | succ n ih =>
      intro k hk hm hq ls hl
      refine lv_iload_n hx hb d_PC_first_2 rfl (lv_at hl 3 rfl) ?_
      refine lv_aload_n hx hb d_PC_first_3 rfl (lv_at hl 0 rfl) ?_
      refine va_get (D := (dC, dI)) (ci := 0) (v := .int (nI wn)) (C := R_PC) (T := F_PC) (N := 8) hx hb hts (fun w h => mw (i_PC w h)) hown hK hP 0 rfl rfl 0 (by decide) (hts _ (mw wd_81)) (fun _ h9 => h9) rfl d_PC_first_4 ?_
      refine lv_icmp_ge (tgt := 28) hx hb d_PC_first_7 (by decide) (fun c_1 => ?_) (fun c_1 => ?_)
      · have c_1 : nI wn ≤ nI k := c_1
        rw [nI_leI (by omega) (by omega)] at c_1
        have c_1 : wn ≤ k := c_1
        refine lv_iconst (v := (-1)) hx hb d_PC_first_28 (by decide) ?_
        exact W.iret (v := (-1)) hx hb hr (fun t ht hW => ⟨_, rfl, (by show _ = qa_first _ _ _ _ _ _ _ _ _; unfold qa_first; rw [hq, qs_up_0 (by omega)]), ht⟩) (fun q h => by cases h) d_PC_first_29
      · have c_1 : ¬ (nI wn ≤ nI k) := c_1
        rw [nI_leI (by omega) (by omega)] at c_1
        have c_1 : ¬ (wn ≤ k) := c_1
        refine lv_aload_n hx hb d_PC_first_10 rfl (lv_at hl 0 rfl) ?_
        refine lv_iload_n hx hb d_PC_first_11 rfl (lv_at hl 1 rfl) ?_
        refine lv_iload_n hx hb d_PC_first_12 rfl (lv_at hl 3 rfl) ?_
        refine lv_iload_n hx hb d_PC_first_13 rfl (lv_at hl 2 rfl) ?_
        have hPc := hP
        refine vp_callSi (va_Run.run (va_runV (As := [.int ix, .int (nI k), .int yy]) (rest := []) ⟨hx, hb, hml, hown, hts⟩ (k_PC_covers l dC dI cJ cI ob (nI wn) hi fo gi gia gin gif ke kea ken kef sp spa spn spf pi pia pin pif fa fas fat faa fan faS faT faA ct pn S T P ix (nI k) yy hr9) (cwV 3 hts (gd_V wd_187 wd_188 wd_16 wd_33 wd_189) rfl rfl rfl (by decide +kernel) ⟨Nat.le_of_ble_eq_true rfl, Nat.le_of_ble_eq_true rfl⟩) ⟨fb_ro, va_recv hK hPc (ci := 0) (q0 := 0) rfl rfl, pre_ro hK hN hPc⟩ rfl rfl hl.1 rfl (lv_room (Nat.le_of_ble_eq_true rfl)) d_PC_first_14 ⟨Nat.le_of_ble_eq_true rfl, Nat.le_of_ble_eq_true rfl⟩)) (fun r_2 er_2 => ?_)
        have er_2 : r_2 = qc (nI wn) hi ct S T P ix (nI k) yy := er_2
        refine lv_if_eq (tgt := 22) hx hb d_PC_first_17 (by decide) (fun c_3 => ?_) (fun c_3 => ?_)
        · have c_3 : r_2 = 0 := c_3
          refine lv_iinc (v := (nI (k + 1))) (lv' := [(3, .int (nI (k + 1))), (0, .ref ob), (1, .int ix), (2, .int yy)]) hx hb d_PC_first_22 hl (k := 3) rfl (nI_1 k) (by decide) rfl (fun ls hl => ?_)
          refine lv_goto (tgt := 2) hx hb d_PC_first_25 (by decide) ?_
          subst er_2
          exact ih (k + 1) (by omega) (by omega) (hq.trans (qs_up_s (by omega) c_3)) ls (lv_sub hl [1, 2, 3, 0] rfl)
        · have c_3 : ¬ (r_2 = 0) := c_3
          refine lv_iload_n hx hb d_PC_first_20 rfl (lv_at hl 3 rfl) ?_
          subst er_2
          exact W.iret (v := nI k) hx hb hr (fun t ht hW => ⟨_, rfl, (by show _ = qa_first _ _ _ _ _ _ _ _ _; unfold qa_first; rw [hq]; exact (qs_up_f (f := (fun xx => qc (nI wn) hi ct S T P ix (nI xx) yy)) (by omega) c_3).symm), ht⟩) (fun q h => by cases h) d_PC_first_21
  refine lv_iconst (v := 0) hx hb d_PC_first_0 (by decide) ?_
  refine lv_istore_n (lv' := [(3, .int 0), (0, .ref ob), (1, .int ix), (2, .int yy)]) hx hb d_PC_first_1 rfl hl (by decide) rfl (fun ls hl => ?_)
  exact LOOP (wn + 1) 0 (by omega) (by omega) rfl ls (lv_sub hl [1, 2, 3, 0] rfl)
set_option maxHeartbeats 4000000 in
set_option maxRecDepth 100000 in
theorem c_PC_last (l : Launch) (dC : Nat → ClassId) (dI : Nat → Nat → Nat) (cJ cI : ClassId) (ob : Nat) (wn : Nat) (hi : Int32) (fo : Int32) (gi : Nat) (gia : Nat) (gin : Int32) (gif : Nat → Int64) (ke : Nat) (kea : Nat) (ken : Int32) (kef : Nat → Int64) (sp : Nat) (spa : Nat) (spn : Int32) (spf : Nat → Int64) (pi : Nat) (pia : Nat) (pin : Int32) (pif : Nat → Int64) (fa : Nat) (fas : Nat) (fat : Nat) (faa : Nat) (fan : Int32) (faS : Nat → Int32) (faT : Nat → Int32) (faA : Nat → Int32) (ct : Nat) (pn : Nat) (S : Nat → Nat) (T : Nat → Nat) (P : Nat → Int64) (ix : Int32) (yy : Int32) (hr9 : cl_rel pin pif fan faS faT faA ct pn S T P) (hw9 : wn < 100) : Met l y_PC_last w_PC_last ({ frames := 5, cells := 0, slots := 0, locals := 127 } : Room) (rq_ro (dC, dI) cJ cI [.ref ob, .int ix, .int yy] [(ob, .inr (0, [.int (nI wn), .int hi, .int fo, .ref gi, .ref ke, .ref sp, .ref pi, .ref fa])), (gi, .inr (1, [.ref gia, .int gin])), (gia, .inl (cJ, 114, .inr (.inl gif))), (ke, .inr (1, [.ref kea, .int ken])), (kea, .inl (cJ, 114, .inr (.inl kef))), (sp, .inr (1, [.ref spa, .int spn])), (spa, .inl (cJ, 114, .inr (.inl spf))), (pi, .inr (1, [.ref pia, .int pin])), (pia, .inl (cJ, 114, .inr (.inl pif))), (fa, .inr (2, [.ref fas, .ref fat, .ref faa, .int fan])), (fas, .inl (cI, 17, .inl faS)), (fat, .inl (cI, 17, .inl faT)), (faa, .inl (cI, 17, .inl faA))]) (vp_Si (fun r => r = qa_last (nI wn) hi wn ct S T P ix yy)) 0 0 (fun _ => False) := by
  refine Met.ofW (cc := b_PC_last) (maxL := 4) (ret := (some .int)) (by decide) rfl ?_
  intro p e s m args below meth c s₁ B hml hv
  obtain ⟨rfl, hP, hK, hN⟩ := hv
  have hx := B.exec
  have hb := B.bytes
  have hr := B.returns
  have hts := atoms_spec (ws := w_PC_last) B.pre
  have hown : s.vm.findClass R_PC = some m.cls := findClass_of_methodNamed B.named
  have hlocks := B.notSynchronized
  have hl := lv_entry ([.ref ob, .int ix, .int yy]) (n := 4) (Nat.le_of_ble_eq_true rfl)
  rw [lg_entry_eq]
  generalize (lg_sl ([.ref ob, .int ix, .int yy]) ++ List.replicate (4 - (lg_sl ([.ref ob, .int ix, .int yy])).length) Slot.unset).toArray = ls at hl ⊢
  have hl : lv_has ls 4 [(0, .ref ob), (1, .int ix), (2, .int yy)] := hl
  have LOOP : ∀ (n : Nat) (k : Nat) (yv : Int32), (k ≤ wn) → (wn + 1 ≤ (wn - k) + n ∧ k + 1 ≤ n) → (yv = nI k - 1) → (qs_dn (fun xx => qc (nI wn) hi ct S T P ix (nI xx) yy) wn = qs_dn (fun xx => qc (nI wn) hi ct S T P ix (nI xx) yy) k) → ∀ (ls : Array Slot), lv_has ls 4 [(0, .ref ob), (1, .int ix), (2, .int yy), (3, .int yv)] → W p l e (headSpec w_PC_last ({ frames := 5, cells := 0, slots := 0, locals := 127 } : Room)).room s m ([.ref ob, .int ix, .int yy] : List Value).toArray below meth c s.heap [] 0 0 (MQ below (vp_Si (fun r => r = qa_last (nI wn) hi wn ct S T P ix yy)) ([.ref ob, .int ix, .int yy] : List Value).toArray s 0 0 (fun _ => False)) (F0 m 7 ls []) := by
    intro  n
    induction n with
    | zero =>
      intro k yv hk hm hy hq
      exact absurd hm.2 (by omega)
    | succ n ih =>
      intro k yv hk hm hy hq ls hl
      refine lv_iload_n hx hb d_PC_last_7 rfl (lv_at hl 3 rfl) ?_
      refine lv_if_lt (tgt := 29) hx hb d_PC_last_8 (by decide) (fun c_1 => ?_) (fun c_1 => ?_)
      · have c_1 : yv < 0 := c_1
        refine lv_iconst (v := (-1)) hx hb d_PC_last_29 (by decide) ?_
        exact W.iret (v := (-1)) hx hb hr (fun t ht hW => ⟨_, rfl, (by show _ = qa_last _ _ _ _ _ _ _ _ _; unfold qa_last; rw [hq, qs_m0 (by omega) yv hy c_1]; rfl), ht⟩) (fun q h => by cases h) d_PC_last_30
      · have c_1 : ¬ (yv < 0) := c_1
        obtain ⟨j, rfl, rfl⟩ := qs_m1 (by omega) yv hy c_1
        refine lv_aload_n hx hb d_PC_last_11 rfl (lv_at hl 0 rfl) ?_
        refine lv_iload_n hx hb d_PC_last_12 rfl (lv_at hl 1 rfl) ?_
        refine lv_iload_n hx hb d_PC_last_13 rfl (lv_at hl 3 rfl) ?_
        refine lv_iload_n hx hb d_PC_last_14 rfl (lv_at hl 2 rfl) ?_
        have hPc := hP
        refine vp_callSi (va_Run.run (va_runV (As := [.int ix, .int (nI j), .int yy]) (rest := []) ⟨hx, hb, hml, hown, hts⟩ (k_PC_covers l dC dI cJ cI ob (nI wn) hi fo gi gia gin gif ke kea ken kef sp spa spn spf pi pia pin pif fa fas fat faa fan faS faT faA ct pn S T P ix (nI j) yy hr9) (cwV 3 hts (gd_V wd_187 wd_188 wd_16 wd_33 wd_189) rfl rfl rfl (by decide +kernel) ⟨Nat.le_of_ble_eq_true rfl, Nat.le_of_ble_eq_true rfl⟩) ⟨fb_ro, va_recv hK hPc (ci := 0) (q0 := 0) rfl rfl, pre_ro hK hN hPc⟩ rfl rfl hl.1 rfl (lv_room (Nat.le_of_ble_eq_true rfl)) d_PC_last_15 ⟨Nat.le_of_ble_eq_true rfl, Nat.le_of_ble_eq_true rfl⟩)) (fun r_2 er_2 => ?_)
        have er_2 : r_2 = qc (nI wn) hi ct S T P ix (nI j) yy := er_2
        refine lv_if_eq (tgt := 23) hx hb d_PC_last_18 (by decide) (fun c_3 => ?_) (fun c_3 => ?_)
        · have c_3 : r_2 = 0 := c_3
          obtain ⟨y_4, ey_4⟩ : ∃ z : Int32, z = (nI j) + (-1) := ⟨_, rfl⟩
          refine lv_iinc (v := y_4) (lv' := [(3, .int y_4), (0, .ref ob), (1, .int ix), (2, .int yy)]) hx hb d_PC_last_23 hl (k := 3) rfl (by rw [ey_4]; rfl) (by decide) rfl (fun ls hl => ?_)
          refine lv_goto (tgt := 7) hx hb d_PC_last_26 (by decide) ?_
          subst er_2
          exact ih j y_4 (by omega) (by omega) (by rw [ey_4, Int32.sub_eq_add_neg]) (hq.trans (qs_dn_s c_3)) ls (lv_sub hl [1, 2, 3, 0] rfl)
        · have c_3 : ¬ (r_2 = 0) := c_3
          refine lv_iload_n hx hb d_PC_last_21 rfl (lv_at hl 3 rfl) ?_
          subst er_2
          exact W.iret (v := nI j) hx hb hr (fun t ht hW => ⟨_, rfl, (by show _ = qa_last _ _ _ _ _ _ _ _ _; unfold qa_last; rw [hq]; exact (qs_dn_f (f := (fun xx => qc (nI wn) hi ct S T P ix (nI xx) yy)) c_3).symm), ht⟩) (fun q h => by cases h) d_PC_last_22
  refine lv_aload_n hx hb d_PC_last_0 rfl (lv_at hl 0 rfl) ?_
  refine va_get (D := (dC, dI)) (ci := 0) (v := .int (nI wn)) (C := R_PC) (T := F_PC) (N := 8) hx hb hts (fun w h => mw (i_PC w h)) hown hK hP 0 rfl rfl 0 (by decide) (hts _ (mw wd_81)) (fun _ h9 => h9) rfl d_PC_last_1 ?_
  refine lv_iconst (v := 1) hx hb d_PC_last_4 (by decide) ?_
  refine lv_isub hx hb d_PC_last_5 ?_
  refine lv_topi (fun y_1 ey_1 => ?_)
  refine lv_istore_n (lv' := [(3, .int y_1), (0, .ref ob), (1, .int ix), (2, .int yy)]) hx hb d_PC_last_6 rfl hl (by decide) rfl (fun ls hl => ?_)
  exact LOOP (wn + 1) wn y_1 (Nat.le_refl wn) (by omega) ey_1 rfl ls (lv_sub hl [1, 2, 3, 0] rfl)
set_option maxHeartbeats 4000000 in
set_option maxRecDepth 100000 in
theorem c_PC_covered (l : Launch) (dC : Nat → ClassId) (dI : Nat → Nat → Nat) (cJ cI : ClassId) (ob : Nat) (wi : Int32) (hi : Int32) (fo : Int32) (gi : Nat) (gia : Nat) (gin : Int32) (gif : Nat → Int64) (ke : Nat) (kea : Nat) (ken : Int32) (kef : Nat → Int64) (sp : Nat) (spa : Nat) (spn : Int32) (spf : Nat → Int64) (pi : Nat) (pia : Nat) (pin : Int32) (pif : Nat → Int64) (fa : Nat) (fas : Nat) (fat : Nat) (faa : Nat) (ct : Nat) (faS : Nat → Int32) (faT : Nat → Int32) (faA : Nat → Int32) (pn : Nat) (S : Nat → Nat) (T : Nat → Nat) (P : Nat → Int64) (xx : Int32) (yy : Int32) (hr9 : cl_rel pin pif (nI ct) faS faT faA ct pn S T P) (hc9 : ct < 100) : Met l y_PC_covered w_PC_covered ({ frames := 5, cells := 0, slots := 0, locals := 127 } : Room) (rq_ro (dC, dI) cJ cI [.ref ob, .int xx, .int yy] [(ob, .inr (0, [.int wi, .int hi, .int fo, .ref gi, .ref ke, .ref sp, .ref pi, .ref fa])), (gi, .inr (1, [.ref gia, .int gin])), (gia, .inl (cJ, 114, .inr (.inl gif))), (ke, .inr (1, [.ref kea, .int ken])), (kea, .inl (cJ, 114, .inr (.inl kef))), (sp, .inr (1, [.ref spa, .int spn])), (spa, .inl (cJ, 114, .inr (.inl spf))), (pi, .inr (1, [.ref pia, .int pin])), (pia, .inl (cJ, 114, .inr (.inl pif))), (fa, .inr (2, [.ref fas, .ref fat, .ref faa, .int (nI ct)])), (fas, .inl (cI, 17, .inl faS)), (fat, .inl (cI, 17, .inl faT)), (faa, .inl (cI, 17, .inl faA))]) (vp_Si (fun r => r = qa_covered wi hi ct S T P xx yy)) 0 0 (fun _ => False) := by
  refine Met.ofW (cc := b_PC_covered) (maxL := 5) (ret := (some .int)) (by decide) rfl ?_
  intro p e s m args below meth c s₁ B hml hv
  obtain ⟨rfl, hP, hK, hN⟩ := hv
  have hx := B.exec
  have hb := B.bytes
  have hr := B.returns
  have hts := atoms_spec (ws := w_PC_covered) B.pre
  have hown : s.vm.findClass R_PC = some m.cls := findClass_of_methodNamed B.named
  have hlocks := B.notSynchronized
  have hl := lv_entry ([.ref ob, .int xx, .int yy]) (n := 5) (Nat.le_of_ble_eq_true rfl)
  rw [lg_entry_eq]
  generalize (lg_sl ([.ref ob, .int xx, .int yy]) ++ List.replicate (5 - (lg_sl ([.ref ob, .int xx, .int yy])).length) Slot.unset).toArray = ls at hl ⊢
  have hl : lv_has ls 5 [(0, .ref ob), (1, .int xx), (2, .int yy)] := hl
  have LOOP : qy_pix wi hi xx yy → ∀ (n : Nat) (k : Nat) (yv : Int32), (k ≤ ct) → (ct + 1 ≤ k + n) → (yv = qs_ct (fun ix => qc wi hi ct S T P (nI ix) xx yy) k) → ∀ (ls : Array Slot), lv_has ls 5 [(0, .ref ob), (1, .int xx), (2, .int yy), (3, .int yv), (4, .int (nI k))] → W p l e (headSpec w_PC_covered ({ frames := 5, cells := 0, slots := 0, locals := 127 } : Room)).room s m ([.ref ob, .int xx, .int yy] : List Value).toArray below meth c s.heap [] 0 0 (MQ below (vp_Si (fun r => r = qa_covered wi hi ct S T P xx yy)) ([.ref ob, .int xx, .int yy] : List Value).toArray s 0 0 (fun _ => False)) (F0 m 16 ls []) := by
    intro hpx n
    induction n with
    | zero =>
      intro k yv hk hm hy
      exact absurd hm (by omega)
    | succ n ih =>
      intro k yv hk hm hy ls hl
      refine lv_iload hx hb d_PC_covered_16 (lv_at hl 4 rfl) ?_
      refine lv_aload_n hx hb d_PC_covered_18 rfl (lv_at hl 0 rfl) ?_
      refine va_get (D := (dC, dI)) (ci := 0) (v := .ref fa) (C := R_PC) (T := F_PC) (N := 8) hx hb hts (fun w h => mw (i_PC w h)) hown hK hP 0 rfl rfl 7 (by decide) (hts _ (mw wd_88)) (fun _ h9 => h9) rfl d_PC_covered_19 ?_
      refine va_getN (D := (dC, dI)) (ci := 2) (v := .int (nI ct)) (C := R_Fa) (T := F_Fa) (N := 4) hx hb hts (fun w h => mw (i_Fa w h)) hown hK hP 9 rfl rfl 3 (by decide) (va_Nw.use rfl (hN _ nw_5)) (fun _ h9 => h9) rfl d_PC_covered_22 ?_
      refine lv_icmp_ge (tgt := 48) hx hb d_PC_covered_25 (by decide) (fun c_1 => ?_) (fun c_1 => ?_)
      · have c_1 : nI ct ≤ nI k := c_1
        rw [nI_leI (by omega) (by omega)] at c_1
        have c_1 : ct ≤ k := c_1
        refine lv_iload_n hx hb d_PC_covered_48 rfl (lv_at hl 3 rfl) ?_
        exact W.iret (v := yv) hx hb hr (fun t ht hW => ⟨_, rfl, (by rw [qa_cov_1 hpx, hy, show ct = k by omega]; rfl), ht⟩) (fun q h => by cases h) d_PC_covered_49
      · have c_1 : ¬ (nI ct ≤ nI k) := c_1
        rw [nI_leI (by omega) (by omega)] at c_1
        have c_1 : ¬ (ct ≤ k) := c_1
        refine lv_aload_n hx hb d_PC_covered_28 rfl (lv_at hl 0 rfl) ?_
        refine lv_iload hx hb d_PC_covered_29 (lv_at hl 4 rfl) ?_
        refine lv_iload_n hx hb d_PC_covered_31 rfl (lv_at hl 1 rfl) ?_
        refine lv_iload_n hx hb d_PC_covered_32 rfl (lv_at hl 2 rfl) ?_
        have hPc := hP
        refine vp_callSi (va_Run.run (va_runV (As := [.int (nI k), .int xx, .int yy]) (rest := []) ⟨hx, hb, hml, hown, hts⟩ (k_PC_covers l dC dI cJ cI ob wi hi fo gi gia gin gif ke kea ken kef sp spa spn spf pi pia pin pif fa fas fat faa (nI ct) faS faT faA ct pn S T P (nI k) xx yy hr9) (cwV 3 hts (gd_V wd_187 wd_188 wd_16 wd_33 wd_189) rfl rfl rfl (by decide +kernel) ⟨Nat.le_of_ble_eq_true rfl, Nat.le_of_ble_eq_true rfl⟩) ⟨fb_ro, va_recv hK hPc (ci := 0) (q0 := 0) rfl rfl, pre_ro hK hN hPc⟩ rfl rfl hl.1 rfl (lv_room (Nat.le_of_ble_eq_true rfl)) d_PC_covered_33 ⟨Nat.le_of_ble_eq_true rfl, Nat.le_of_ble_eq_true rfl⟩)) (fun r_2 er_2 => ?_)
        have er_2 : r_2 = qc wi hi ct S T P (nI k) xx yy := er_2
        refine lv_if_eq (tgt := 42) hx hb d_PC_covered_36 (by decide) (fun c_3 => ?_) (fun c_3 => ?_)
        · have c_3 : r_2 = 0 := c_3
          refine lv_iinc (v := (nI (k + 1))) (lv' := [(4, .int (nI (k + 1))), (0, .ref ob), (1, .int xx), (2, .int yy), (3, .int yv)]) hx hb d_PC_covered_42 hl (k := 4) rfl (nI_1 k) (by decide) rfl (fun ls hl => ?_)
          refine lv_goto (tgt := 16) hx hb d_PC_covered_45 (by decide) ?_
          subst er_2
          exact ih (k + 1) yv (by omega) (by omega) (hy.trans (qs_ct_0 (f := (fun ix => qc wi hi ct S T P (nI ix) xx yy)) c_3).symm) ls (lv_sub hl [1, 2, 3, 4, 0] rfl)
        · have c_3 : ¬ (r_2 = 0) := c_3
          obtain ⟨y_4, ey_4⟩ : ∃ z : Int32, z = yv + 1 := ⟨_, rfl⟩
          refine lv_iinc (v := y_4) (lv' := [(3, .int y_4), (0, .ref ob), (1, .int xx), (2, .int yy), (4, .int (nI k))]) hx hb d_PC_covered_39 hl (k := 3) rfl (by rw [ey_4]; rfl) (by decide) rfl (fun ls hl => ?_)
          refine lv_iinc (v := (nI (k + 1))) (lv' := [(4, .int (nI (k + 1))), (3, .int y_4), (0, .ref ob), (1, .int xx), (2, .int yy)]) hx hb d_PC_covered_42 hl (k := 4) rfl (nI_1 k) (by decide) rfl (fun ls hl => ?_)
          refine lv_goto (tgt := 16) hx hb d_PC_covered_45 (by decide) ?_
          subst er_2
          exact ih (k + 1) y_4 (by omega) (by omega) ((by rw [ey_4, hy]; exact (qs_ct_1 (f := (fun ix => qc wi hi ct S T P (nI ix) xx yy)) c_3).symm)) ls (lv_sub hl [2, 3, 4, 1, 0] rfl)
  refine lv_aload_n hx hb d_PC_covered_0 rfl (lv_at hl 0 rfl) ?_
  refine lv_iload_n hx hb d_PC_covered_1 rfl (lv_at hl 1 rfl) ?_
  refine lv_iload_n hx hb d_PC_covered_2 rfl (lv_at hl 2 rfl) ?_
  have hPc := hP
  refine vp_callSi (va_Run.run (va_runV (As := [.int xx, .int yy]) (rest := []) ⟨hx, hb, hml, hown, hts⟩ (c_PC_isPixel l dC dI cJ cI ob wi hi fo gi gia gin gif ke kea ken kef sp spa spn spf pi pia pin pif fa fas fat faa (nI ct) faS faT faA xx yy) (cwV 2 hts (gd_V wd_190 wd_191 wd_17 wd_33 wd_192) rfl rfl rfl (by decide +kernel) ⟨Nat.le_of_ble_eq_true rfl, Nat.le_of_ble_eq_true rfl⟩) ⟨fb_ro, va_recv hK hPc (ci := 0) (q0 := 0) rfl rfl, pre_ro hK hN hPc⟩ rfl rfl hl.1 rfl (lv_room (Nat.le_of_ble_eq_true rfl)) d_PC_covered_3 ⟨Nat.le_of_ble_eq_true rfl, Nat.le_of_ble_eq_true rfl⟩)) (fun r_1 er_1 => ?_)
  have er_1 : r_1 = f_PC_isPixel wi hi xx yy := er_1
  refine lv_if_ne (tgt := 11) hx hb d_PC_covered_6 (by decide) (fun c_2 => ?_) (fun c_2 => ?_)
  · have c_2 : ¬ (r_1 = 0) := c_2
    refine lv_iconst (v := 0) hx hb d_PC_covered_11 (by decide) ?_
    refine lv_istore_n (lv' := [(3, .int 0), (0, .ref ob), (1, .int xx), (2, .int yy)]) hx hb d_PC_covered_12 rfl hl (by decide) rfl (fun ls hl => ?_)
    refine lv_iconst (v := 0) hx hb d_PC_covered_13 (by decide) ?_
    refine lv_istore (lv' := [(4, .int 0), (3, .int 0), (0, .ref ob), (1, .int xx), (2, .int yy)]) hx hb d_PC_covered_14 hl (by decide) rfl (fun ls hl => ?_)
    subst er_1
    have hpx : qy_pix wi hi xx yy := Classical.byContradiction fun q => c_2 ((cl_pix).2 q)
    exact LOOP hpx (ct + 1) 0 0 (by omega) (by omega) rfl ls (lv_sub hl [2, 3, 4, 1, 0] rfl)
  · have c_2 : r_1 = 0 := c_2
    refine lv_iconst (v := (-1)) hx hb d_PC_covered_9 (by decide) ?_
    subst er_1
    exact W.iret (v := (-1)) hx hb hr (fun t ht hW => ⟨_, rfl, (by rw [qa_cov_0]; exact fun q => absurd ((cl_pix).1 q) (by rw [c_2]; decide)), ht⟩) (fun q h => by cases h) d_PC_covered_10
set_option maxHeartbeats 4000000 in
set_option maxRecDepth 100000 in
theorem c_Mo_first (l : Launch) (dC : Nat → ClassId) (dI : Nat → Nat → Nat) (cJ cI : ClassId) (sz : Nat) (mo : Nat) (wn : Nat) (hi : Int32) (fo : Int32) (mt : Nat) (mr : Nat) (ma : Int32) (mx : Nat) (mn : Int32) (mp : Nat) (mq : Nat) (ct : Nat) (mtf : Nat → Int64) (mrf : Nat → Int64) (mxf : Nat → Int64) (mpf : Nat → Int64) (mqf : Nat → Int64) (pn : Nat) (S : Nat → Nat) (T : Nat → Nat) (P : Nat → Int64) (ix : Int32) (yy : Int32) (hr9 : mo_rel mpf mqf ct pn S T P) (hw9 : wn < 100) (hp9 : mo_wh (nI wn) hi) : Met l y_Mo_first w_Mo_first ({ frames := 3, cells := 0, slots := 0, locals := 79 } : Room) (rq_rw (dC, dI) cJ cI sz [.ref mo, .int ix, .int yy] [(mo, .inr (3, [.int 0, .int (nI wn), .int hi, .int fo, .ref mt, .ref mr, .int ma, .ref mx, .int mn, .ref mp, .ref mq, .int (nI ct)])), (mt, .inl (cJ, 18, .inr (.inl mtf))), (mr, .inl (cJ, 120, .inr (.inl mrf))), (mx, .inl (cJ, 120, .inr (.inl mxf))), (mp, .inl (cJ, 324, .inr (.inl mpf))), (mq, .inl (cJ, 18, .inr (.inl mqf)))]) (va_Qi (fun (r : Int32) (_ : Unit) => r = qa_first (nI wn) hi wn ct S T P ix yy) (rz (dC, dI) (va_A [(mo, .inr (3, [.int 0, .int (nI wn), .int hi, .int fo, .ref mt, .ref mr, .int ma, .ref mx, .int mn, .ref mp, .ref mq, .int (nI ct)])), (mt, .inl (cJ, 18, .inr (.inl mtf))), (mr, .inl (cJ, 120, .inr (.inl mrf))), (mx, .inl (cJ, 120, .inr (.inl mxf))), (mp, .inl (cJ, 324, .inr (.inl mpf))), (mq, .inl (cJ, 18, .inr (.inl mqf)))] sz) [(mo, .inr (3, [.int 0, .int (nI wn), .int hi, .int fo, .ref mt, .ref mr, .int ma, .ref mx, .int mn, .ref mp, .ref mq, .int (nI ct)])), (mt, .inl (cJ, 18, .inr (.inl mtf))), (mr, .inl (cJ, 120, .inr (.inl mrf))), (mx, .inl (cJ, 120, .inr (.inl mxf))), (mp, .inl (cJ, 324, .inr (.inl mpf))), (mq, .inl (cJ, 18, .inr (.inl mqf)))]) (va_A [(mo, .inr (3, [.int 0, .int (nI wn), .int hi, .int fo, .ref mt, .ref mr, .int ma, .ref mx, .int mn, .ref mp, .ref mq, .int (nI ct)])), (mt, .inl (cJ, 18, .inr (.inl mtf))), (mr, .inl (cJ, 120, .inr (.inl mrf))), (mx, .inl (cJ, 120, .inr (.inl mxf))), (mp, .inl (cJ, 324, .inr (.inl mpf))), (mq, .inl (cJ, 18, .inr (.inl mqf)))] sz)) 0 0 (va_A [(mo, .inr (3, [.int 0, .int (nI wn), .int hi, .int fo, .ref mt, .ref mr, .int ma, .ref mx, .int mn, .ref mp, .ref mq, .int (nI ct)])), (mt, .inl (cJ, 18, .inr (.inl mtf))), (mr, .inl (cJ, 120, .inr (.inl mrf))), (mx, .inl (cJ, 120, .inr (.inl mxf))), (mp, .inl (cJ, 324, .inr (.inl mpf))), (mq, .inl (cJ, 18, .inr (.inl mqf)))] sz) := by
  refine Met.ofW (cc := b_Mo_first) (maxL := 4) (ret := (some .int)) (by decide) rfl ?_
  intro p e s m args below meth c s₁ B hml hv
  obtain ⟨rfl, hsz, hP, hK, hN, hD0⟩ := hv
  have hx := B.exec
  have hb := B.bytes
  have hr := B.returns
  have hts := atoms_spec (ws := w_Mo_first) B.pre
  have hown : s.vm.findClass R_Mo = some m.cls := findClass_of_methodNamed B.named
  have hlocks := B.notSynchronized
  subst hsz
  have hD := hD0.self (sz := s.heap.size)
  generalize hAe : va_A [(mo, .inr (3, [.int 0, .int (nI wn), .int hi, .int fo, .ref mt, .ref mr, .int ma, .ref mx, .int mn, .ref mp, .ref mq, .int (nI ct)])), (mt, .inl (cJ, 18, .inr (.inl mtf))), (mr, .inl (cJ, 120, .inr (.inl mrf))), (mx, .inl (cJ, 120, .inr (.inl mxf))), (mp, .inl (cJ, 324, .inr (.inl mpf))), (mq, .inl (cJ, 18, .inr (.inl mqf)))] s.heap.size = A at hD ⊢
  have hA : ∀ q : Nat, s.heap.size ≤ q → A q := fun q h => by rw [← hAe]; exact Or.inr h
  have hS : va_S A s.heap s.heap [] := va_S.rf
  have hl := lv_entry ([.ref mo, .int ix, .int yy]) (n := 4) (Nat.le_of_ble_eq_true rfl)
  rw [lg_entry_eq]
  generalize (lg_sl ([.ref mo, .int ix, .int yy]) ++ List.replicate (4 - (lg_sl ([.ref mo, .int ix, .int yy])).length) Slot.unset).toArray = ls at hl ⊢
  have hl : lv_has ls 4 [(0, .ref mo), (1, .int ix), (2, .int yy)] := hl
  have hP : va_P (dC, dI) cls4 [(mo, .inr (3, [.int 0, .int (nI wn), .int hi, .int fo, .ref mt, .ref mr, .int ma, .ref mx, .int mn, .ref mp, .ref mq, .int (nI ct)])), (mt, .inl (cJ, 18, .inr (.inl mtf))), (mr, .inl (cJ, 120, .inr (.inl mrf))), (mx, .inl (cJ, 120, .inr (.inl mxf))), (mp, .inl (cJ, 324, .inr (.inl mpf))), (mq, .inl (cJ, 18, .inr (.inl mqf)))] s.heap := hP
  have LOOP : ∀ (n : Nat) (k : Nat), (k ≤ wn) → (wn + 1 ≤ k + n) → (qs_up (fun xx => qc (nI wn) hi ct S T P ix (nI xx) yy) 0 (wn - 0) = qs_up (fun xx => qc (nI wn) hi ct S T P ix (nI xx) yy) k (wn - k)) → ∀ (H : Heap) (locs : List Loc), va_P (dC, dI) cls4 [(mo, .inr (3, [.int 0, .int (nI wn), .int hi, .int fo, .ref mt, .ref mr, .int ma, .ref mx, .int mn, .ref mp, .ref mq, .int (nI ct)])), (mt, .inl (cJ, 18, .inr (.inl mtf))), (mr, .inl (cJ, 120, .inr (.inl mrf))), (mx, .inl (cJ, 120, .inr (.inl mxf))), (mp, .inl (cJ, 324, .inr (.inl mpf))), (mq, .inl (cJ, 18, .inr (.inl mqf)))] H → va_D A [(mo, .inr (3, [.int 0, .int (nI wn), .int hi, .int fo, .ref mt, .ref mr, .int ma, .ref mx, .int mn, .ref mp, .ref mq, .int (nI ct)])), (mt, .inl (cJ, 18, .inr (.inl mtf))), (mr, .inl (cJ, 120, .inr (.inl mrf))), (mx, .inl (cJ, 120, .inr (.inl mxf))), (mp, .inl (cJ, 324, .inr (.inl mpf))), (mq, .inl (cJ, 18, .inr (.inl mqf)))] → va_S A s.heap H locs → ∀ (ls : Array Slot), lv_has ls 4 [(0, .ref mo), (1, .int ix), (2, .int yy), (3, .int (nI k))] → W p l e (headSpec w_Mo_first ({ frames := 3, cells := 0, slots := 0, locals := 79 } : Room)).room s m ([.ref mo, .int ix, .int yy] : List Value).toArray below meth c H locs 0 0 (MQ below (va_Qi (fun (r : Int32) (_ : Unit) => r = qa_first (nI wn) hi wn ct S T P ix yy) (rz (dC, dI) A [(mo, .inr (3, [.int 0, .int (nI wn), .int hi, .int fo, .ref mt, .ref mr, .int ma, .ref mx, .int mn, .ref mp, .ref mq, .int (nI ct)])), (mt, .inl (cJ, 18, .inr (.inl mtf))), (mr, .inl (cJ, 120, .inr (.inl mrf))), (mx, .inl (cJ, 120, .inr (.inl mxf))), (mp, .inl (cJ, 324, .inr (.inl mpf))), (mq, .inl (cJ, 18, .inr (.inl mqf)))]) A) ([.ref mo, .int ix, .int yy] : List Value).toArray s 0 0 A) (F0 m 7 ls []) := by
    intro  n
    induction n with
    | zero =>
      intro k hk hm hq
      exact absurd hm (by omega)
    | succ n ih =>
      intro k hk hm hq H locs hP hD hS ls hl
      refine lv_iload_n hx hb d_Mo_first_7 rfl (lv_at hl 3 rfl) ?_
      refine lv_aload_n hx hb d_Mo_first_8 rfl (lv_at hl 0 rfl) ?_
      refine va_get (D := (dC, dI)) (ci := 3) (v := .int (nI wn)) (C := R_Mo) (T := F_Mo) (N := 12) hx hb hts (fun w h => mw (i_Mo w h)) hown hK hP 0 rfl rfl 1 (by decide) (hts _ (mw wd_238)) (fun _ h9 => h9) rfl d_Mo_first_9 ?_
      refine lv_icmp_ge (tgt := 33) hx hb d_Mo_first_12 (by decide) (fun c_1 => ?_) (fun c_1 => ?_)
      · have c_1 : nI wn ≤ nI k := c_1
        rw [nI_leI (by omega) (by omega)] at c_1
        have c_1 : wn ≤ k := c_1
        refine lv_iconst (v := (-1)) hx hb d_Mo_first_33 (by decide) ?_
        exact W.iret (v := (-1)) hx hb hr (fun t ht hW => ⟨⟨_, (), rfl, (by show _ = qa_first _ _ _ _ _ _ _ _ _; unfold qa_first; rw [hq, qs_up_0 (by omega)]), by rw [ht]; exact hP, hD⟩, hS.F ht⟩) hS.2.2 d_Mo_first_34
      · have c_1 : ¬ (nI wn ≤ nI k) := c_1
        rw [nI_leI (by omega) (by omega)] at c_1
        have c_1 : ¬ (wn ≤ k) := c_1
        refine lv_aload_n hx hb d_Mo_first_15 rfl (lv_at hl 0 rfl) ?_
        refine lv_iload_n hx hb d_Mo_first_16 rfl (lv_at hl 1 rfl) ?_
        refine lv_iload_n hx hb d_Mo_first_17 rfl (lv_at hl 3 rfl) ?_
        refine lv_iload_n hx hb d_Mo_first_18 rfl (lv_at hl 2 rfl) ?_
        have hPc := hP
        refine vp_callSi (va_Run.run (va_runV (As := [.int ix, .int (nI k), .int yy]) (rest := []) ⟨hx, hb, hml, hown, hts⟩ (k_Mo_covers l dC dI cJ cI mo (nI wn) hi fo mt mr ma mx mn mp mq ct mtf mrf mxf mpf mqf pn S T P ix (nI k) yy hr9 hp9) (cwV 3 hts (gd_V wd_322 wd_323 wd_27 wd_37 wd_324) rfl rfl rfl (by decide +kernel) ⟨Nat.le_of_ble_eq_true rfl, Nat.le_of_ble_eq_true rfl⟩) ⟨fb_ro, va_recv hK hPc (ci := 3) (q0 := 0) rfl rfl, pre_ro hK hN hPc⟩ rfl rfl hl.1 rfl (lv_room (Nat.le_of_ble_eq_true rfl)) d_Mo_first_19 ⟨Nat.le_of_ble_eq_true rfl, Nat.le_of_ble_eq_true rfl⟩)) (fun r_2 er_2 => ?_)
        have er_2 : r_2 = qc (nI wn) hi ct S T P ix (nI k) yy := er_2
        refine lv_if_eq (tgt := 27) hx hb d_Mo_first_22 (by decide) (fun c_3 => ?_) (fun c_3 => ?_)
        · have c_3 : r_2 = 0 := c_3
          refine lv_iinc (v := (nI (k + 1))) (lv' := [(3, .int (nI (k + 1))), (0, .ref mo), (1, .int ix), (2, .int yy)]) hx hb d_Mo_first_27 hl (k := 3) rfl (nI_1 k) (by decide) rfl (fun ls hl => ?_)
          refine lv_goto (tgt := 7) hx hb d_Mo_first_30 (by decide) ?_
          subst er_2
          exact ih (k + 1) (by omega) (by omega) (hq.trans (qs_up_s (by omega) c_3)) _ _ hP hD hS ls (lv_sub hl [1, 2, 3, 0] rfl)
        · have c_3 : ¬ (r_2 = 0) := c_3
          refine lv_iload_n hx hb d_Mo_first_25 rfl (lv_at hl 3 rfl) ?_
          subst er_2
          exact W.iret (v := nI k) hx hb hr (fun t ht hW => ⟨⟨_, (), rfl, (by show _ = qa_first _ _ _ _ _ _ _ _ _; unfold qa_first; rw [hq]; exact (qs_up_f (f := (fun xx => qc (nI wn) hi ct S T P ix (nI xx) yy)) (by omega) c_3).symm), by rw [ht]; exact hP, hD⟩, hS.F ht⟩) hS.2.2 d_Mo_first_26
  refine lv_aload_n hx hb d_Mo_first_0 rfl (lv_at hl 0 rfl) ?_
  refine lv_iconst (v := 0) hx hb d_Mo_first_1 (by decide) ?_
  refine va_put (D := (dC, dI)) (ci := 3) (v := .int 0) (ty := .int) (C := R_Mo) (T := F_Mo) (N := 12) hx hb hts (fun w h => mw (i_Mo w h)) t_Mo t_Mo_ok n_Mo hown hK hP hD hS 0 rfl rfl 0 (by decide) (hts _ (mw wd_237)) (fun _ h9 => h9) rfl (by decide +kernel) rfl rfl (Nat.le_of_ble_eq_true rfl) d_Mo_first_2 (fun H locs hP hD hS => ?_)
  have hP : va_P (dC, dI) cls4 [(mo, .inr (3, [.int 0, .int (nI wn), .int hi, .int fo, .ref mt, .ref mr, .int ma, .ref mx, .int mn, .ref mp, .ref mq, .int (nI ct)])), (mt, .inl (cJ, 18, .inr (.inl mtf))), (mr, .inl (cJ, 120, .inr (.inl mrf))), (mx, .inl (cJ, 120, .inr (.inl mxf))), (mp, .inl (cJ, 324, .inr (.inl mpf))), (mq, .inl (cJ, 18, .inr (.inl mqf)))] H := hP
  have hD : va_D A [(mo, .inr (3, [.int 0, .int (nI wn), .int hi, .int fo, .ref mt, .ref mr, .int ma, .ref mx, .int mn, .ref mp, .ref mq, .int (nI ct)])), (mt, .inl (cJ, 18, .inr (.inl mtf))), (mr, .inl (cJ, 120, .inr (.inl mrf))), (mx, .inl (cJ, 120, .inr (.inl mxf))), (mp, .inl (cJ, 324, .inr (.inl mpf))), (mq, .inl (cJ, 18, .inr (.inl mqf)))] := hD
  refine lv_iconst (v := 0) hx hb d_Mo_first_5 (by decide) ?_
  refine lv_istore_n (lv' := [(3, .int 0), (0, .ref mo), (1, .int ix), (2, .int yy)]) hx hb d_Mo_first_6 rfl hl (by decide) rfl (fun ls hl => ?_)
  exact LOOP (wn + 1) 0 (by omega) (by omega) rfl _ _ hP hD hS ls (lv_sub hl [1, 2, 3, 0] rfl)
set_option maxHeartbeats 4000000 in
set_option maxRecDepth 100000 in
theorem c_Mo_last (l : Launch) (dC : Nat → ClassId) (dI : Nat → Nat → Nat) (cJ cI : ClassId) (sz : Nat) (mo : Nat) (wn : Nat) (hi : Int32) (fo : Int32) (mt : Nat) (mr : Nat) (ma : Int32) (mx : Nat) (mn : Int32) (mp : Nat) (mq : Nat) (ct : Nat) (mtf : Nat → Int64) (mrf : Nat → Int64) (mxf : Nat → Int64) (mpf : Nat → Int64) (mqf : Nat → Int64) (pn : Nat) (S : Nat → Nat) (T : Nat → Nat) (P : Nat → Int64) (ix : Int32) (yy : Int32) (hr9 : mo_rel mpf mqf ct pn S T P) (hw9 : wn < 100) (hp9 : mo_wh (nI wn) hi) : Met l y_Mo_last w_Mo_last ({ frames := 3, cells := 0, slots := 0, locals := 79 } : Room) (rq_rw (dC, dI) cJ cI sz [.ref mo, .int ix, .int yy] [(mo, .inr (3, [.int 0, .int (nI wn), .int hi, .int fo, .ref mt, .ref mr, .int ma, .ref mx, .int mn, .ref mp, .ref mq, .int (nI ct)])), (mt, .inl (cJ, 18, .inr (.inl mtf))), (mr, .inl (cJ, 120, .inr (.inl mrf))), (mx, .inl (cJ, 120, .inr (.inl mxf))), (mp, .inl (cJ, 324, .inr (.inl mpf))), (mq, .inl (cJ, 18, .inr (.inl mqf)))]) (va_Qi (fun (r : Int32) (_ : Unit) => r = qa_last (nI wn) hi wn ct S T P ix yy) (rz (dC, dI) (va_A [(mo, .inr (3, [.int 0, .int (nI wn), .int hi, .int fo, .ref mt, .ref mr, .int ma, .ref mx, .int mn, .ref mp, .ref mq, .int (nI ct)])), (mt, .inl (cJ, 18, .inr (.inl mtf))), (mr, .inl (cJ, 120, .inr (.inl mrf))), (mx, .inl (cJ, 120, .inr (.inl mxf))), (mp, .inl (cJ, 324, .inr (.inl mpf))), (mq, .inl (cJ, 18, .inr (.inl mqf)))] sz) [(mo, .inr (3, [.int 0, .int (nI wn), .int hi, .int fo, .ref mt, .ref mr, .int ma, .ref mx, .int mn, .ref mp, .ref mq, .int (nI ct)])), (mt, .inl (cJ, 18, .inr (.inl mtf))), (mr, .inl (cJ, 120, .inr (.inl mrf))), (mx, .inl (cJ, 120, .inr (.inl mxf))), (mp, .inl (cJ, 324, .inr (.inl mpf))), (mq, .inl (cJ, 18, .inr (.inl mqf)))]) (va_A [(mo, .inr (3, [.int 0, .int (nI wn), .int hi, .int fo, .ref mt, .ref mr, .int ma, .ref mx, .int mn, .ref mp, .ref mq, .int (nI ct)])), (mt, .inl (cJ, 18, .inr (.inl mtf))), (mr, .inl (cJ, 120, .inr (.inl mrf))), (mx, .inl (cJ, 120, .inr (.inl mxf))), (mp, .inl (cJ, 324, .inr (.inl mpf))), (mq, .inl (cJ, 18, .inr (.inl mqf)))] sz)) 0 0 (va_A [(mo, .inr (3, [.int 0, .int (nI wn), .int hi, .int fo, .ref mt, .ref mr, .int ma, .ref mx, .int mn, .ref mp, .ref mq, .int (nI ct)])), (mt, .inl (cJ, 18, .inr (.inl mtf))), (mr, .inl (cJ, 120, .inr (.inl mrf))), (mx, .inl (cJ, 120, .inr (.inl mxf))), (mp, .inl (cJ, 324, .inr (.inl mpf))), (mq, .inl (cJ, 18, .inr (.inl mqf)))] sz) := by
  refine Met.ofW (cc := b_Mo_last) (maxL := 4) (ret := (some .int)) (by decide) rfl ?_
  intro p e s m args below meth c s₁ B hml hv
  obtain ⟨rfl, hsz, hP, hK, hN, hD0⟩ := hv
  have hx := B.exec
  have hb := B.bytes
  have hr := B.returns
  have hts := atoms_spec (ws := w_Mo_last) B.pre
  have hown : s.vm.findClass R_Mo = some m.cls := findClass_of_methodNamed B.named
  have hlocks := B.notSynchronized
  subst hsz
  have hD := hD0.self (sz := s.heap.size)
  generalize hAe : va_A [(mo, .inr (3, [.int 0, .int (nI wn), .int hi, .int fo, .ref mt, .ref mr, .int ma, .ref mx, .int mn, .ref mp, .ref mq, .int (nI ct)])), (mt, .inl (cJ, 18, .inr (.inl mtf))), (mr, .inl (cJ, 120, .inr (.inl mrf))), (mx, .inl (cJ, 120, .inr (.inl mxf))), (mp, .inl (cJ, 324, .inr (.inl mpf))), (mq, .inl (cJ, 18, .inr (.inl mqf)))] s.heap.size = A at hD ⊢
  have hA : ∀ q : Nat, s.heap.size ≤ q → A q := fun q h => by rw [← hAe]; exact Or.inr h
  have hS : va_S A s.heap s.heap [] := va_S.rf
  have hl := lv_entry ([.ref mo, .int ix, .int yy]) (n := 4) (Nat.le_of_ble_eq_true rfl)
  rw [lg_entry_eq]
  generalize (lg_sl ([.ref mo, .int ix, .int yy]) ++ List.replicate (4 - (lg_sl ([.ref mo, .int ix, .int yy])).length) Slot.unset).toArray = ls at hl ⊢
  have hl : lv_has ls 4 [(0, .ref mo), (1, .int ix), (2, .int yy)] := hl
  have hP : va_P (dC, dI) cls4 [(mo, .inr (3, [.int 0, .int (nI wn), .int hi, .int fo, .ref mt, .ref mr, .int ma, .ref mx, .int mn, .ref mp, .ref mq, .int (nI ct)])), (mt, .inl (cJ, 18, .inr (.inl mtf))), (mr, .inl (cJ, 120, .inr (.inl mrf))), (mx, .inl (cJ, 120, .inr (.inl mxf))), (mp, .inl (cJ, 324, .inr (.inl mpf))), (mq, .inl (cJ, 18, .inr (.inl mqf)))] s.heap := hP
  have LOOP : ∀ (n : Nat) (k : Nat) (yv : Int32), (k ≤ wn) → (wn + 1 ≤ (wn - k) + n ∧ k + 1 ≤ n) → (yv = nI k - 1) → (qs_dn (fun xx => qc (nI wn) hi ct S T P ix (nI xx) yy) wn = qs_dn (fun xx => qc (nI wn) hi ct S T P ix (nI xx) yy) k) → ∀ (H : Heap) (locs : List Loc), va_P (dC, dI) cls4 [(mo, .inr (3, [.int 0, .int (nI wn), .int hi, .int fo, .ref mt, .ref mr, .int ma, .ref mx, .int mn, .ref mp, .ref mq, .int (nI ct)])), (mt, .inl (cJ, 18, .inr (.inl mtf))), (mr, .inl (cJ, 120, .inr (.inl mrf))), (mx, .inl (cJ, 120, .inr (.inl mxf))), (mp, .inl (cJ, 324, .inr (.inl mpf))), (mq, .inl (cJ, 18, .inr (.inl mqf)))] H → va_D A [(mo, .inr (3, [.int 0, .int (nI wn), .int hi, .int fo, .ref mt, .ref mr, .int ma, .ref mx, .int mn, .ref mp, .ref mq, .int (nI ct)])), (mt, .inl (cJ, 18, .inr (.inl mtf))), (mr, .inl (cJ, 120, .inr (.inl mrf))), (mx, .inl (cJ, 120, .inr (.inl mxf))), (mp, .inl (cJ, 324, .inr (.inl mpf))), (mq, .inl (cJ, 18, .inr (.inl mqf)))] → va_S A s.heap H locs → ∀ (ls : Array Slot), lv_has ls 4 [(0, .ref mo), (1, .int ix), (2, .int yy), (3, .int yv)] → W p l e (headSpec w_Mo_last ({ frames := 3, cells := 0, slots := 0, locals := 79 } : Room)).room s m ([.ref mo, .int ix, .int yy] : List Value).toArray below meth c H locs 0 0 (MQ below (va_Qi (fun (r : Int32) (_ : Unit) => r = qa_last (nI wn) hi wn ct S T P ix yy) (rz (dC, dI) A [(mo, .inr (3, [.int 0, .int (nI wn), .int hi, .int fo, .ref mt, .ref mr, .int ma, .ref mx, .int mn, .ref mp, .ref mq, .int (nI ct)])), (mt, .inl (cJ, 18, .inr (.inl mtf))), (mr, .inl (cJ, 120, .inr (.inl mrf))), (mx, .inl (cJ, 120, .inr (.inl mxf))), (mp, .inl (cJ, 324, .inr (.inl mpf))), (mq, .inl (cJ, 18, .inr (.inl mqf)))]) A) ([.ref mo, .int ix, .int yy] : List Value).toArray s 0 0 A) (F0 m 12 ls []) := by
    intro  n
    induction n with
    | zero =>
      intro k yv hk hm hy hq
      exact absurd hm.2 (by omega)
    | succ n ih =>
      intro k yv hk hm hy hq H locs hP hD hS ls hl
      refine lv_iload_n hx hb d_Mo_last_12 rfl (lv_at hl 3 rfl) ?_
      refine lv_if_lt (tgt := 34) hx hb d_Mo_last_13 (by decide) (fun c_1 => ?_) (fun c_1 => ?_)
      · have c_1 : yv < 0 := c_1
        refine lv_iconst (v := (-1)) hx hb d_Mo_last_34 (by decide) ?_
        exact W.iret (v := (-1)) hx hb hr (fun t ht hW => ⟨⟨_, (), rfl, (by show _ = qa_last _ _ _ _ _ _ _ _ _; unfold qa_last; rw [hq, qs_m0 (by omega) yv hy c_1]; rfl), by rw [ht]; exact hP, hD⟩, hS.F ht⟩) hS.2.2 d_Mo_last_35
      · have c_1 : ¬ (yv < 0) := c_1
        obtain ⟨j, rfl, rfl⟩ := qs_m1 (by omega) yv hy c_1
        refine lv_aload_n hx hb d_Mo_last_16 rfl (lv_at hl 0 rfl) ?_
        refine lv_iload_n hx hb d_Mo_last_17 rfl (lv_at hl 1 rfl) ?_
        refine lv_iload_n hx hb d_Mo_last_18 rfl (lv_at hl 3 rfl) ?_
        refine lv_iload_n hx hb d_Mo_last_19 rfl (lv_at hl 2 rfl) ?_
        have hPc := hP
        refine vp_callSi (va_Run.run (va_runV (As := [.int ix, .int (nI j), .int yy]) (rest := []) ⟨hx, hb, hml, hown, hts⟩ (k_Mo_covers l dC dI cJ cI mo (nI wn) hi fo mt mr ma mx mn mp mq ct mtf mrf mxf mpf mqf pn S T P ix (nI j) yy hr9 hp9) (cwV 3 hts (gd_V wd_322 wd_323 wd_27 wd_37 wd_324) rfl rfl rfl (by decide +kernel) ⟨Nat.le_of_ble_eq_true rfl, Nat.le_of_ble_eq_true rfl⟩) ⟨fb_ro, va_recv hK hPc (ci := 3) (q0 := 0) rfl rfl, pre_ro hK hN hPc⟩ rfl rfl hl.1 rfl (lv_room (Nat.le_of_ble_eq_true rfl)) d_Mo_last_20 ⟨Nat.le_of_ble_eq_true rfl, Nat.le_of_ble_eq_true rfl⟩)) (fun r_2 er_2 => ?_)
        have er_2 : r_2 = qc (nI wn) hi ct S T P ix (nI j) yy := er_2
        refine lv_if_eq (tgt := 28) hx hb d_Mo_last_23 (by decide) (fun c_3 => ?_) (fun c_3 => ?_)
        · have c_3 : r_2 = 0 := c_3
          obtain ⟨y_4, ey_4⟩ : ∃ z : Int32, z = (nI j) + (-1) := ⟨_, rfl⟩
          refine lv_iinc (v := y_4) (lv' := [(3, .int y_4), (0, .ref mo), (1, .int ix), (2, .int yy)]) hx hb d_Mo_last_28 hl (k := 3) rfl (by rw [ey_4]; rfl) (by decide) rfl (fun ls hl => ?_)
          refine lv_goto (tgt := 12) hx hb d_Mo_last_31 (by decide) ?_
          subst er_2
          exact ih j y_4 (by omega) (by omega) (by rw [ey_4, Int32.sub_eq_add_neg]) (hq.trans (qs_dn_s c_3)) _ _ hP hD hS ls (lv_sub hl [1, 2, 3, 0] rfl)
        · have c_3 : ¬ (r_2 = 0) := c_3
          refine lv_iload_n hx hb d_Mo_last_26 rfl (lv_at hl 3 rfl) ?_
          subst er_2
          exact W.iret (v := nI j) hx hb hr (fun t ht hW => ⟨⟨_, (), rfl, (by show _ = qa_last _ _ _ _ _ _ _ _ _; unfold qa_last; rw [hq]; exact (qs_dn_f (f := (fun xx => qc (nI wn) hi ct S T P ix (nI xx) yy)) c_3).symm), by rw [ht]; exact hP, hD⟩, hS.F ht⟩) hS.2.2 d_Mo_last_27
  refine lv_aload_n hx hb d_Mo_last_0 rfl (lv_at hl 0 rfl) ?_
  refine lv_iconst (v := 0) hx hb d_Mo_last_1 (by decide) ?_
  refine va_put (D := (dC, dI)) (ci := 3) (v := .int 0) (ty := .int) (C := R_Mo) (T := F_Mo) (N := 12) hx hb hts (fun w h => mw (i_Mo w h)) t_Mo t_Mo_ok n_Mo hown hK hP hD hS 0 rfl rfl 0 (by decide) (hts _ (mw wd_237)) (fun _ h9 => h9) rfl (by decide +kernel) rfl rfl (Nat.le_of_ble_eq_true rfl) d_Mo_last_2 (fun H locs hP hD hS => ?_)
  have hP : va_P (dC, dI) cls4 [(mo, .inr (3, [.int 0, .int (nI wn), .int hi, .int fo, .ref mt, .ref mr, .int ma, .ref mx, .int mn, .ref mp, .ref mq, .int (nI ct)])), (mt, .inl (cJ, 18, .inr (.inl mtf))), (mr, .inl (cJ, 120, .inr (.inl mrf))), (mx, .inl (cJ, 120, .inr (.inl mxf))), (mp, .inl (cJ, 324, .inr (.inl mpf))), (mq, .inl (cJ, 18, .inr (.inl mqf)))] H := hP
  have hD : va_D A [(mo, .inr (3, [.int 0, .int (nI wn), .int hi, .int fo, .ref mt, .ref mr, .int ma, .ref mx, .int mn, .ref mp, .ref mq, .int (nI ct)])), (mt, .inl (cJ, 18, .inr (.inl mtf))), (mr, .inl (cJ, 120, .inr (.inl mrf))), (mx, .inl (cJ, 120, .inr (.inl mxf))), (mp, .inl (cJ, 324, .inr (.inl mpf))), (mq, .inl (cJ, 18, .inr (.inl mqf)))] := hD
  refine lv_aload_n hx hb d_Mo_last_5 rfl (lv_at hl 0 rfl) ?_
  refine va_get (D := (dC, dI)) (ci := 3) (v := .int (nI wn)) (C := R_Mo) (T := F_Mo) (N := 12) hx hb hts (fun w h => mw (i_Mo w h)) hown hK hP 0 rfl rfl 1 (by decide) (hts _ (mw wd_238)) (fun _ h9 => h9) rfl d_Mo_last_6 ?_
  refine lv_iconst (v := 1) hx hb d_Mo_last_9 (by decide) ?_
  refine lv_isub hx hb d_Mo_last_10 ?_
  refine lv_topi (fun y_1 ey_1 => ?_)
  refine lv_istore_n (lv' := [(3, .int y_1), (0, .ref mo), (1, .int ix), (2, .int yy)]) hx hb d_Mo_last_11 rfl hl (by decide) rfl (fun ls hl => ?_)
  exact LOOP (wn + 1) wn y_1 (Nat.le_refl wn) (by omega) ey_1 rfl _ _ hP hD hS ls (lv_sub hl [1, 2, 3, 0] rfl)
set_option maxHeartbeats 4000000 in
set_option maxRecDepth 100000 in
theorem c_Mo_covered (l : Launch) (dC : Nat → ClassId) (dI : Nat → Nat → Nat) (cJ cI : ClassId) (sz : Nat) (mo : Nat) (wi : Int32) (hi : Int32) (fo : Int32) (mt : Nat) (mr : Nat) (ma : Int32) (mx : Nat) (mn : Int32) (mp : Nat) (mq : Nat) (ct : Nat) (mtf : Nat → Int64) (mrf : Nat → Int64) (mxf : Nat → Int64) (mpf : Nat → Int64) (mqf : Nat → Int64) (pn : Nat) (S : Nat → Nat) (T : Nat → Nat) (P : Nat → Int64) (xx : Int32) (yy : Int32) (hr9 : mo_rel mpf mqf ct pn S T P) (hc9 : ct < 100) (hp9 : mo_wh wi hi) : Met l y_Mo_covered w_Mo_covered ({ frames := 3, cells := 0, slots := 0, locals := 79 } : Room) (rq_rw (dC, dI) cJ cI sz [.ref mo, .int xx, .int yy] [(mo, .inr (3, [.int 0, .int wi, .int hi, .int fo, .ref mt, .ref mr, .int ma, .ref mx, .int mn, .ref mp, .ref mq, .int (nI ct)])), (mt, .inl (cJ, 18, .inr (.inl mtf))), (mr, .inl (cJ, 120, .inr (.inl mrf))), (mx, .inl (cJ, 120, .inr (.inl mxf))), (mp, .inl (cJ, 324, .inr (.inl mpf))), (mq, .inl (cJ, 18, .inr (.inl mqf)))]) (va_Qi (fun (r : Int32) (_ : Unit) => r = qa_covered wi hi ct S T P xx yy) (rz (dC, dI) (va_A [(mo, .inr (3, [.int 0, .int wi, .int hi, .int fo, .ref mt, .ref mr, .int ma, .ref mx, .int mn, .ref mp, .ref mq, .int (nI ct)])), (mt, .inl (cJ, 18, .inr (.inl mtf))), (mr, .inl (cJ, 120, .inr (.inl mrf))), (mx, .inl (cJ, 120, .inr (.inl mxf))), (mp, .inl (cJ, 324, .inr (.inl mpf))), (mq, .inl (cJ, 18, .inr (.inl mqf)))] sz) [(mo, .inr (3, [.int 0, .int wi, .int hi, .int fo, .ref mt, .ref mr, .int ma, .ref mx, .int mn, .ref mp, .ref mq, .int (nI ct)])), (mt, .inl (cJ, 18, .inr (.inl mtf))), (mr, .inl (cJ, 120, .inr (.inl mrf))), (mx, .inl (cJ, 120, .inr (.inl mxf))), (mp, .inl (cJ, 324, .inr (.inl mpf))), (mq, .inl (cJ, 18, .inr (.inl mqf)))]) (va_A [(mo, .inr (3, [.int 0, .int wi, .int hi, .int fo, .ref mt, .ref mr, .int ma, .ref mx, .int mn, .ref mp, .ref mq, .int (nI ct)])), (mt, .inl (cJ, 18, .inr (.inl mtf))), (mr, .inl (cJ, 120, .inr (.inl mrf))), (mx, .inl (cJ, 120, .inr (.inl mxf))), (mp, .inl (cJ, 324, .inr (.inl mpf))), (mq, .inl (cJ, 18, .inr (.inl mqf)))] sz)) 0 0 (va_A [(mo, .inr (3, [.int 0, .int wi, .int hi, .int fo, .ref mt, .ref mr, .int ma, .ref mx, .int mn, .ref mp, .ref mq, .int (nI ct)])), (mt, .inl (cJ, 18, .inr (.inl mtf))), (mr, .inl (cJ, 120, .inr (.inl mrf))), (mx, .inl (cJ, 120, .inr (.inl mxf))), (mp, .inl (cJ, 324, .inr (.inl mpf))), (mq, .inl (cJ, 18, .inr (.inl mqf)))] sz) := by
  refine Met.ofW (cc := b_Mo_covered) (maxL := 5) (ret := (some .int)) (by decide) rfl ?_
  intro p e s m args below meth c s₁ B hml hv
  obtain ⟨rfl, hsz, hP, hK, hN, hD0⟩ := hv
  have hx := B.exec
  have hb := B.bytes
  have hr := B.returns
  have hts := atoms_spec (ws := w_Mo_covered) B.pre
  have hown : s.vm.findClass R_Mo = some m.cls := findClass_of_methodNamed B.named
  have hlocks := B.notSynchronized
  subst hsz
  have hD := hD0.self (sz := s.heap.size)
  generalize hAe : va_A [(mo, .inr (3, [.int 0, .int wi, .int hi, .int fo, .ref mt, .ref mr, .int ma, .ref mx, .int mn, .ref mp, .ref mq, .int (nI ct)])), (mt, .inl (cJ, 18, .inr (.inl mtf))), (mr, .inl (cJ, 120, .inr (.inl mrf))), (mx, .inl (cJ, 120, .inr (.inl mxf))), (mp, .inl (cJ, 324, .inr (.inl mpf))), (mq, .inl (cJ, 18, .inr (.inl mqf)))] s.heap.size = A at hD ⊢
  have hA : ∀ q : Nat, s.heap.size ≤ q → A q := fun q h => by rw [← hAe]; exact Or.inr h
  have hS : va_S A s.heap s.heap [] := va_S.rf
  have hl := lv_entry ([.ref mo, .int xx, .int yy]) (n := 5) (Nat.le_of_ble_eq_true rfl)
  rw [lg_entry_eq]
  generalize (lg_sl ([.ref mo, .int xx, .int yy]) ++ List.replicate (5 - (lg_sl ([.ref mo, .int xx, .int yy])).length) Slot.unset).toArray = ls at hl ⊢
  have hl : lv_has ls 5 [(0, .ref mo), (1, .int xx), (2, .int yy)] := hl
  have hP : va_P (dC, dI) cls4 [(mo, .inr (3, [.int 0, .int wi, .int hi, .int fo, .ref mt, .ref mr, .int ma, .ref mx, .int mn, .ref mp, .ref mq, .int (nI ct)])), (mt, .inl (cJ, 18, .inr (.inl mtf))), (mr, .inl (cJ, 120, .inr (.inl mrf))), (mx, .inl (cJ, 120, .inr (.inl mxf))), (mp, .inl (cJ, 324, .inr (.inl mpf))), (mq, .inl (cJ, 18, .inr (.inl mqf)))] s.heap := hP
  have LOOP : qy_pix wi hi xx yy → ∀ (n : Nat) (k : Nat) (yv : Int32), (k ≤ ct) → (ct + 1 ≤ k + n) → (yv = qs_ct (fun ix => qc wi hi ct S T P (nI ix) xx yy) k) → ∀ (H : Heap) (locs : List Loc), va_P (dC, dI) cls4 [(mo, .inr (3, [.int 0, .int wi, .int hi, .int fo, .ref mt, .ref mr, .int ma, .ref mx, .int mn, .ref mp, .ref mq, .int (nI ct)])), (mt, .inl (cJ, 18, .inr (.inl mtf))), (mr, .inl (cJ, 120, .inr (.inl mrf))), (mx, .inl (cJ, 120, .inr (.inl mxf))), (mp, .inl (cJ, 324, .inr (.inl mpf))), (mq, .inl (cJ, 18, .inr (.inl mqf)))] H → va_D A [(mo, .inr (3, [.int 0, .int wi, .int hi, .int fo, .ref mt, .ref mr, .int ma, .ref mx, .int mn, .ref mp, .ref mq, .int (nI ct)])), (mt, .inl (cJ, 18, .inr (.inl mtf))), (mr, .inl (cJ, 120, .inr (.inl mrf))), (mx, .inl (cJ, 120, .inr (.inl mxf))), (mp, .inl (cJ, 324, .inr (.inl mpf))), (mq, .inl (cJ, 18, .inr (.inl mqf)))] → va_S A s.heap H locs → ∀ (ls : Array Slot), lv_has ls 5 [(0, .ref mo), (1, .int xx), (2, .int yy), (3, .int yv), (4, .int (nI k))] → W p l e (headSpec w_Mo_covered ({ frames := 3, cells := 0, slots := 0, locals := 79 } : Room)).room s m ([.ref mo, .int xx, .int yy] : List Value).toArray below meth c H locs 0 0 (MQ below (va_Qi (fun (r : Int32) (_ : Unit) => r = qa_covered wi hi ct S T P xx yy) (rz (dC, dI) A [(mo, .inr (3, [.int 0, .int wi, .int hi, .int fo, .ref mt, .ref mr, .int ma, .ref mx, .int mn, .ref mp, .ref mq, .int (nI ct)])), (mt, .inl (cJ, 18, .inr (.inl mtf))), (mr, .inl (cJ, 120, .inr (.inl mrf))), (mx, .inl (cJ, 120, .inr (.inl mxf))), (mp, .inl (cJ, 324, .inr (.inl mpf))), (mq, .inl (cJ, 18, .inr (.inl mqf)))]) A) ([.ref mo, .int xx, .int yy] : List Value).toArray s 0 0 A) (F0 m 21 ls []) := by
    intro hpx n
    induction n with
    | zero =>
      intro k yv hk hm hy
      exact absurd hm (by omega)
    | succ n ih =>
      intro k yv hk hm hy H locs hP hD hS ls hl
      refine lv_iload hx hb d_Mo_covered_21 (lv_at hl 4 rfl) ?_
      refine lv_aload_n hx hb d_Mo_covered_23 rfl (lv_at hl 0 rfl) ?_
      refine va_get (D := (dC, dI)) (ci := 3) (v := .int (nI ct)) (C := R_Mo) (T := F_Mo) (N := 12) hx hb hts (fun w h => mw (i_Mo w h)) hown hK hP 0 rfl rfl 11 (by decide) (hts _ (mw wd_248)) (fun _ h9 => h9) rfl d_Mo_covered_24 ?_
      refine lv_icmp_ge (tgt := 55) hx hb d_Mo_covered_27 (by decide) (fun c_1 => ?_) (fun c_1 => ?_)
      · have c_1 : nI ct ≤ nI k := c_1
        rw [nI_leI (by omega) (by omega)] at c_1
        have c_1 : ct ≤ k := c_1
        refine lv_iload_n hx hb d_Mo_covered_55 rfl (lv_at hl 3 rfl) ?_
        exact W.iret (v := yv) hx hb hr (fun t ht hW => ⟨⟨_, (), rfl, (by rw [qa_cov_1 hpx, hy, show ct = k by omega]; rfl), by rw [ht]; exact hP, hD⟩, hS.F ht⟩) hS.2.2 d_Mo_covered_56
      · have c_1 : ¬ (nI ct ≤ nI k) := c_1
        rw [nI_leI (by omega) (by omega)] at c_1
        have c_1 : ¬ (ct ≤ k) := c_1
        refine lv_iload_n hx hb d_Mo_covered_30 rfl (lv_at hl 3 rfl) ?_
        refine lv_aload_n hx hb d_Mo_covered_31 rfl (lv_at hl 0 rfl) ?_
        refine lv_iload hx hb d_Mo_covered_32 (lv_at hl 4 rfl) ?_
        refine lv_iload_n hx hb d_Mo_covered_34 rfl (lv_at hl 1 rfl) ?_
        refine lv_iload_n hx hb d_Mo_covered_35 rfl (lv_at hl 2 rfl) ?_
        have hPc := hP
        refine vp_callSi (va_Run.run (va_runV (As := [.int (nI k), .int xx, .int yy]) (rest := [.int yv]) ⟨hx, hb, hml, hown, hts⟩ (k_Mo_covers l dC dI cJ cI mo wi hi fo mt mr ma mx mn mp mq ct mtf mrf mxf mpf mqf pn S T P (nI k) xx yy hr9 hp9) (cwV 3 hts (gd_V wd_322 wd_323 wd_27 wd_37 wd_324) rfl rfl rfl (by decide +kernel) ⟨Nat.le_of_ble_eq_true rfl, Nat.le_of_ble_eq_true rfl⟩) ⟨fb_ro, va_recv hK hPc (ci := 3) (q0 := 0) rfl rfl, pre_ro hK hN hPc⟩ rfl rfl hl.1 rfl (lv_room (Nat.le_of_ble_eq_true rfl)) d_Mo_covered_36 ⟨Nat.le_of_ble_eq_true rfl, Nat.le_of_ble_eq_true rfl⟩)) (fun r_2 er_2 => ?_)
        have er_2 : r_2 = qc wi hi ct S T P (nI k) xx yy := er_2
        refine lv_if_eq (tgt := 46) hx hb d_Mo_covered_39 (by decide) (fun c_3 => ?_) (fun c_3 => ?_)
        · have c_3 : r_2 = 0 := c_3
          refine lv_iconst (v := 0) hx hb d_Mo_covered_46 (by decide) ?_
          refine lv_iadd hx hb d_Mo_covered_47 ?_
          refine lv_topi (fun y_4 ey_4 => ?_)
          refine lv_istore_n (lv' := [(3, .int y_4), (0, .ref mo), (1, .int xx), (2, .int yy), (4, .int (nI k))]) hx hb d_Mo_covered_48 rfl hl (by decide) rfl (fun ls hl => ?_)
          refine lv_iinc (v := (nI (k + 1))) (lv' := [(4, .int (nI (k + 1))), (3, .int y_4), (0, .ref mo), (1, .int xx), (2, .int yy)]) hx hb d_Mo_covered_49 hl (k := 4) rfl (nI_1 k) (by decide) rfl (fun ls hl => ?_)
          refine lv_goto (tgt := 21) hx hb d_Mo_covered_52 (by decide) ?_
          subst er_2
          exact ih (k + 1) y_4 (by omega) (by omega) ((by rw [ey_4, hy, Int32.add_zero]; exact (qs_ct_0 (f := (fun ix => qc wi hi ct S T P (nI ix) xx yy)) c_3).symm)) _ _ hP hD hS ls (lv_sub hl [2, 3, 4, 1, 0] rfl)
        · have c_3 : ¬ (r_2 = 0) := c_3
          refine lv_iconst (v := 1) hx hb d_Mo_covered_42 (by decide) ?_
          refine lv_goto (tgt := 47) hx hb d_Mo_covered_43 (by decide) ?_
          refine lv_iadd hx hb d_Mo_covered_47 ?_
          refine lv_topi (fun y_5 ey_5 => ?_)
          refine lv_istore_n (lv' := [(3, .int y_5), (0, .ref mo), (1, .int xx), (2, .int yy), (4, .int (nI k))]) hx hb d_Mo_covered_48 rfl hl (by decide) rfl (fun ls hl => ?_)
          refine lv_iinc (v := (nI (k + 1))) (lv' := [(4, .int (nI (k + 1))), (3, .int y_5), (0, .ref mo), (1, .int xx), (2, .int yy)]) hx hb d_Mo_covered_49 hl (k := 4) rfl (nI_1 k) (by decide) rfl (fun ls hl => ?_)
          refine lv_goto (tgt := 21) hx hb d_Mo_covered_52 (by decide) ?_
          subst er_2
          exact ih (k + 1) y_5 (by omega) (by omega) ((by rw [ey_5, hy]; exact (qs_ct_1 (f := (fun ix => qc wi hi ct S T P (nI ix) xx yy)) c_3).symm)) _ _ hP hD hS ls (lv_sub hl [2, 3, 4, 1, 0] rfl)
  refine lv_aload_n hx hb d_Mo_covered_0 rfl (lv_at hl 0 rfl) ?_
  refine lv_iconst (v := 0) hx hb d_Mo_covered_1 (by decide) ?_
  refine va_put (D := (dC, dI)) (ci := 3) (v := .int 0) (ty := .int) (C := R_Mo) (T := F_Mo) (N := 12) hx hb hts (fun w h => mw (i_Mo w h)) t_Mo t_Mo_ok n_Mo hown hK hP hD hS 0 rfl rfl 0 (by decide) (hts _ (mw wd_237)) (fun _ h9 => h9) rfl (by decide +kernel) rfl rfl (Nat.le_of_ble_eq_true rfl) d_Mo_covered_2 (fun H locs hP hD hS => ?_)
  have hP : va_P (dC, dI) cls4 [(mo, .inr (3, [.int 0, .int wi, .int hi, .int fo, .ref mt, .ref mr, .int ma, .ref mx, .int mn, .ref mp, .ref mq, .int (nI ct)])), (mt, .inl (cJ, 18, .inr (.inl mtf))), (mr, .inl (cJ, 120, .inr (.inl mrf))), (mx, .inl (cJ, 120, .inr (.inl mxf))), (mp, .inl (cJ, 324, .inr (.inl mpf))), (mq, .inl (cJ, 18, .inr (.inl mqf)))] H := hP
  have hD : va_D A [(mo, .inr (3, [.int 0, .int wi, .int hi, .int fo, .ref mt, .ref mr, .int ma, .ref mx, .int mn, .ref mp, .ref mq, .int (nI ct)])), (mt, .inl (cJ, 18, .inr (.inl mtf))), (mr, .inl (cJ, 120, .inr (.inl mrf))), (mx, .inl (cJ, 120, .inr (.inl mxf))), (mp, .inl (cJ, 324, .inr (.inl mpf))), (mq, .inl (cJ, 18, .inr (.inl mqf)))] := hD
  refine lv_aload_n hx hb d_Mo_covered_5 rfl (lv_at hl 0 rfl) ?_
  refine lv_iload_n hx hb d_Mo_covered_6 rfl (lv_at hl 1 rfl) ?_
  refine lv_iload_n hx hb d_Mo_covered_7 rfl (lv_at hl 2 rfl) ?_
  have hPc := hP
  refine vp_callSi (va_Run.run (va_runV (As := [.int xx, .int yy]) (rest := []) ⟨hx, hb, hml, hown, hts⟩ (c_Mo_isPixel l dC dI cJ cI mo wi hi fo mt mr ma mx mn mp mq ct mtf mrf mxf mpf mqf xx yy) (cwV 2 hts (gd_V wd_325 wd_326 wd_28 wd_37 wd_327) rfl rfl rfl (by decide +kernel) ⟨Nat.le_of_ble_eq_true rfl, Nat.le_of_ble_eq_true rfl⟩) ⟨fb_ro, va_recv hK hPc (ci := 3) (q0 := 0) rfl rfl, pre_ro hK hN hPc⟩ rfl rfl hl.1 rfl (lv_room (Nat.le_of_ble_eq_true rfl)) d_Mo_covered_8 ⟨Nat.le_of_ble_eq_true rfl, Nat.le_of_ble_eq_true rfl⟩)) (fun r_1 er_1 => ?_)
  have er_1 : r_1 = f_Mo_isPixel wi hi xx yy := er_1
  refine lv_if_ne (tgt := 16) hx hb d_Mo_covered_11 (by decide) (fun c_2 => ?_) (fun c_2 => ?_)
  · have c_2 : ¬ (r_1 = 0) := c_2
    refine lv_iconst (v := 0) hx hb d_Mo_covered_16 (by decide) ?_
    refine lv_istore_n (lv' := [(3, .int 0), (0, .ref mo), (1, .int xx), (2, .int yy)]) hx hb d_Mo_covered_17 rfl hl (by decide) rfl (fun ls hl => ?_)
    refine lv_iconst (v := 0) hx hb d_Mo_covered_18 (by decide) ?_
    refine lv_istore (lv' := [(4, .int 0), (3, .int 0), (0, .ref mo), (1, .int xx), (2, .int yy)]) hx hb d_Mo_covered_19 hl (by decide) rfl (fun ls hl => ?_)
    subst er_1
    have hpx : qy_pix wi hi xx yy := Classical.byContradiction fun q => c_2 ((mo_pix hp9).2 q)
    exact LOOP hpx (ct + 1) 0 0 (by omega) (by omega) rfl _ _ hP hD hS ls (lv_sub hl [2, 3, 4, 1, 0] rfl)
  · have c_2 : r_1 = 0 := c_2
    refine lv_iconst (v := (-1)) hx hb d_Mo_covered_14 (by decide) ?_
    subst er_1
    exact W.iret (v := (-1)) hx hb hr (fun t ht hW => ⟨⟨_, (), rfl, (by rw [qa_cov_0]; exact fun q => absurd ((mo_pix hp9).1 q) (by rw [c_2]; decide)), by rw [ht]; exact hP, hD⟩, hS.F ht⟩) hS.2.2 d_Mo_covered_15
