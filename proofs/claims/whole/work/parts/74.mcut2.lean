set_option maxHeartbeats 4000000 in
set_option maxRecDepth 100000 in
theorem c_Mo_cutBy (l : Launch) (dC : Nat → ClassId) (dI : Nat → Nat → Nat) (cJ cI : ClassId) (sz : Nat) (mo : Nat) (wi : Int32) (hi : Int32) (fo : Int32) (mt : Nat) (mr : Nat) (kn : Nat) (mx : Nat) (mn : Int32) (mp : Nat) (mq : Nat) (ct : Nat) (mtf : Nat → Int64) (mrf : Nat → Int64) (mxf : Nat → Int64) (mpf : Nat → Int64) (mqf : Nat → Int64) (sd : Nat) (hkn : kn ≤ 13) (hsd : sd < 5) (hfit : pu_fit fo wi hi) (hc3 : ∀ c, c < kn → pu_c3 (mrf (6 * c)) (mrf (6 * c + 1)) (mrf (6 * c + 2))) (h39 : kn = 0 ∨ 3 ≤ kn) : Met l y_Mo_cutBy w_Mo_cutBy ({ frames := 2, cells := 0, slots := 0, locals := 52 } : Room) (rq_rw (dC, dI) cJ cI sz [.ref mo, .int (nI sd)] [(mo, .inr (3, [.int 0, .int wi, .int hi, .int fo, .ref mt, .ref mr, .int (nI kn), .ref mx, .int mn, .ref mp, .ref mq, .int (nI ct)])), (mt, .inl (cJ, 18, .inr (.inl mtf))), (mr, .inl (cJ, 120, .inr (.inl mrf))), (mx, .inl (cJ, 120, .inr (.inl mxf))), (mp, .inl (cJ, 324, .inr (.inl mpf))), (mq, .inl (cJ, 18, .inr (.inl mqf)))]) (va_Qv (fun _ : Unit => True) (rz (dC, dI) (va_A [(mo, .inr (3, [.int 0, .int wi, .int hi, .int fo, .ref mt, .ref mr, .int (nI kn), .ref mx, .int mn, .ref mp, .ref mq, .int (nI ct)])), (mt, .inl (cJ, 18, .inr (.inl mtf))), (mr, .inl (cJ, 120, .inr (.inl mrf))), (mx, .inl (cJ, 120, .inr (.inl mxf))), (mp, .inl (cJ, 324, .inr (.inl mpf))), (mq, .inl (cJ, 18, .inr (.inl mqf)))] sz) [(mo, .inr (3, [.int 0, .int wi, .int hi, .int fo, .ref mt, .ref mx, .int (nI (pu_cs fo wi hi sd kn mrf mxf kn).1), .ref mr, .int (nI (pu_cs fo wi hi sd kn mrf mxf kn).1), .ref mp, .ref mq, .int (nI ct)])), (mt, .inl (cJ, 18, .inr (.inl mtf))), (mr, .inl (cJ, 120, .inr (.inl mrf))), (mx, .inl (cJ, 120, .inr (.inl ((pu_cs fo wi hi sd kn mrf mxf kn).2)))), (mp, .inl (cJ, 324, .inr (.inl mpf))), (mq, .inl (cJ, 18, .inr (.inl mqf)))]) (va_A [(mo, .inr (3, [.int 0, .int wi, .int hi, .int fo, .ref mt, .ref mr, .int (nI kn), .ref mx, .int mn, .ref mp, .ref mq, .int (nI ct)])), (mt, .inl (cJ, 18, .inr (.inl mtf))), (mr, .inl (cJ, 120, .inr (.inl mrf))), (mx, .inl (cJ, 120, .inr (.inl mxf))), (mp, .inl (cJ, 324, .inr (.inl mpf))), (mq, .inl (cJ, 18, .inr (.inl mqf)))] sz)) 0 0 (va_A [(mo, .inr (3, [.int 0, .int wi, .int hi, .int fo, .ref mt, .ref mr, .int (nI kn), .ref mx, .int mn, .ref mp, .ref mq, .int (nI ct)])), (mt, .inl (cJ, 18, .inr (.inl mtf))), (mr, .inl (cJ, 120, .inr (.inl mrf))), (mx, .inl (cJ, 120, .inr (.inl mxf))), (mp, .inl (cJ, 324, .inr (.inl mpf))), (mq, .inl (cJ, 18, .inr (.inl mqf)))] sz) := by
  refine Met.ofW (cc := b_Mo_cutBy) (maxL := 9) (ret := none) (by decide) rfl ?_
  intro p e s m args below meth c s₁ B hml hv
  obtain ⟨rfl, hsz, hP, hK, hN, hD0⟩ := hv
  have hx := B.exec
  have hb := B.bytes
  have hr := B.returns
  have hts := atoms_spec (ws := w_Mo_cutBy) B.pre
  have hown : s.vm.findClass R_Mo = some m.cls := findClass_of_methodNamed B.named
  have hlocks := B.notSynchronized
  subst hsz
  have hD := hD0.self (sz := s.heap.size)
  generalize hAe : va_A [(mo, .inr (3, [.int 0, .int wi, .int hi, .int fo, .ref mt, .ref mr, .int (nI kn), .ref mx, .int mn, .ref mp, .ref mq, .int (nI ct)])), (mt, .inl (cJ, 18, .inr (.inl mtf))), (mr, .inl (cJ, 120, .inr (.inl mrf))), (mx, .inl (cJ, 120, .inr (.inl mxf))), (mp, .inl (cJ, 324, .inr (.inl mpf))), (mq, .inl (cJ, 18, .inr (.inl mqf)))] s.heap.size = A at hD ⊢
  have hA : ∀ q : Nat, s.heap.size ≤ q → A q := fun q h => by rw [← hAe]; exact Or.inr h
  have hS : va_S A s.heap s.heap [] := va_S.rf
  have hl := lv_entry ([.ref mo, .int (nI sd)]) (n := 9) (Nat.le_of_ble_eq_true rfl)
  rw [lg_entry_eq]
  generalize (lg_sl ([.ref mo, .int (nI sd)]) ++ List.replicate (9 - (lg_sl ([.ref mo, .int (nI sd)])).length) Slot.unset).toArray = ls at hl ⊢
  have hl : lv_has ls 9 [(0, .ref mo), (1, .int (nI sd))] := hl
  have hP : va_P (dC, dI) cls4 [(mo, .inr (3, [.int 0, .int wi, .int hi, .int fo, .ref mt, .ref mr, .int (nI kn), .ref mx, .int mn, .ref mp, .ref mq, .int (nI ct)])), (mt, .inl (cJ, 18, .inr (.inl mtf))), (mr, .inl (cJ, 120, .inr (.inl mrf))), (mx, .inl (cJ, 120, .inr (.inl mxf))), (mp, .inl (cJ, 324, .inr (.inl mpf))), (mq, .inl (cJ, 18, .inr (.inl mqf)))] s.heap := hP
  have LOOP : ∀ (n : Nat) (k : Nat), (k ≤ kn) → (kn + 1 ≤ k + n) → ∀ (H : Heap) (locs : List Loc), va_P (dC, dI) cls4 [(mo, .inr (3, [.int 0, .int wi, .int hi, .int fo, .ref mt, .ref mr, .int (nI kn), .ref mx, .int (nI (pu_cs fo wi hi sd kn mrf mxf k).1), .ref mp, .ref mq, .int (nI ct)])), (mt, .inl (cJ, 18, .inr (.inl mtf))), (mr, .inl (cJ, 120, .inr (.inl mrf))), (mx, .inl (cJ, 120, .inr (.inl ((pu_cs fo wi hi sd kn mrf mxf k).2)))), (mp, .inl (cJ, 324, .inr (.inl mpf))), (mq, .inl (cJ, 18, .inr (.inl mqf)))] H → va_D A [(mo, .inr (3, [.int 0, .int wi, .int hi, .int fo, .ref mt, .ref mr, .int (nI kn), .ref mx, .int (nI (pu_cs fo wi hi sd kn mrf mxf k).1), .ref mp, .ref mq, .int (nI ct)])), (mt, .inl (cJ, 18, .inr (.inl mtf))), (mr, .inl (cJ, 120, .inr (.inl mrf))), (mx, .inl (cJ, 120, .inr (.inl ((pu_cs fo wi hi sd kn mrf mxf k).2)))), (mp, .inl (cJ, 324, .inr (.inl mpf))), (mq, .inl (cJ, 18, .inr (.inl mqf)))] → va_S A s.heap H locs → ∀ (ls : Array Slot), lv_has ls 9 [(0, .ref mo), (1, .int (nI sd)), (2, .int (nI k))] → W p l e (headSpec w_Mo_cutBy ({ frames := 2, cells := 0, slots := 0, locals := 52 } : Room)).room s m ([.ref mo, .int (nI sd)] : List Value).toArray below meth c H locs 0 0 (MQ below (va_Qv (fun _ : Unit => True) (rz (dC, dI) A [(mo, .inr (3, [.int 0, .int wi, .int hi, .int fo, .ref mt, .ref mx, .int (nI (pu_cs fo wi hi sd kn mrf mxf kn).1), .ref mr, .int (nI (pu_cs fo wi hi sd kn mrf mxf kn).1), .ref mp, .ref mq, .int (nI ct)])), (mt, .inl (cJ, 18, .inr (.inl mtf))), (mr, .inl (cJ, 120, .inr (.inl mrf))), (mx, .inl (cJ, 120, .inr (.inl ((pu_cs fo wi hi sd kn mrf mxf kn).2)))), (mp, .inl (cJ, 324, .inr (.inl mpf))), (mq, .inl (cJ, 18, .inr (.inl mqf)))]) A) ([.ref mo, .int (nI sd)] : List Value).toArray s 0 0 A) (F0 m 7 ls []) := by
    intro  n
    induction n with
    | zero =>
      intro k hk hm
      exact absurd hm (by omega)
    | succ n ih =>
      intro k hk hm H locs hP hD hS ls hl
      have hmk : (pu_cs fo wi hi sd kn mrf mxf k).1 ≤ 19 := mc_le hk hkn
      refine lv_iload_n hx hb d_Mo_cutBy_7 rfl (lv_at hl 2 rfl) ?_
      refine lv_aload_n hx hb d_Mo_cutBy_8 rfl (lv_at hl 0 rfl) ?_
      refine va_get (D := (dC, dI)) (ci := 3) (v := .int (nI kn)) (C := R_Mo) (T := F_Mo) (N := 12) hx hb hts (fun w h => mw (i_Mo w h)) hown hK hP 0 rfl rfl 6 (by decide) (hts _ (mw wd_243)) (fun _ h9 => h9) rfl d_Mo_cutBy_9 ?_
      refine lv_icmp_ge (tgt := 154) hx hb d_Mo_cutBy_12 (by decide) (fun c_1 => ?_) (fun c_1 => ?_)
      · have c_1 : nI kn ≤ nI k := c_1
        rw [nI_leI (by omega) (by omega)] at c_1
        have c_1 : kn ≤ k := c_1
        refine lv_aload_n hx hb d_Mo_cutBy_154 rfl (lv_at hl 0 rfl) ?_
        refine lv_aload_n hx hb d_Mo_cutBy_155 rfl (lv_at hl 0 rfl) ?_
        refine va_get (D := (dC, dI)) (ci := 3) (v := .int (nI (pu_cs fo wi hi sd kn mrf mxf k).1)) (C := R_Mo) (T := F_Mo) (N := 12) hx hb hts (fun w h => mw (i_Mo w h)) hown hK hP 0 rfl rfl 8 (by decide) (hts _ (mw wd_245)) (fun _ h9 => h9) rfl d_Mo_cutBy_156 ?_
        refine lv_iconst (v := 3) hx hb d_Mo_cutBy_159 (by decide) ?_
        refine lv_icmp_ge (tgt := 167) hx hb d_Mo_cutBy_160 (by decide) (fun c_2 => ?_) (fun c_2 => ?_)
        · have c_2 : nI 3 ≤ nI ((pu_cs fo wi hi sd kn mrf mxf k).1) := c_2
          rw [nI_leI (by omega) (by omega)] at c_2
          have c_2 : 3 ≤ ((pu_cs fo wi hi sd kn mrf mxf k).1) := c_2
          refine lv_aload_n hx hb d_Mo_cutBy_167 rfl (lv_at hl 0 rfl) ?_
          refine va_get (D := (dC, dI)) (ci := 3) (v := .int (nI (pu_cs fo wi hi sd kn mrf mxf k).1)) (C := R_Mo) (T := F_Mo) (N := 12) hx hb hts (fun w h => mw (i_Mo w h)) hown hK hP 0 rfl rfl 8 (by decide) (hts _ (mw wd_245)) (fun _ h9 => h9) rfl d_Mo_cutBy_168 ?_
          refine va_put (D := (dC, dI)) (ci := 3) (v := .int (nI (pu_cs fo wi hi sd kn mrf mxf k).1)) (ty := .int) (C := R_Mo) (T := F_Mo) (N := 12) hx hb hts (fun w h => mw (i_Mo w h)) t_Mo t_Mo_ok n_Mo hown hK hP hD hS 0 rfl rfl 6 (by decide) (hts _ (mw wd_243)) (fun _ h9 => h9) rfl (by decide +kernel) rfl rfl (Nat.le_of_ble_eq_true rfl) d_Mo_cutBy_171 (fun H locs hP hD hS => ?_)
          have hP : va_P (dC, dI) cls4 [(mo, .inr (3, [.int 0, .int wi, .int hi, .int fo, .ref mt, .ref mr, .int (nI (pu_cs fo wi hi sd kn mrf mxf k).1), .ref mx, .int (nI (pu_cs fo wi hi sd kn mrf mxf k).1), .ref mp, .ref mq, .int (nI ct)])), (mt, .inl (cJ, 18, .inr (.inl mtf))), (mr, .inl (cJ, 120, .inr (.inl mrf))), (mx, .inl (cJ, 120, .inr (.inl ((pu_cs fo wi hi sd kn mrf mxf k).2)))), (mp, .inl (cJ, 324, .inr (.inl mpf))), (mq, .inl (cJ, 18, .inr (.inl mqf)))] H := hP
          have hD : va_D A [(mo, .inr (3, [.int 0, .int wi, .int hi, .int fo, .ref mt, .ref mr, .int (nI (pu_cs fo wi hi sd kn mrf mxf k).1), .ref mx, .int (nI (pu_cs fo wi hi sd kn mrf mxf k).1), .ref mp, .ref mq, .int (nI ct)])), (mt, .inl (cJ, 18, .inr (.inl mtf))), (mr, .inl (cJ, 120, .inr (.inl mrf))), (mx, .inl (cJ, 120, .inr (.inl ((pu_cs fo wi hi sd kn mrf mxf k).2)))), (mp, .inl (cJ, 324, .inr (.inl mpf))), (mq, .inl (cJ, 18, .inr (.inl mqf)))] := hD
          refine lv_aload_n hx hb d_Mo_cutBy_174 rfl (lv_at hl 0 rfl) ?_
          refine va_get (D := (dC, dI)) (ci := 3) (v := .ref mr) (C := R_Mo) (T := F_Mo) (N := 12) hx hb hts (fun w h => mw (i_Mo w h)) hown hK hP 0 rfl rfl 5 (by decide) (hts _ (mw wd_242)) (fun _ h9 => h9) rfl d_Mo_cutBy_175 ?_
          refine lv_astore_n (lv' := [(2, .ref mr), (0, .ref mo), (1, .int (nI sd))]) hx hb d_Mo_cutBy_178 rfl hl (by decide) rfl (fun ls hl => ?_)
          refine lv_aload_n hx hb d_Mo_cutBy_179 rfl (lv_at hl 1 rfl) ?_
          refine lv_aload_n hx hb d_Mo_cutBy_180 rfl (lv_at hl 1 rfl) ?_
          refine va_get (D := (dC, dI)) (ci := 3) (v := .ref mx) (C := R_Mo) (T := F_Mo) (N := 12) hx hb hts (fun w h => mw (i_Mo w h)) hown hK hP 0 rfl rfl 7 (by decide) (hts _ (mw wd_244)) (fun _ h9 => h9) rfl d_Mo_cutBy_181 ?_
          refine va_put (D := (dC, dI)) (ci := 3) (v := .ref mx) (ty := (.array .long)) (C := R_Mo) (T := F_Mo) (N := 12) hx hb hts (fun w h => mw (i_Mo w h)) t_Mo t_Mo_ok n_Mo hown hK hP hD hS 0 rfl rfl 5 (by decide) (hts _ (mw wd_242)) (fun _ h9 => h9) rfl (by decide +kernel) rfl rfl (Nat.le_of_ble_eq_true rfl) d_Mo_cutBy_184 (fun H locs hP hD hS => ?_)
          have hP : va_P (dC, dI) cls4 [(mo, .inr (3, [.int 0, .int wi, .int hi, .int fo, .ref mt, .ref mx, .int (nI (pu_cs fo wi hi sd kn mrf mxf k).1), .ref mx, .int (nI (pu_cs fo wi hi sd kn mrf mxf k).1), .ref mp, .ref mq, .int (nI ct)])), (mt, .inl (cJ, 18, .inr (.inl mtf))), (mr, .inl (cJ, 120, .inr (.inl mrf))), (mx, .inl (cJ, 120, .inr (.inl ((pu_cs fo wi hi sd kn mrf mxf k).2)))), (mp, .inl (cJ, 324, .inr (.inl mpf))), (mq, .inl (cJ, 18, .inr (.inl mqf)))] H := hP
          have hD : va_D A [(mo, .inr (3, [.int 0, .int wi, .int hi, .int fo, .ref mt, .ref mx, .int (nI (pu_cs fo wi hi sd kn mrf mxf k).1), .ref mx, .int (nI (pu_cs fo wi hi sd kn mrf mxf k).1), .ref mp, .ref mq, .int (nI ct)])), (mt, .inl (cJ, 18, .inr (.inl mtf))), (mr, .inl (cJ, 120, .inr (.inl mrf))), (mx, .inl (cJ, 120, .inr (.inl ((pu_cs fo wi hi sd kn mrf mxf k).2)))), (mp, .inl (cJ, 324, .inr (.inl mpf))), (mq, .inl (cJ, 18, .inr (.inl mqf)))] := hD
          refine lv_aload_n hx hb d_Mo_cutBy_187 rfl (lv_at hl 1 rfl) ?_
          refine lv_aload_n hx hb d_Mo_cutBy_188 rfl (lv_at hl 0 rfl) ?_
          refine va_put (D := (dC, dI)) (ci := 3) (v := .ref mr) (ty := (.array .long)) (C := R_Mo) (T := F_Mo) (N := 12) hx hb hts (fun w h => mw (i_Mo w h)) t_Mo t_Mo_ok n_Mo hown hK hP hD hS 0 rfl rfl 7 (by decide) (hts _ (mw wd_244)) (fun _ h9 => h9) rfl (by decide +kernel) rfl rfl (Nat.le_of_ble_eq_true rfl) d_Mo_cutBy_189 (fun H locs hP hD hS => ?_)
          have hP : va_P (dC, dI) cls4 [(mo, .inr (3, [.int 0, .int wi, .int hi, .int fo, .ref mt, .ref mx, .int (nI (pu_cs fo wi hi sd kn mrf mxf k).1), .ref mr, .int (nI (pu_cs fo wi hi sd kn mrf mxf k).1), .ref mp, .ref mq, .int (nI ct)])), (mt, .inl (cJ, 18, .inr (.inl mtf))), (mr, .inl (cJ, 120, .inr (.inl mrf))), (mx, .inl (cJ, 120, .inr (.inl ((pu_cs fo wi hi sd kn mrf mxf k).2)))), (mp, .inl (cJ, 324, .inr (.inl mpf))), (mq, .inl (cJ, 18, .inr (.inl mqf)))] H := hP
          have hD : va_D A [(mo, .inr (3, [.int 0, .int wi, .int hi, .int fo, .ref mt, .ref mx, .int (nI (pu_cs fo wi hi sd kn mrf mxf k).1), .ref mr, .int (nI (pu_cs fo wi hi sd kn mrf mxf k).1), .ref mp, .ref mq, .int (nI ct)])), (mt, .inl (cJ, 18, .inr (.inl mtf))), (mr, .inl (cJ, 120, .inr (.inl mrf))), (mx, .inl (cJ, 120, .inr (.inl ((pu_cs fo wi hi sd kn mrf mxf k).2)))), (mp, .inl (cJ, 324, .inr (.inl mpf))), (mq, .inl (cJ, 18, .inr (.inl mqf)))] := hD
          have hkk : kn = k := by omega
          rw [← hkk] at hP hD
          exact W.vret hx hb hr (fun t ht hW => ⟨⟨(), rfl, trivial, by rw [ht]; exact hP, hD⟩, hS.F ht⟩) hS.2.2 d_Mo_cutBy_192
        · have c_2 : ¬ (nI 3 ≤ nI ((pu_cs fo wi hi sd kn mrf mxf k).1)) := c_2
          rw [nI_leI (by omega) (by omega)] at c_2
          have c_2 : ¬ (3 ≤ ((pu_cs fo wi hi sd kn mrf mxf k).1)) := c_2
          refine lv_iconst (v := 0) hx hb d_Mo_cutBy_163 (by decide) ?_
          refine lv_goto (tgt := 171) hx hb d_Mo_cutBy_164 (by decide) ?_
          refine va_put (D := (dC, dI)) (ci := 3) (v := .int 0) (ty := .int) (C := R_Mo) (T := F_Mo) (N := 12) hx hb hts (fun w h => mw (i_Mo w h)) t_Mo t_Mo_ok n_Mo hown hK hP hD hS 0 rfl rfl 6 (by decide) (hts _ (mw wd_243)) (fun _ h9 => h9) rfl (by decide +kernel) rfl rfl (Nat.le_of_ble_eq_true rfl) d_Mo_cutBy_171 (fun H locs hP hD hS => ?_)
          have hP : va_P (dC, dI) cls4 [(mo, .inr (3, [.int 0, .int wi, .int hi, .int fo, .ref mt, .ref mr, .int 0, .ref mx, .int (nI (pu_cs fo wi hi sd kn mrf mxf k).1), .ref mp, .ref mq, .int (nI ct)])), (mt, .inl (cJ, 18, .inr (.inl mtf))), (mr, .inl (cJ, 120, .inr (.inl mrf))), (mx, .inl (cJ, 120, .inr (.inl ((pu_cs fo wi hi sd kn mrf mxf k).2)))), (mp, .inl (cJ, 324, .inr (.inl mpf))), (mq, .inl (cJ, 18, .inr (.inl mqf)))] H := hP
          have hD : va_D A [(mo, .inr (3, [.int 0, .int wi, .int hi, .int fo, .ref mt, .ref mr, .int 0, .ref mx, .int (nI (pu_cs fo wi hi sd kn mrf mxf k).1), .ref mp, .ref mq, .int (nI ct)])), (mt, .inl (cJ, 18, .inr (.inl mtf))), (mr, .inl (cJ, 120, .inr (.inl mrf))), (mx, .inl (cJ, 120, .inr (.inl ((pu_cs fo wi hi sd kn mrf mxf k).2)))), (mp, .inl (cJ, 324, .inr (.inl mpf))), (mq, .inl (cJ, 18, .inr (.inl mqf)))] := hD
          refine lv_aload_n hx hb d_Mo_cutBy_174 rfl (lv_at hl 0 rfl) ?_
          refine va_get (D := (dC, dI)) (ci := 3) (v := .ref mr) (C := R_Mo) (T := F_Mo) (N := 12) hx hb hts (fun w h => mw (i_Mo w h)) hown hK hP 0 rfl rfl 5 (by decide) (hts _ (mw wd_242)) (fun _ h9 => h9) rfl d_Mo_cutBy_175 ?_
          refine lv_astore_n (lv' := [(2, .ref mr), (0, .ref mo), (1, .int (nI sd))]) hx hb d_Mo_cutBy_178 rfl hl (by decide) rfl (fun ls hl => ?_)
          refine lv_aload_n hx hb d_Mo_cutBy_179 rfl (lv_at hl 1 rfl) ?_
          refine lv_aload_n hx hb d_Mo_cutBy_180 rfl (lv_at hl 1 rfl) ?_
          refine va_get (D := (dC, dI)) (ci := 3) (v := .ref mx) (C := R_Mo) (T := F_Mo) (N := 12) hx hb hts (fun w h => mw (i_Mo w h)) hown hK hP 0 rfl rfl 7 (by decide) (hts _ (mw wd_244)) (fun _ h9 => h9) rfl d_Mo_cutBy_181 ?_
          refine va_put (D := (dC, dI)) (ci := 3) (v := .ref mx) (ty := (.array .long)) (C := R_Mo) (T := F_Mo) (N := 12) hx hb hts (fun w h => mw (i_Mo w h)) t_Mo t_Mo_ok n_Mo hown hK hP hD hS 0 rfl rfl 5 (by decide) (hts _ (mw wd_242)) (fun _ h9 => h9) rfl (by decide +kernel) rfl rfl (Nat.le_of_ble_eq_true rfl) d_Mo_cutBy_184 (fun H locs hP hD hS => ?_)
          have hP : va_P (dC, dI) cls4 [(mo, .inr (3, [.int 0, .int wi, .int hi, .int fo, .ref mt, .ref mx, .int 0, .ref mx, .int (nI (pu_cs fo wi hi sd kn mrf mxf k).1), .ref mp, .ref mq, .int (nI ct)])), (mt, .inl (cJ, 18, .inr (.inl mtf))), (mr, .inl (cJ, 120, .inr (.inl mrf))), (mx, .inl (cJ, 120, .inr (.inl ((pu_cs fo wi hi sd kn mrf mxf k).2)))), (mp, .inl (cJ, 324, .inr (.inl mpf))), (mq, .inl (cJ, 18, .inr (.inl mqf)))] H := hP
          have hD : va_D A [(mo, .inr (3, [.int 0, .int wi, .int hi, .int fo, .ref mt, .ref mx, .int 0, .ref mx, .int (nI (pu_cs fo wi hi sd kn mrf mxf k).1), .ref mp, .ref mq, .int (nI ct)])), (mt, .inl (cJ, 18, .inr (.inl mtf))), (mr, .inl (cJ, 120, .inr (.inl mrf))), (mx, .inl (cJ, 120, .inr (.inl ((pu_cs fo wi hi sd kn mrf mxf k).2)))), (mp, .inl (cJ, 324, .inr (.inl mpf))), (mq, .inl (cJ, 18, .inr (.inl mqf)))] := hD
          refine lv_aload_n hx hb d_Mo_cutBy_187 rfl (lv_at hl 1 rfl) ?_
          refine lv_aload_n hx hb d_Mo_cutBy_188 rfl (lv_at hl 0 rfl) ?_
          refine va_put (D := (dC, dI)) (ci := 3) (v := .ref mr) (ty := (.array .long)) (C := R_Mo) (T := F_Mo) (N := 12) hx hb hts (fun w h => mw (i_Mo w h)) t_Mo t_Mo_ok n_Mo hown hK hP hD hS 0 rfl rfl 7 (by decide) (hts _ (mw wd_244)) (fun _ h9 => h9) rfl (by decide +kernel) rfl rfl (Nat.le_of_ble_eq_true rfl) d_Mo_cutBy_189 (fun H locs hP hD hS => ?_)
          have hP : va_P (dC, dI) cls4 [(mo, .inr (3, [.int 0, .int wi, .int hi, .int fo, .ref mt, .ref mx, .int 0, .ref mr, .int (nI (pu_cs fo wi hi sd kn mrf mxf k).1), .ref mp, .ref mq, .int (nI ct)])), (mt, .inl (cJ, 18, .inr (.inl mtf))), (mr, .inl (cJ, 120, .inr (.inl mrf))), (mx, .inl (cJ, 120, .inr (.inl ((pu_cs fo wi hi sd kn mrf mxf k).2)))), (mp, .inl (cJ, 324, .inr (.inl mpf))), (mq, .inl (cJ, 18, .inr (.inl mqf)))] H := hP
          have hD : va_D A [(mo, .inr (3, [.int 0, .int wi, .int hi, .int fo, .ref mt, .ref mx, .int 0, .ref mr, .int (nI (pu_cs fo wi hi sd kn mrf mxf k).1), .ref mp, .ref mq, .int (nI ct)])), (mt, .inl (cJ, 18, .inr (.inl mtf))), (mr, .inl (cJ, 120, .inr (.inl mrf))), (mx, .inl (cJ, 120, .inr (.inl ((pu_cs fo wi hi sd kn mrf mxf k).2)))), (mp, .inl (cJ, 324, .inr (.inl mpf))), (mq, .inl (cJ, 18, .inr (.inl mqf)))] := hD
          have hkk : kn = k := by omega
          rw [← hkk] at hP hD
          have hz0 : (pu_cs fo wi hi sd kn mrf mxf kn).1 = 0 := by
            have q := pu_cs_least (fo := fo) (w := wi) (h := hi) (sd := sd) (R := mrf) (N0 := mxf) h39
            rw [← hkk] at c_2
            omega
          rw [hz0] at hP hD
          exact W.vret hx hb hr (fun t ht hW => ⟨⟨(), rfl, trivial, by rw [ht, hz0]; exact hP, by rw [hz0]; exact hD⟩, hS.F ht⟩) hS.2.2 d_Mo_cutBy_192
      · have c_1 : ¬ (nI kn ≤ nI k) := c_1
        rw [nI_leI (by omega) (by omega)] at c_1
        have c_1 : ¬ (kn ≤ k) := c_1
        have hnx : pu_nx kn k = (k + 1) % kn := mc_nx (by omega)
        have hnl : (k + 1) % kn < kn := Nat.mod_lt _ (by omega)
        refine lv_iload_n hx hb d_Mo_cutBy_15 rfl (lv_at hl 2 rfl) ?_
        refine lv_iconst (v := 1) hx hb d_Mo_cutBy_16 (by decide) ?_
        refine lv_iadd hx hb d_Mo_cutBy_17 ?_
        refine lv_topi (fun y_3 ey_3 => ?_)
        have ey_3 : y_3 = nI (k + 1) := by rw [ey_3]; first | rfl | (simp only [nk_set_0, nk_set_1, nk_set_2, nk_set_3, nk_set_4, nk_set_5, nk_set_6, nk_set_7, nk_set_12, nk_set_13, nk_set_18, pk_mul, nI_add]; done) | (simp only [nk_set_0, nk_set_1, nk_set_2, nk_set_3, nk_set_4, nk_set_5, nk_set_6, nk_set_7, nk_set_12, nk_set_13, nk_set_18, pk_mul, nI_add]; exact congrArg nI (by omega))
        subst ey_3
        refine lv_aload_n hx hb d_Mo_cutBy_18 rfl (lv_at hl 0 rfl) ?_
        refine va_get (D := (dC, dI)) (ci := 3) (v := .int (nI kn)) (C := R_Mo) (T := F_Mo) (N := 12) hx hb hts (fun w h => mw (i_Mo w h)) hown hK hP 0 rfl rfl 6 (by decide) (hts _ (mw wd_243)) (fun _ h9 => h9) rfl d_Mo_cutBy_19 ?_
        refine lv_irem hx hb d_Mo_cutBy_22 (nI_ne0 (by omega) (by omega)) ?_
        refine lv_topi (fun y_4 ey_4 => ?_)
        have ey_4 : y_4 = nI ((k + 1) % kn) := by rw [ey_4]; exact pk_rem (a := k + 1) (d := kn) (by omega) (by omega) (by omega)
        subst ey_4
        refine lv_istore_n (lv' := [(3, .int (nI ((k + 1) % kn))), (0, .ref mo), (1, .int (nI sd)), (2, .int (nI k))]) hx hb d_Mo_cutBy_23 rfl hl (by decide) rfl (fun ls hl => ?_)
        refine lv_aload_n hx hb d_Mo_cutBy_24 rfl (lv_at hl 1 rfl) ?_
        refine lv_iload_n hx hb d_Mo_cutBy_25 rfl (lv_at hl 2 rfl) ?_
        refine lv_iload_n hx hb d_Mo_cutBy_26 rfl (lv_at hl 3 rfl) ?_
        have hPc := hP
        refine vp_callSl (va_Run.run (va_runV (As := [.int (nI sd), .int (nI k)]) (rest := []) ⟨hx, hb, hml, hown, hts⟩ (k_Mo_number2 l dC dI cJ cI mo wi hi fo mt mr (nI kn) mx (nI (pu_cs fo wi hi sd kn mrf mxf k).1) mp mq ct mtf mrf ((pu_cs fo wi hi sd kn mrf mxf k).2) mpf mqf sd k (by omega) (by omega)) (cwV 2 hts (gd_V wd_291 wd_292 wd_23 wd_37 wd_293) rfl rfl rfl (by decide +kernel) ⟨Nat.le_of_ble_eq_true rfl, Nat.le_of_ble_eq_true rfl⟩) ⟨fb_ro, va_recv hK hPc (ci := 3) (q0 := 0) rfl rfl, pre_ro hK hN hPc⟩ rfl rfl hl.1 rfl (lv_room (Nat.le_of_ble_eq_true rfl)) d_Mo_cutBy_27 ⟨Nat.le_of_ble_eq_true rfl, Nat.le_of_ble_eq_true rfl⟩)) (fun r_5 er_5 => ?_)
        have er_5 : r_5 = pu_side fo wi hi sd mrf k := er_5
        refine lv_lstore (lv' := [(4, .long r_5), (3, .int (nI ((k + 1) % kn))), (0, .ref mo), (1, .int (nI sd)), (2, .int (nI k))]) hx hb d_Mo_cutBy_30 hl (by decide) rfl (fun ls hl => ?_)
        refine lv_aload_n hx hb d_Mo_cutBy_32 rfl (lv_at hl 2 rfl) ?_
        refine lv_iload_n hx hb d_Mo_cutBy_33 rfl (lv_at hl 3 rfl) ?_
        refine lv_iload_n hx hb d_Mo_cutBy_34 rfl (lv_at hl 1 rfl) ?_
        have hPc := hP
        refine vp_callSl (va_Run.run (va_runV (As := [.int (nI sd), .int (nI ((k + 1) % kn))]) (rest := []) ⟨hx, hb, hml, hown, hts⟩ (k_Mo_number2 l dC dI cJ cI mo wi hi fo mt mr (nI kn) mx (nI (pu_cs fo wi hi sd kn mrf mxf k).1) mp mq ct mtf mrf ((pu_cs fo wi hi sd kn mrf mxf k).2) mpf mqf sd ((k + 1) % kn) (by omega) (by omega)) (cwV 2 hts (gd_V wd_291 wd_292 wd_23 wd_37 wd_293) rfl rfl rfl (by decide +kernel) ⟨Nat.le_of_ble_eq_true rfl, Nat.le_of_ble_eq_true rfl⟩) ⟨fb_ro, va_recv hK hPc (ci := 3) (q0 := 0) rfl rfl, pre_ro hK hN hPc⟩ rfl rfl hl.1 rfl (lv_room (Nat.le_of_ble_eq_true rfl)) d_Mo_cutBy_35 ⟨Nat.le_of_ble_eq_true rfl, Nat.le_of_ble_eq_true rfl⟩)) (fun r_6 er_6 => ?_)
        have er_6 : r_6 = pu_side fo wi hi sd mrf ((k + 1) % kn) := er_6
        refine lv_lstore (lv' := [(6, .long r_6), (4, .long r_5), (3, .int (nI ((k + 1) % kn))), (0, .ref mo), (1, .int (nI sd)), (2, .int (nI k))]) hx hb d_Mo_cutBy_38 hl (by decide) rfl (fun ls hl => ?_)
        refine lv_lload hx hb d_Mo_cutBy_40 (lv_at hl 1 rfl) ?_
        refine lv_lconst (v := 0) hx hb d_Mo_cutBy_42 (by decide) ?_
        refine W.lcmp hx hb d_Mo_cutBy_43 ?_
        refine lv_if_lt (tgt := 100) hx hb d_Mo_cutBy_44 (by decide) (fun c_7 => ?_) (fun c_7 => ?_)
        · rw [lg_cmp_lt] at c_7
          have c_7 : r_5 < 0 := c_7
          refine lv_lload hx hb d_Mo_cutBy_100 (lv_at hl 1 rfl) ?_
          refine lv_lconst (v := 0) hx hb d_Mo_cutBy_102 (by decide) ?_
          refine W.lcmp hx hb d_Mo_cutBy_103 ?_
          refine lv_if_lt (tgt := 124) hx hb d_Mo_cutBy_104 (by decide) (fun c_8 => ?_) (fun c_8 => absurd (by rw [lg_cmp_lt]; exact c_7) c_8)
          refine lv_lload hx hb d_Mo_cutBy_124 (lv_at hl 1 rfl) ?_
          refine lv_lconst (v := 0) hx hb d_Mo_cutBy_126 (by decide) ?_
          refine W.lcmp hx hb d_Mo_cutBy_127 ?_
          refine lv_if_ge (tgt := 148) hx hb d_Mo_cutBy_128 (by decide) (fun c_9 => absurd c_9 (by rw [lg_cmp_ge]; exact st_lt c_7)) (fun c_9 => ?_)
          refine lv_lload hx hb d_Mo_cutBy_131 (lv_at hl 0 rfl) ?_
          refine lv_lconst (v := 0) hx hb d_Mo_cutBy_133 (by decide) ?_
          refine W.lcmp hx hb d_Mo_cutBy_134 ?_
          refine lv_if_lt (tgt := 148) hx hb d_Mo_cutBy_135 (by decide) (fun c_10 => ?_) (fun c_10 => ?_)
          · rw [lg_cmp_lt] at c_10
            have c_10 : r_6 < 0 := c_10
            refine lv_iinc (v := (nI (k + 1))) (lv' := [(2, .int (nI (k + 1))), (6, .long r_6), (4, .long r_5), (3, .int (nI ((k + 1) % kn))), (0, .ref mo), (1, .int (nI sd))]) hx hb d_Mo_cutBy_148 hl (k := 5) rfl (nI_1 k) (by decide) rfl (fun ls hl => ?_)
            refine lv_goto (tgt := 7) hx hb d_Mo_cutBy_151 (by decide) ?_
            have h1 : ¬ 0 ≤ pu_side fo wi hi sd mrf k := by rw [← er_5]; exact st_lt c_7
            have h2 : ¬ 0 ≤ pu_side fo wi hi sd mrf (pu_nx kn k) := by rw [hnx, ← er_6]; exact st_lt c_10
            have hstep := pu_cs_00 (n := kn) (N0 := mxf) h1 h2
            have hroom := cb_top (fo := fo) (wi := wi) (hi := hi) (sd := sd) (R := mrf) (N0 := mxf) (show k < kn by omega) hkn
            rw [hstep] at hroom
            try dsimp only at hroom
            rw [hnx] at h2
            refine ih (k + 1) (by omega) (by omega) _ _ ?_ ?_ hS ls (lv_sub hl [4, 5, 0] rfl)
            · rw [hstep]; exact hP
            · rw [hstep]; exact hD
          · rw [lg_cmp_lt] at c_10
            have c_10 : ¬ (r_6 < 0) := c_10
            have h1 : ¬ 0 ≤ pu_side fo wi hi sd mrf k := by rw [← er_5]; exact st_lt c_7
            have h2 : 0 ≤ pu_side fo wi hi sd mrf (pu_nx kn k) := by rw [hnx, ← er_6]; exact st_ge c_10
            have hstep := pu_cs_01 (n := kn) (N0 := mxf) h1 h2
            have hroom := cb_top (fo := fo) (wi := wi) (hi := hi) (sd := sd) (R := mrf) (N0 := mxf) (show k < kn by omega) hkn
            rw [hstep] at hroom
            try dsimp only at hroom
            rw [hnx] at hstep h2
            refine lv_aload_n hx hb d_Mo_cutBy_138 rfl (lv_at hl 3 rfl) ?_
            refine lv_iload_n hx hb d_Mo_cutBy_139 rfl (lv_at hl 2 rfl) ?_
            refine lv_lload hx hb d_Mo_cutBy_140 (lv_at hl 0 rfl) ?_
            refine lv_iload_n hx hb d_Mo_cutBy_142 rfl (lv_at hl 5 rfl) ?_
            refine lv_lload hx hb d_Mo_cutBy_143 (lv_at hl 1 rfl) ?_
            have hPc := hP
            have hDc := hD.sub (ws' := [(mo, .inr (3, [.int 0, .int wi, .int hi, .int fo, .ref mt, .ref mr, .int (nI kn), .ref mx, .int (nI (pu_cs fo wi hi sd kn mrf mxf k).1), .ref mp, .ref mq, .int (nI ct)])), (mt, .inl (cJ, 18, .inr (.inl mtf))), (mr, .inl (cJ, 120, .inr (.inl mrf))), (mx, .inl (cJ, 120, .inr (.inl ((pu_cs fo wi hi sd kn mrf mxf k).2)))), (mp, .inl (cJ, 324, .inr (.inl mpf))), (mq, .inl (cJ, 18, .inr (.inl mqf)))]) [0, 1, 2, 3, 4, 5] (by decide) rfl
            have hFc := va_free (wc := [(mo, .inr (3, [.int 0, .int wi, .int hi, .int fo, .ref mt, .ref mr, .int (nI kn), .ref mx, .int (nI (pu_cs fo wi hi sd kn mrf mxf k).1), .ref mp, .ref mq, .int (nI ct)])), (mt, .inl (cJ, 18, .inr (.inl mtf))), (mr, .inl (cJ, 120, .inr (.inl mrf))), (mx, .inl (cJ, 120, .inr (.inl ((pu_cs fo wi hi sd kn mrf mxf k).2)))), (mp, .inl (cJ, 324, .inr (.inl mpf))), (mq, .inl (cJ, 18, .inr (.inl mqf)))]) hD hS hA [0, 1, 2, 3, 4, 5] rfl
            refine va_callv (va_runV (As := [.int (nI ((k + 1) % kn)), .long r_6, .int (nI k), .long r_5]) (rest := []) ⟨hx, hb, hml, hown, hts⟩ (c_Mo_between l dC dI cJ cI H.size mo wi hi fo mt mr (nI kn) mx ((pu_cs fo wi hi sd kn mrf mxf k).1) mp mq ct mtf mrf ((pu_cs fo wi hi sd kn mrf mxf k).2) mpf mqf ((k + 1) % kn) r_6 k r_5 (by omega) (by omega) (by omega) (by rw [er_5, er_6]; exact mc_nz (cb_pos hfit (hc3 ((k + 1) % kn) (by omega)) (hc3 (k) (by omega)) h2 h1))) (cwV 4 hts (gd_V wd_295 wd_296 wd_24 wd_37 wd_297) rfl rfl rfl (by decide +kernel) ⟨Nat.le_of_ble_eq_true rfl, Nat.le_of_ble_eq_true rfl⟩) ⟨fb_rw, va_recv hK hPc (ci := 3) (q0 := 0) rfl rfl, pre_rw hK hN hPc hDc⟩ rfl rfl hl.1 rfl (lv_room (Nat.le_of_ble_eq_true rfl)) d_Mo_cutBy_145 ⟨Nat.le_of_ble_eq_true rfl, Nat.le_of_ble_eq_true rfl⟩) hS (fun q _ h => hFc q h) hFc (fun u t H locs ht hvm hw hB hz1 hk1 hS => ?_)
            obtain ⟨hP1, hD1⟩ := hB
            rw [ht] at hP1
            obtain ⟨hP, hD⟩ := va_join (wr := []) (w1 := [(mo, .inr (3, [.int 0, .int wi, .int hi, .int fo, .ref mt, .ref mr, .int (nI kn), .ref mx, .int (nI (((pu_cs fo wi hi sd kn mrf mxf k).1) + 1)), .ref mp, .ref mq, .int (nI ct)])), (mt, .inl (cJ, 18, .inr (.inl mtf))), (mr, .inl (cJ, 120, .inr (.inl mrf))), (mx, .inl (cJ, 120, .inr (.inl (pu_put ((pu_cs fo wi hi sd kn mrf mxf k).2) ((pu_cs fo wi hi sd kn mrf mxf k).1) (fun q9 => pu_btw (mrf (6 * ((k + 1) % kn) + q9)) (mrf (6 * k + q9)) r_6 r_5))))), (mp, .inl (cJ, 324, .inr (.inl mpf))), (mq, .inl (cJ, 18, .inr (.inl mqf)))]) hP hD [0, 1, 2, 3, 4, 5] [] rfl rfl (by decide) (by decide) hk1 hFc hP1 hD1
            have hP : va_P (dC, dI) cls4 [(mo, .inr (3, [.int 0, .int wi, .int hi, .int fo, .ref mt, .ref mr, .int (nI kn), .ref mx, .int (nI (((pu_cs fo wi hi sd kn mrf mxf k).1) + 1)), .ref mp, .ref mq, .int (nI ct)])), (mt, .inl (cJ, 18, .inr (.inl mtf))), (mr, .inl (cJ, 120, .inr (.inl mrf))), (mx, .inl (cJ, 120, .inr (.inl (pu_put ((pu_cs fo wi hi sd kn mrf mxf k).2) ((pu_cs fo wi hi sd kn mrf mxf k).1) (fun q9 => pu_btw (mrf (6 * ((k + 1) % kn) + q9)) (mrf (6 * k + q9)) r_6 r_5))))), (mp, .inl (cJ, 324, .inr (.inl mpf))), (mq, .inl (cJ, 18, .inr (.inl mqf)))] H := hP
            have hD : va_D A [(mo, .inr (3, [.int 0, .int wi, .int hi, .int fo, .ref mt, .ref mr, .int (nI kn), .ref mx, .int (nI (((pu_cs fo wi hi sd kn mrf mxf k).1) + 1)), .ref mp, .ref mq, .int (nI ct)])), (mt, .inl (cJ, 18, .inr (.inl mtf))), (mr, .inl (cJ, 120, .inr (.inl mrf))), (mx, .inl (cJ, 120, .inr (.inl (pu_put ((pu_cs fo wi hi sd kn mrf mxf k).2) ((pu_cs fo wi hi sd kn mrf mxf k).1) (fun q9 => pu_btw (mrf (6 * ((k + 1) % kn) + q9)) (mrf (6 * k + q9)) r_6 r_5))))), (mp, .inl (cJ, 324, .inr (.inl mpf))), (mq, .inl (cJ, 18, .inr (.inl mqf)))] := hD
            refine lv_iinc (v := (nI (k + 1))) (lv' := [(2, .int (nI (k + 1))), (6, .long r_6), (4, .long r_5), (3, .int (nI ((k + 1) % kn))), (0, .ref mo), (1, .int (nI sd))]) hx hb d_Mo_cutBy_148 hl (k := 5) rfl (nI_1 k) (by decide) rfl (fun ls hl => ?_)
            refine lv_goto (tgt := 7) hx hb d_Mo_cutBy_151 (by decide) ?_
            rw [er_5, er_6] at hP hD
            refine ih (k + 1) (by omega) (by omega) _ _ ?_ ?_ hS ls (lv_sub hl [4, 5, 0] rfl)
            · rw [hstep]; exact hP
            · rw [hstep]; exact hD
        · rw [lg_cmp_lt] at c_7
          have c_7 : ¬ (r_5 < 0) := c_7
          refine lv_iconst (v := 0) hx hb d_Mo_cutBy_47 (by decide) ?_
          refine lv_istore (lv' := [(8, .int 0), (6, .long r_6), (4, .long r_5), (3, .int (nI ((k + 1) % kn))), (0, .ref mo), (1, .int (nI sd)), (2, .int (nI k))]) hx hb d_Mo_cutBy_48 hl (by decide) rfl (fun ls hl => ?_)
          refine lv_iload hx hb d_Mo_cutBy_50 (lv_at hl 0 rfl) ?_
          refine lv_bipush (v := 6) hx hb d_Mo_cutBy_52 (by decide) ?_
          refine lv_icmp_ge (tgt := 90) hx hb d_Mo_cutBy_54 (by decide) (fun c_11 => absurd c_11 (by decide)) (fun _ => ?_)
          refine lv_aload_n hx hb d_Mo_cutBy_57 rfl (lv_at hl 4 rfl) ?_
          refine va_get (D := (dC, dI)) (ci := 3) (v := .ref mx) (C := R_Mo) (T := F_Mo) (N := 12) hx hb hts (fun w h => mw (i_Mo w h)) hown hK hP 0 rfl rfl 7 (by decide) (hts _ (mw wd_244)) (fun _ h9 => h9) rfl d_Mo_cutBy_58 ?_
          refine lv_bipush (v := 6) hx hb d_Mo_cutBy_61 (by decide) ?_
          refine lv_aload_n hx hb d_Mo_cutBy_63 rfl (lv_at hl 4 rfl) ?_
          refine va_get (D := (dC, dI)) (ci := 3) (v := .int (nI (pu_cs fo wi hi sd kn mrf mxf k).1)) (C := R_Mo) (T := F_Mo) (N := 12) hx hb hts (fun w h => mw (i_Mo w h)) hown hK hP 0 rfl rfl 8 (by decide) (hts _ (mw wd_245)) (fun _ h9 => h9) rfl d_Mo_cutBy_64 ?_
          refine lv_imul hx hb d_Mo_cutBy_67 ?_
          refine lv_topi (fun y_12 ey_12 => ?_)
          have ey_12 : y_12 = nI (6 * ((pu_cs fo wi hi sd kn mrf mxf k).1)) := by rw [ey_12]; first | rfl | (simp only [nk_set_0, nk_set_1, nk_set_2, nk_set_3, nk_set_4, nk_set_5, nk_set_6, nk_set_7, nk_set_12, nk_set_13, nk_set_18, pk_mul, nI_add]; done) | (simp only [nk_set_0, nk_set_1, nk_set_2, nk_set_3, nk_set_4, nk_set_5, nk_set_6, nk_set_7, nk_set_12, nk_set_13, nk_set_18, pk_mul, nI_add]; exact congrArg nI (by omega))
          subst ey_12
          refine lv_iload hx hb d_Mo_cutBy_68 (lv_at hl 0 rfl) ?_
          refine lv_iadd hx hb d_Mo_cutBy_70 ?_
          refine lv_topi (fun y_13 ey_13 => ?_)
          have ey_13 : y_13 = nI (6 * ((pu_cs fo wi hi sd kn mrf mxf k).1) + 0) := by rw [ey_13]; first | rfl | (simp only [nk_set_0, nk_set_1, nk_set_2, nk_set_3, nk_set_4, nk_set_5, nk_set_6, nk_set_7, nk_set_12, nk_set_13, nk_set_18, pk_mul, nI_add]; done) | (simp only [nk_set_0, nk_set_1, nk_set_2, nk_set_3, nk_set_4, nk_set_5, nk_set_6, nk_set_7, nk_set_12, nk_set_13, nk_set_18, pk_mul, nI_add]; exact congrArg nI (by omega))
          subst ey_13
          refine lv_aload_n hx hb d_Mo_cutBy_71 rfl (lv_at hl 4 rfl) ?_
          refine va_get (D := (dC, dI)) (ci := 3) (v := .ref mr) (C := R_Mo) (T := F_Mo) (N := 12) hx hb hts (fun w h => mw (i_Mo w h)) hown hK hP 0 rfl rfl 5 (by decide) (hts _ (mw wd_242)) (fun _ h9 => h9) rfl d_Mo_cutBy_72 ?_
          refine lv_bipush (v := 6) hx hb d_Mo_cutBy_75 (by decide) ?_
          refine lv_iload_n hx hb d_Mo_cutBy_77 rfl (lv_at hl 6 rfl) ?_
          refine lv_imul hx hb d_Mo_cutBy_78 ?_
          refine lv_topi (fun y_14 ey_14 => ?_)
          have ey_14 : y_14 = nI (6 * k) := by rw [ey_14]; first | rfl | (simp only [nk_set_0, nk_set_1, nk_set_2, nk_set_3, nk_set_4, nk_set_5, nk_set_6, nk_set_7, nk_set_12, nk_set_13, nk_set_18, pk_mul, nI_add]; done) | (simp only [nk_set_0, nk_set_1, nk_set_2, nk_set_3, nk_set_4, nk_set_5, nk_set_6, nk_set_7, nk_set_12, nk_set_13, nk_set_18, pk_mul, nI_add]; exact congrArg nI (by omega))
          subst ey_14
          refine lv_iload hx hb d_Mo_cutBy_79 (lv_at hl 0 rfl) ?_
          refine lv_iadd hx hb d_Mo_cutBy_81 ?_
          refine lv_topi (fun y_15 ey_15 => ?_)
          have ey_15 : y_15 = nI (6 * k + 0) := by rw [ey_15]; first | rfl | (simp only [nk_set_0, nk_set_1, nk_set_2, nk_set_3, nk_set_4, nk_set_5, nk_set_6, nk_set_7, nk_set_12, nk_set_13, nk_set_18, pk_mul, nI_add]; done) | (simp only [nk_set_0, nk_set_1, nk_set_2, nk_set_3, nk_set_4, nk_set_5, nk_set_6, nk_set_7, nk_set_12, nk_set_13, nk_set_18, pk_mul, nI_add]; exact congrArg nI (by omega))
          subst ey_15
          have hq_16 : nI (6 * k + 0) = nI (6 * k + 0) := by first | rfl | (simp only [nk_set_0, nk_set_1, nk_set_2, nk_set_3, nk_set_4, nk_set_5, nk_set_6, nk_set_7, nk_set_12, nk_set_13, nk_set_18, pk_mul, nI_add]; done) | (simp only [nk_set_0, nk_set_1, nk_set_2, nk_set_3, nk_set_4, nk_set_5, nk_set_6, nk_set_7, nk_set_12, nk_set_13, nk_set_18, pk_mul, nI_add]; exact congrArg nI (by omega))
          have hi_17 : vp_in (nI (6 * k + 0)) 120 := by rw [hq_16]; exact vp_in_nI (by omega) (by decide)
          refine va_lald hx hb hK hP 2 0 rfl rfl hi_17 d_Mo_cutBy_82 ?_
          refine lv_topl (fun y_18 ey_18 => ?_)
          rw [hq_16, nI_clamp (by omega)] at ey_18
          have hq_19 : nI (6 * ((pu_cs fo wi hi sd kn mrf mxf k).1) + 0) = nI (6 * ((pu_cs fo wi hi sd kn mrf mxf k).1) + 0) := by first | rfl | (simp only [nk_set_0, nk_set_1, nk_set_2, nk_set_3, nk_set_4, nk_set_5, nk_set_6, nk_set_7, nk_set_12, nk_set_13, nk_set_18, pk_mul, nI_add]; done) | (simp only [nk_set_0, nk_set_1, nk_set_2, nk_set_3, nk_set_4, nk_set_5, nk_set_6, nk_set_7, nk_set_12, nk_set_13, nk_set_18, pk_mul, nI_add]; exact congrArg nI (by omega))
          have hi_20 : vp_in (nI (6 * ((pu_cs fo wi hi sd kn mrf mxf k).1) + 0)) 120 := by rw [hq_19]; exact vp_in_nI (by omega) (by decide)
          refine va_last hx hb hK hP hD hS 3 0 rfl rfl hi_20 d_Mo_cutBy_83 (fun H locs hP hD hS => ?_)
          rw [hq_19, nI_clamp (by omega)] at hP hD
          have hP : va_P (dC, dI) cls4 [(mo, .inr (3, [.int 0, .int wi, .int hi, .int fo, .ref mt, .ref mr, .int (nI kn), .ref mx, .int (nI (pu_cs fo wi hi sd kn mrf mxf k).1), .ref mp, .ref mq, .int (nI ct)])), (mt, .inl (cJ, 18, .inr (.inl mtf))), (mr, .inl (cJ, 120, .inr (.inl mrf))), (mx, .inl (cJ, 120, .inr (.inl (vp_updL ((pu_cs fo wi hi sd kn mrf mxf k).2) (6 * ((pu_cs fo wi hi sd kn mrf mxf k).1) + 0) y_18)))), (mp, .inl (cJ, 324, .inr (.inl mpf))), (mq, .inl (cJ, 18, .inr (.inl mqf)))] H := hP
          have hD : va_D A [(mo, .inr (3, [.int 0, .int wi, .int hi, .int fo, .ref mt, .ref mr, .int (nI kn), .ref mx, .int (nI (pu_cs fo wi hi sd kn mrf mxf k).1), .ref mp, .ref mq, .int (nI ct)])), (mt, .inl (cJ, 18, .inr (.inl mtf))), (mr, .inl (cJ, 120, .inr (.inl mrf))), (mx, .inl (cJ, 120, .inr (.inl (vp_updL ((pu_cs fo wi hi sd kn mrf mxf k).2) (6 * ((pu_cs fo wi hi sd kn mrf mxf k).1) + 0) y_18)))), (mp, .inl (cJ, 324, .inr (.inl mpf))), (mq, .inl (cJ, 18, .inr (.inl mqf)))] := hD
          refine lv_iinc (v := 1) (lv' := [(8, .int 1), (6, .long r_6), (4, .long r_5), (3, .int (nI ((k + 1) % kn))), (0, .ref mo), (1, .int (nI sd)), (2, .int (nI k))]) hx hb d_Mo_cutBy_84 hl (k := 0) rfl (by decide) (by decide) rfl (fun ls hl => ?_)
          refine lv_goto (tgt := 50) hx hb d_Mo_cutBy_87 (by decide) ?_
          refine lv_iload hx hb d_Mo_cutBy_50 (lv_at hl 0 rfl) ?_
          refine lv_bipush (v := 6) hx hb d_Mo_cutBy_52 (by decide) ?_
          refine lv_icmp_ge (tgt := 90) hx hb d_Mo_cutBy_54 (by decide) (fun c_21 => absurd c_21 (by decide)) (fun _ => ?_)
          refine lv_aload_n hx hb d_Mo_cutBy_57 rfl (lv_at hl 4 rfl) ?_
          refine va_get (D := (dC, dI)) (ci := 3) (v := .ref mx) (C := R_Mo) (T := F_Mo) (N := 12) hx hb hts (fun w h => mw (i_Mo w h)) hown hK hP 0 rfl rfl 7 (by decide) (hts _ (mw wd_244)) (fun _ h9 => h9) rfl d_Mo_cutBy_58 ?_
          refine lv_bipush (v := 6) hx hb d_Mo_cutBy_61 (by decide) ?_
          refine lv_aload_n hx hb d_Mo_cutBy_63 rfl (lv_at hl 4 rfl) ?_
          refine va_get (D := (dC, dI)) (ci := 3) (v := .int (nI (pu_cs fo wi hi sd kn mrf mxf k).1)) (C := R_Mo) (T := F_Mo) (N := 12) hx hb hts (fun w h => mw (i_Mo w h)) hown hK hP 0 rfl rfl 8 (by decide) (hts _ (mw wd_245)) (fun _ h9 => h9) rfl d_Mo_cutBy_64 ?_
          refine lv_imul hx hb d_Mo_cutBy_67 ?_
          refine lv_topi (fun y_22 ey_22 => ?_)
          have ey_22 : y_22 = nI (6 * ((pu_cs fo wi hi sd kn mrf mxf k).1)) := by rw [ey_22]; first | rfl | (simp only [nk_set_0, nk_set_1, nk_set_2, nk_set_3, nk_set_4, nk_set_5, nk_set_6, nk_set_7, nk_set_12, nk_set_13, nk_set_18, pk_mul, nI_add]; done) | (simp only [nk_set_0, nk_set_1, nk_set_2, nk_set_3, nk_set_4, nk_set_5, nk_set_6, nk_set_7, nk_set_12, nk_set_13, nk_set_18, pk_mul, nI_add]; exact congrArg nI (by omega))
          subst ey_22
          refine lv_iload hx hb d_Mo_cutBy_68 (lv_at hl 0 rfl) ?_
          refine lv_iadd hx hb d_Mo_cutBy_70 ?_
          refine lv_topi (fun y_23 ey_23 => ?_)
          have ey_23 : y_23 = nI (6 * ((pu_cs fo wi hi sd kn mrf mxf k).1) + 1) := by rw [ey_23]; first | rfl | (simp only [nk_set_0, nk_set_1, nk_set_2, nk_set_3, nk_set_4, nk_set_5, nk_set_6, nk_set_7, nk_set_12, nk_set_13, nk_set_18, pk_mul, nI_add]; done) | (simp only [nk_set_0, nk_set_1, nk_set_2, nk_set_3, nk_set_4, nk_set_5, nk_set_6, nk_set_7, nk_set_12, nk_set_13, nk_set_18, pk_mul, nI_add]; exact congrArg nI (by omega))
          subst ey_23
          refine lv_aload_n hx hb d_Mo_cutBy_71 rfl (lv_at hl 4 rfl) ?_
          refine va_get (D := (dC, dI)) (ci := 3) (v := .ref mr) (C := R_Mo) (T := F_Mo) (N := 12) hx hb hts (fun w h => mw (i_Mo w h)) hown hK hP 0 rfl rfl 5 (by decide) (hts _ (mw wd_242)) (fun _ h9 => h9) rfl d_Mo_cutBy_72 ?_
          refine lv_bipush (v := 6) hx hb d_Mo_cutBy_75 (by decide) ?_
          refine lv_iload_n hx hb d_Mo_cutBy_77 rfl (lv_at hl 6 rfl) ?_
          refine lv_imul hx hb d_Mo_cutBy_78 ?_
          refine lv_topi (fun y_24 ey_24 => ?_)
          have ey_24 : y_24 = nI (6 * k) := by rw [ey_24]; first | rfl | (simp only [nk_set_0, nk_set_1, nk_set_2, nk_set_3, nk_set_4, nk_set_5, nk_set_6, nk_set_7, nk_set_12, nk_set_13, nk_set_18, pk_mul, nI_add]; done) | (simp only [nk_set_0, nk_set_1, nk_set_2, nk_set_3, nk_set_4, nk_set_5, nk_set_6, nk_set_7, nk_set_12, nk_set_13, nk_set_18, pk_mul, nI_add]; exact congrArg nI (by omega))
          subst ey_24
          refine lv_iload hx hb d_Mo_cutBy_79 (lv_at hl 0 rfl) ?_
          refine lv_iadd hx hb d_Mo_cutBy_81 ?_
          refine lv_topi (fun y_25 ey_25 => ?_)
          have ey_25 : y_25 = nI (6 * k + 1) := by rw [ey_25]; first | rfl | (simp only [nk_set_0, nk_set_1, nk_set_2, nk_set_3, nk_set_4, nk_set_5, nk_set_6, nk_set_7, nk_set_12, nk_set_13, nk_set_18, pk_mul, nI_add]; done) | (simp only [nk_set_0, nk_set_1, nk_set_2, nk_set_3, nk_set_4, nk_set_5, nk_set_6, nk_set_7, nk_set_12, nk_set_13, nk_set_18, pk_mul, nI_add]; exact congrArg nI (by omega))
          subst ey_25
          have hq_26 : nI (6 * k + 1) = nI (6 * k + 1) := by first | rfl | (simp only [nk_set_0, nk_set_1, nk_set_2, nk_set_3, nk_set_4, nk_set_5, nk_set_6, nk_set_7, nk_set_12, nk_set_13, nk_set_18, pk_mul, nI_add]; done) | (simp only [nk_set_0, nk_set_1, nk_set_2, nk_set_3, nk_set_4, nk_set_5, nk_set_6, nk_set_7, nk_set_12, nk_set_13, nk_set_18, pk_mul, nI_add]; exact congrArg nI (by omega))
          have hi_27 : vp_in (nI (6 * k + 1)) 120 := by rw [hq_26]; exact vp_in_nI (by omega) (by decide)
          refine va_lald hx hb hK hP 2 0 rfl rfl hi_27 d_Mo_cutBy_82 ?_
          refine lv_topl (fun y_28 ey_28 => ?_)
          rw [hq_26, nI_clamp (by omega)] at ey_28
          have hq_29 : nI (6 * ((pu_cs fo wi hi sd kn mrf mxf k).1) + 1) = nI (6 * ((pu_cs fo wi hi sd kn mrf mxf k).1) + 1) := by first | rfl | (simp only [nk_set_0, nk_set_1, nk_set_2, nk_set_3, nk_set_4, nk_set_5, nk_set_6, nk_set_7, nk_set_12, nk_set_13, nk_set_18, pk_mul, nI_add]; done) | (simp only [nk_set_0, nk_set_1, nk_set_2, nk_set_3, nk_set_4, nk_set_5, nk_set_6, nk_set_7, nk_set_12, nk_set_13, nk_set_18, pk_mul, nI_add]; exact congrArg nI (by omega))
          have hi_30 : vp_in (nI (6 * ((pu_cs fo wi hi sd kn mrf mxf k).1) + 1)) 120 := by rw [hq_29]; exact vp_in_nI (by omega) (by decide)
          refine va_last hx hb hK hP hD hS 3 0 rfl rfl hi_30 d_Mo_cutBy_83 (fun H locs hP hD hS => ?_)
          rw [hq_29, nI_clamp (by omega)] at hP hD
          have hP : va_P (dC, dI) cls4 [(mo, .inr (3, [.int 0, .int wi, .int hi, .int fo, .ref mt, .ref mr, .int (nI kn), .ref mx, .int (nI (pu_cs fo wi hi sd kn mrf mxf k).1), .ref mp, .ref mq, .int (nI ct)])), (mt, .inl (cJ, 18, .inr (.inl mtf))), (mr, .inl (cJ, 120, .inr (.inl mrf))), (mx, .inl (cJ, 120, .inr (.inl (vp_updL (vp_updL ((pu_cs fo wi hi sd kn mrf mxf k).2) (6 * ((pu_cs fo wi hi sd kn mrf mxf k).1) + 0) y_18) (6 * ((pu_cs fo wi hi sd kn mrf mxf k).1) + 1) y_28)))), (mp, .inl (cJ, 324, .inr (.inl mpf))), (mq, .inl (cJ, 18, .inr (.inl mqf)))] H := hP
          have hD : va_D A [(mo, .inr (3, [.int 0, .int wi, .int hi, .int fo, .ref mt, .ref mr, .int (nI kn), .ref mx, .int (nI (pu_cs fo wi hi sd kn mrf mxf k).1), .ref mp, .ref mq, .int (nI ct)])), (mt, .inl (cJ, 18, .inr (.inl mtf))), (mr, .inl (cJ, 120, .inr (.inl mrf))), (mx, .inl (cJ, 120, .inr (.inl (vp_updL (vp_updL ((pu_cs fo wi hi sd kn mrf mxf k).2) (6 * ((pu_cs fo wi hi sd kn mrf mxf k).1) + 0) y_18) (6 * ((pu_cs fo wi hi sd kn mrf mxf k).1) + 1) y_28)))), (mp, .inl (cJ, 324, .inr (.inl mpf))), (mq, .inl (cJ, 18, .inr (.inl mqf)))] := hD
          refine lv_iinc (v := 2) (lv' := [(8, .int 2), (6, .long r_6), (4, .long r_5), (3, .int (nI ((k + 1) % kn))), (0, .ref mo), (1, .int (nI sd)), (2, .int (nI k))]) hx hb d_Mo_cutBy_84 hl (k := 0) rfl (by decide) (by decide) rfl (fun ls hl => ?_)
          refine lv_goto (tgt := 50) hx hb d_Mo_cutBy_87 (by decide) ?_
          refine lv_iload hx hb d_Mo_cutBy_50 (lv_at hl 0 rfl) ?_
          refine lv_bipush (v := 6) hx hb d_Mo_cutBy_52 (by decide) ?_
          refine lv_icmp_ge (tgt := 90) hx hb d_Mo_cutBy_54 (by decide) (fun c_31 => absurd c_31 (by decide)) (fun _ => ?_)
          refine lv_aload_n hx hb d_Mo_cutBy_57 rfl (lv_at hl 4 rfl) ?_
          refine va_get (D := (dC, dI)) (ci := 3) (v := .ref mx) (C := R_Mo) (T := F_Mo) (N := 12) hx hb hts (fun w h => mw (i_Mo w h)) hown hK hP 0 rfl rfl 7 (by decide) (hts _ (mw wd_244)) (fun _ h9 => h9) rfl d_Mo_cutBy_58 ?_
          refine lv_bipush (v := 6) hx hb d_Mo_cutBy_61 (by decide) ?_
          refine lv_aload_n hx hb d_Mo_cutBy_63 rfl (lv_at hl 4 rfl) ?_
          refine va_get (D := (dC, dI)) (ci := 3) (v := .int (nI (pu_cs fo wi hi sd kn mrf mxf k).1)) (C := R_Mo) (T := F_Mo) (N := 12) hx hb hts (fun w h => mw (i_Mo w h)) hown hK hP 0 rfl rfl 8 (by decide) (hts _ (mw wd_245)) (fun _ h9 => h9) rfl d_Mo_cutBy_64 ?_
          refine lv_imul hx hb d_Mo_cutBy_67 ?_
          refine lv_topi (fun y_32 ey_32 => ?_)
          have ey_32 : y_32 = nI (6 * ((pu_cs fo wi hi sd kn mrf mxf k).1)) := by rw [ey_32]; first | rfl | (simp only [nk_set_0, nk_set_1, nk_set_2, nk_set_3, nk_set_4, nk_set_5, nk_set_6, nk_set_7, nk_set_12, nk_set_13, nk_set_18, pk_mul, nI_add]; done) | (simp only [nk_set_0, nk_set_1, nk_set_2, nk_set_3, nk_set_4, nk_set_5, nk_set_6, nk_set_7, nk_set_12, nk_set_13, nk_set_18, pk_mul, nI_add]; exact congrArg nI (by omega))
          subst ey_32
          refine lv_iload hx hb d_Mo_cutBy_68 (lv_at hl 0 rfl) ?_
          refine lv_iadd hx hb d_Mo_cutBy_70 ?_
          refine lv_topi (fun y_33 ey_33 => ?_)
          have ey_33 : y_33 = nI (6 * ((pu_cs fo wi hi sd kn mrf mxf k).1) + 2) := by rw [ey_33]; first | rfl | (simp only [nk_set_0, nk_set_1, nk_set_2, nk_set_3, nk_set_4, nk_set_5, nk_set_6, nk_set_7, nk_set_12, nk_set_13, nk_set_18, pk_mul, nI_add]; done) | (simp only [nk_set_0, nk_set_1, nk_set_2, nk_set_3, nk_set_4, nk_set_5, nk_set_6, nk_set_7, nk_set_12, nk_set_13, nk_set_18, pk_mul, nI_add]; exact congrArg nI (by omega))
          subst ey_33
          refine lv_aload_n hx hb d_Mo_cutBy_71 rfl (lv_at hl 4 rfl) ?_
          refine va_get (D := (dC, dI)) (ci := 3) (v := .ref mr) (C := R_Mo) (T := F_Mo) (N := 12) hx hb hts (fun w h => mw (i_Mo w h)) hown hK hP 0 rfl rfl 5 (by decide) (hts _ (mw wd_242)) (fun _ h9 => h9) rfl d_Mo_cutBy_72 ?_
          refine lv_bipush (v := 6) hx hb d_Mo_cutBy_75 (by decide) ?_
          refine lv_iload_n hx hb d_Mo_cutBy_77 rfl (lv_at hl 6 rfl) ?_
          refine lv_imul hx hb d_Mo_cutBy_78 ?_
          refine lv_topi (fun y_34 ey_34 => ?_)
          have ey_34 : y_34 = nI (6 * k) := by rw [ey_34]; first | rfl | (simp only [nk_set_0, nk_set_1, nk_set_2, nk_set_3, nk_set_4, nk_set_5, nk_set_6, nk_set_7, nk_set_12, nk_set_13, nk_set_18, pk_mul, nI_add]; done) | (simp only [nk_set_0, nk_set_1, nk_set_2, nk_set_3, nk_set_4, nk_set_5, nk_set_6, nk_set_7, nk_set_12, nk_set_13, nk_set_18, pk_mul, nI_add]; exact congrArg nI (by omega))
          subst ey_34
          refine lv_iload hx hb d_Mo_cutBy_79 (lv_at hl 0 rfl) ?_
          refine lv_iadd hx hb d_Mo_cutBy_81 ?_
          refine lv_topi (fun y_35 ey_35 => ?_)
          have ey_35 : y_35 = nI (6 * k + 2) := by rw [ey_35]; first | rfl | (simp only [nk_set_0, nk_set_1, nk_set_2, nk_set_3, nk_set_4, nk_set_5, nk_set_6, nk_set_7, nk_set_12, nk_set_13, nk_set_18, pk_mul, nI_add]; done) | (simp only [nk_set_0, nk_set_1, nk_set_2, nk_set_3, nk_set_4, nk_set_5, nk_set_6, nk_set_7, nk_set_12, nk_set_13, nk_set_18, pk_mul, nI_add]; exact congrArg nI (by omega))
          subst ey_35
          have hq_36 : nI (6 * k + 2) = nI (6 * k + 2) := by first | rfl | (simp only [nk_set_0, nk_set_1, nk_set_2, nk_set_3, nk_set_4, nk_set_5, nk_set_6, nk_set_7, nk_set_12, nk_set_13, nk_set_18, pk_mul, nI_add]; done) | (simp only [nk_set_0, nk_set_1, nk_set_2, nk_set_3, nk_set_4, nk_set_5, nk_set_6, nk_set_7, nk_set_12, nk_set_13, nk_set_18, pk_mul, nI_add]; exact congrArg nI (by omega))
          have hi_37 : vp_in (nI (6 * k + 2)) 120 := by rw [hq_36]; exact vp_in_nI (by omega) (by decide)
          refine va_lald hx hb hK hP 2 0 rfl rfl hi_37 d_Mo_cutBy_82 ?_
          refine lv_topl (fun y_38 ey_38 => ?_)
          rw [hq_36, nI_clamp (by omega)] at ey_38
          have hq_39 : nI (6 * ((pu_cs fo wi hi sd kn mrf mxf k).1) + 2) = nI (6 * ((pu_cs fo wi hi sd kn mrf mxf k).1) + 2) := by first | rfl | (simp only [nk_set_0, nk_set_1, nk_set_2, nk_set_3, nk_set_4, nk_set_5, nk_set_6, nk_set_7, nk_set_12, nk_set_13, nk_set_18, pk_mul, nI_add]; done) | (simp only [nk_set_0, nk_set_1, nk_set_2, nk_set_3, nk_set_4, nk_set_5, nk_set_6, nk_set_7, nk_set_12, nk_set_13, nk_set_18, pk_mul, nI_add]; exact congrArg nI (by omega))
          have hi_40 : vp_in (nI (6 * ((pu_cs fo wi hi sd kn mrf mxf k).1) + 2)) 120 := by rw [hq_39]; exact vp_in_nI (by omega) (by decide)
          refine va_last hx hb hK hP hD hS 3 0 rfl rfl hi_40 d_Mo_cutBy_83 (fun H locs hP hD hS => ?_)
          rw [hq_39, nI_clamp (by omega)] at hP hD
          have hP : va_P (dC, dI) cls4 [(mo, .inr (3, [.int 0, .int wi, .int hi, .int fo, .ref mt, .ref mr, .int (nI kn), .ref mx, .int (nI (pu_cs fo wi hi sd kn mrf mxf k).1), .ref mp, .ref mq, .int (nI ct)])), (mt, .inl (cJ, 18, .inr (.inl mtf))), (mr, .inl (cJ, 120, .inr (.inl mrf))), (mx, .inl (cJ, 120, .inr (.inl (vp_updL (vp_updL (vp_updL ((pu_cs fo wi hi sd kn mrf mxf k).2) (6 * ((pu_cs fo wi hi sd kn mrf mxf k).1) + 0) y_18) (6 * ((pu_cs fo wi hi sd kn mrf mxf k).1) + 1) y_28) (6 * ((pu_cs fo wi hi sd kn mrf mxf k).1) + 2) y_38)))), (mp, .inl (cJ, 324, .inr (.inl mpf))), (mq, .inl (cJ, 18, .inr (.inl mqf)))] H := hP
          have hD : va_D A [(mo, .inr (3, [.int 0, .int wi, .int hi, .int fo, .ref mt, .ref mr, .int (nI kn), .ref mx, .int (nI (pu_cs fo wi hi sd kn mrf mxf k).1), .ref mp, .ref mq, .int (nI ct)])), (mt, .inl (cJ, 18, .inr (.inl mtf))), (mr, .inl (cJ, 120, .inr (.inl mrf))), (mx, .inl (cJ, 120, .inr (.inl (vp_updL (vp_updL (vp_updL ((pu_cs fo wi hi sd kn mrf mxf k).2) (6 * ((pu_cs fo wi hi sd kn mrf mxf k).1) + 0) y_18) (6 * ((pu_cs fo wi hi sd kn mrf mxf k).1) + 1) y_28) (6 * ((pu_cs fo wi hi sd kn mrf mxf k).1) + 2) y_38)))), (mp, .inl (cJ, 324, .inr (.inl mpf))), (mq, .inl (cJ, 18, .inr (.inl mqf)))] := hD
          refine lv_iinc (v := 3) (lv' := [(8, .int 3), (6, .long r_6), (4, .long r_5), (3, .int (nI ((k + 1) % kn))), (0, .ref mo), (1, .int (nI sd)), (2, .int (nI k))]) hx hb d_Mo_cutBy_84 hl (k := 0) rfl (by decide) (by decide) rfl (fun ls hl => ?_)
          refine lv_goto (tgt := 50) hx hb d_Mo_cutBy_87 (by decide) ?_
          refine lv_iload hx hb d_Mo_cutBy_50 (lv_at hl 0 rfl) ?_
          refine lv_bipush (v := 6) hx hb d_Mo_cutBy_52 (by decide) ?_
          refine lv_icmp_ge (tgt := 90) hx hb d_Mo_cutBy_54 (by decide) (fun c_41 => absurd c_41 (by decide)) (fun _ => ?_)
          refine lv_aload_n hx hb d_Mo_cutBy_57 rfl (lv_at hl 4 rfl) ?_
          refine va_get (D := (dC, dI)) (ci := 3) (v := .ref mx) (C := R_Mo) (T := F_Mo) (N := 12) hx hb hts (fun w h => mw (i_Mo w h)) hown hK hP 0 rfl rfl 7 (by decide) (hts _ (mw wd_244)) (fun _ h9 => h9) rfl d_Mo_cutBy_58 ?_
          refine lv_bipush (v := 6) hx hb d_Mo_cutBy_61 (by decide) ?_
          refine lv_aload_n hx hb d_Mo_cutBy_63 rfl (lv_at hl 4 rfl) ?_
          refine va_get (D := (dC, dI)) (ci := 3) (v := .int (nI (pu_cs fo wi hi sd kn mrf mxf k).1)) (C := R_Mo) (T := F_Mo) (N := 12) hx hb hts (fun w h => mw (i_Mo w h)) hown hK hP 0 rfl rfl 8 (by decide) (hts _ (mw wd_245)) (fun _ h9 => h9) rfl d_Mo_cutBy_64 ?_
          refine lv_imul hx hb d_Mo_cutBy_67 ?_
          refine lv_topi (fun y_42 ey_42 => ?_)
          have ey_42 : y_42 = nI (6 * ((pu_cs fo wi hi sd kn mrf mxf k).1)) := by rw [ey_42]; first | rfl | (simp only [nk_set_0, nk_set_1, nk_set_2, nk_set_3, nk_set_4, nk_set_5, nk_set_6, nk_set_7, nk_set_12, nk_set_13, nk_set_18, pk_mul, nI_add]; done) | (simp only [nk_set_0, nk_set_1, nk_set_2, nk_set_3, nk_set_4, nk_set_5, nk_set_6, nk_set_7, nk_set_12, nk_set_13, nk_set_18, pk_mul, nI_add]; exact congrArg nI (by omega))
          subst ey_42
          refine lv_iload hx hb d_Mo_cutBy_68 (lv_at hl 0 rfl) ?_
          refine lv_iadd hx hb d_Mo_cutBy_70 ?_
          refine lv_topi (fun y_43 ey_43 => ?_)
          have ey_43 : y_43 = nI (6 * ((pu_cs fo wi hi sd kn mrf mxf k).1) + 3) := by rw [ey_43]; first | rfl | (simp only [nk_set_0, nk_set_1, nk_set_2, nk_set_3, nk_set_4, nk_set_5, nk_set_6, nk_set_7, nk_set_12, nk_set_13, nk_set_18, pk_mul, nI_add]; done) | (simp only [nk_set_0, nk_set_1, nk_set_2, nk_set_3, nk_set_4, nk_set_5, nk_set_6, nk_set_7, nk_set_12, nk_set_13, nk_set_18, pk_mul, nI_add]; exact congrArg nI (by omega))
          subst ey_43
          refine lv_aload_n hx hb d_Mo_cutBy_71 rfl (lv_at hl 4 rfl) ?_
          refine va_get (D := (dC, dI)) (ci := 3) (v := .ref mr) (C := R_Mo) (T := F_Mo) (N := 12) hx hb hts (fun w h => mw (i_Mo w h)) hown hK hP 0 rfl rfl 5 (by decide) (hts _ (mw wd_242)) (fun _ h9 => h9) rfl d_Mo_cutBy_72 ?_
          refine lv_bipush (v := 6) hx hb d_Mo_cutBy_75 (by decide) ?_
          refine lv_iload_n hx hb d_Mo_cutBy_77 rfl (lv_at hl 6 rfl) ?_
          refine lv_imul hx hb d_Mo_cutBy_78 ?_
          refine lv_topi (fun y_44 ey_44 => ?_)
          have ey_44 : y_44 = nI (6 * k) := by rw [ey_44]; first | rfl | (simp only [nk_set_0, nk_set_1, nk_set_2, nk_set_3, nk_set_4, nk_set_5, nk_set_6, nk_set_7, nk_set_12, nk_set_13, nk_set_18, pk_mul, nI_add]; done) | (simp only [nk_set_0, nk_set_1, nk_set_2, nk_set_3, nk_set_4, nk_set_5, nk_set_6, nk_set_7, nk_set_12, nk_set_13, nk_set_18, pk_mul, nI_add]; exact congrArg nI (by omega))
          subst ey_44
          refine lv_iload hx hb d_Mo_cutBy_79 (lv_at hl 0 rfl) ?_
          refine lv_iadd hx hb d_Mo_cutBy_81 ?_
          refine lv_topi (fun y_45 ey_45 => ?_)
          have ey_45 : y_45 = nI (6 * k + 3) := by rw [ey_45]; first | rfl | (simp only [nk_set_0, nk_set_1, nk_set_2, nk_set_3, nk_set_4, nk_set_5, nk_set_6, nk_set_7, nk_set_12, nk_set_13, nk_set_18, pk_mul, nI_add]; done) | (simp only [nk_set_0, nk_set_1, nk_set_2, nk_set_3, nk_set_4, nk_set_5, nk_set_6, nk_set_7, nk_set_12, nk_set_13, nk_set_18, pk_mul, nI_add]; exact congrArg nI (by omega))
          subst ey_45
          have hq_46 : nI (6 * k + 3) = nI (6 * k + 3) := by first | rfl | (simp only [nk_set_0, nk_set_1, nk_set_2, nk_set_3, nk_set_4, nk_set_5, nk_set_6, nk_set_7, nk_set_12, nk_set_13, nk_set_18, pk_mul, nI_add]; done) | (simp only [nk_set_0, nk_set_1, nk_set_2, nk_set_3, nk_set_4, nk_set_5, nk_set_6, nk_set_7, nk_set_12, nk_set_13, nk_set_18, pk_mul, nI_add]; exact congrArg nI (by omega))
          have hi_47 : vp_in (nI (6 * k + 3)) 120 := by rw [hq_46]; exact vp_in_nI (by omega) (by decide)
          refine va_lald hx hb hK hP 2 0 rfl rfl hi_47 d_Mo_cutBy_82 ?_
          refine lv_topl (fun y_48 ey_48 => ?_)
          rw [hq_46, nI_clamp (by omega)] at ey_48
          have hq_49 : nI (6 * ((pu_cs fo wi hi sd kn mrf mxf k).1) + 3) = nI (6 * ((pu_cs fo wi hi sd kn mrf mxf k).1) + 3) := by first | rfl | (simp only [nk_set_0, nk_set_1, nk_set_2, nk_set_3, nk_set_4, nk_set_5, nk_set_6, nk_set_7, nk_set_12, nk_set_13, nk_set_18, pk_mul, nI_add]; done) | (simp only [nk_set_0, nk_set_1, nk_set_2, nk_set_3, nk_set_4, nk_set_5, nk_set_6, nk_set_7, nk_set_12, nk_set_13, nk_set_18, pk_mul, nI_add]; exact congrArg nI (by omega))
          have hi_50 : vp_in (nI (6 * ((pu_cs fo wi hi sd kn mrf mxf k).1) + 3)) 120 := by rw [hq_49]; exact vp_in_nI (by omega) (by decide)
          refine va_last hx hb hK hP hD hS 3 0 rfl rfl hi_50 d_Mo_cutBy_83 (fun H locs hP hD hS => ?_)
          rw [hq_49, nI_clamp (by omega)] at hP hD
          have hP : va_P (dC, dI) cls4 [(mo, .inr (3, [.int 0, .int wi, .int hi, .int fo, .ref mt, .ref mr, .int (nI kn), .ref mx, .int (nI (pu_cs fo wi hi sd kn mrf mxf k).1), .ref mp, .ref mq, .int (nI ct)])), (mt, .inl (cJ, 18, .inr (.inl mtf))), (mr, .inl (cJ, 120, .inr (.inl mrf))), (mx, .inl (cJ, 120, .inr (.inl (vp_updL (vp_updL (vp_updL (vp_updL ((pu_cs fo wi hi sd kn mrf mxf k).2) (6 * ((pu_cs fo wi hi sd kn mrf mxf k).1) + 0) y_18) (6 * ((pu_cs fo wi hi sd kn mrf mxf k).1) + 1) y_28) (6 * ((pu_cs fo wi hi sd kn mrf mxf k).1) + 2) y_38) (6 * ((pu_cs fo wi hi sd kn mrf mxf k).1) + 3) y_48)))), (mp, .inl (cJ, 324, .inr (.inl mpf))), (mq, .inl (cJ, 18, .inr (.inl mqf)))] H := hP
          have hD : va_D A [(mo, .inr (3, [.int 0, .int wi, .int hi, .int fo, .ref mt, .ref mr, .int (nI kn), .ref mx, .int (nI (pu_cs fo wi hi sd kn mrf mxf k).1), .ref mp, .ref mq, .int (nI ct)])), (mt, .inl (cJ, 18, .inr (.inl mtf))), (mr, .inl (cJ, 120, .inr (.inl mrf))), (mx, .inl (cJ, 120, .inr (.inl (vp_updL (vp_updL (vp_updL (vp_updL ((pu_cs fo wi hi sd kn mrf mxf k).2) (6 * ((pu_cs fo wi hi sd kn mrf mxf k).1) + 0) y_18) (6 * ((pu_cs fo wi hi sd kn mrf mxf k).1) + 1) y_28) (6 * ((pu_cs fo wi hi sd kn mrf mxf k).1) + 2) y_38) (6 * ((pu_cs fo wi hi sd kn mrf mxf k).1) + 3) y_48)))), (mp, .inl (cJ, 324, .inr (.inl mpf))), (mq, .inl (cJ, 18, .inr (.inl mqf)))] := hD
          refine lv_iinc (v := 4) (lv' := [(8, .int 4), (6, .long r_6), (4, .long r_5), (3, .int (nI ((k + 1) % kn))), (0, .ref mo), (1, .int (nI sd)), (2, .int (nI k))]) hx hb d_Mo_cutBy_84 hl (k := 0) rfl (by decide) (by decide) rfl (fun ls hl => ?_)
          refine lv_goto (tgt := 50) hx hb d_Mo_cutBy_87 (by decide) ?_
          refine lv_iload hx hb d_Mo_cutBy_50 (lv_at hl 0 rfl) ?_
          refine lv_bipush (v := 6) hx hb d_Mo_cutBy_52 (by decide) ?_
          refine lv_icmp_ge (tgt := 90) hx hb d_Mo_cutBy_54 (by decide) (fun c_51 => absurd c_51 (by decide)) (fun _ => ?_)
          refine lv_aload_n hx hb d_Mo_cutBy_57 rfl (lv_at hl 4 rfl) ?_
          refine va_get (D := (dC, dI)) (ci := 3) (v := .ref mx) (C := R_Mo) (T := F_Mo) (N := 12) hx hb hts (fun w h => mw (i_Mo w h)) hown hK hP 0 rfl rfl 7 (by decide) (hts _ (mw wd_244)) (fun _ h9 => h9) rfl d_Mo_cutBy_58 ?_
          refine lv_bipush (v := 6) hx hb d_Mo_cutBy_61 (by decide) ?_
          refine lv_aload_n hx hb d_Mo_cutBy_63 rfl (lv_at hl 4 rfl) ?_
          refine va_get (D := (dC, dI)) (ci := 3) (v := .int (nI (pu_cs fo wi hi sd kn mrf mxf k).1)) (C := R_Mo) (T := F_Mo) (N := 12) hx hb hts (fun w h => mw (i_Mo w h)) hown hK hP 0 rfl rfl 8 (by decide) (hts _ (mw wd_245)) (fun _ h9 => h9) rfl d_Mo_cutBy_64 ?_
          refine lv_imul hx hb d_Mo_cutBy_67 ?_
          refine lv_topi (fun y_52 ey_52 => ?_)
          have ey_52 : y_52 = nI (6 * ((pu_cs fo wi hi sd kn mrf mxf k).1)) := by rw [ey_52]; first | rfl | (simp only [nk_set_0, nk_set_1, nk_set_2, nk_set_3, nk_set_4, nk_set_5, nk_set_6, nk_set_7, nk_set_12, nk_set_13, nk_set_18, pk_mul, nI_add]; done) | (simp only [nk_set_0, nk_set_1, nk_set_2, nk_set_3, nk_set_4, nk_set_5, nk_set_6, nk_set_7, nk_set_12, nk_set_13, nk_set_18, pk_mul, nI_add]; exact congrArg nI (by omega))
          subst ey_52
          refine lv_iload hx hb d_Mo_cutBy_68 (lv_at hl 0 rfl) ?_
          refine lv_iadd hx hb d_Mo_cutBy_70 ?_
          refine lv_topi (fun y_53 ey_53 => ?_)
          have ey_53 : y_53 = nI (6 * ((pu_cs fo wi hi sd kn mrf mxf k).1) + 4) := by rw [ey_53]; first | rfl | (simp only [nk_set_0, nk_set_1, nk_set_2, nk_set_3, nk_set_4, nk_set_5, nk_set_6, nk_set_7, nk_set_12, nk_set_13, nk_set_18, pk_mul, nI_add]; done) | (simp only [nk_set_0, nk_set_1, nk_set_2, nk_set_3, nk_set_4, nk_set_5, nk_set_6, nk_set_7, nk_set_12, nk_set_13, nk_set_18, pk_mul, nI_add]; exact congrArg nI (by omega))
          subst ey_53
          refine lv_aload_n hx hb d_Mo_cutBy_71 rfl (lv_at hl 4 rfl) ?_
          refine va_get (D := (dC, dI)) (ci := 3) (v := .ref mr) (C := R_Mo) (T := F_Mo) (N := 12) hx hb hts (fun w h => mw (i_Mo w h)) hown hK hP 0 rfl rfl 5 (by decide) (hts _ (mw wd_242)) (fun _ h9 => h9) rfl d_Mo_cutBy_72 ?_
          refine lv_bipush (v := 6) hx hb d_Mo_cutBy_75 (by decide) ?_
          refine lv_iload_n hx hb d_Mo_cutBy_77 rfl (lv_at hl 6 rfl) ?_
          refine lv_imul hx hb d_Mo_cutBy_78 ?_
          refine lv_topi (fun y_54 ey_54 => ?_)
          have ey_54 : y_54 = nI (6 * k) := by rw [ey_54]; first | rfl | (simp only [nk_set_0, nk_set_1, nk_set_2, nk_set_3, nk_set_4, nk_set_5, nk_set_6, nk_set_7, nk_set_12, nk_set_13, nk_set_18, pk_mul, nI_add]; done) | (simp only [nk_set_0, nk_set_1, nk_set_2, nk_set_3, nk_set_4, nk_set_5, nk_set_6, nk_set_7, nk_set_12, nk_set_13, nk_set_18, pk_mul, nI_add]; exact congrArg nI (by omega))
          subst ey_54
          refine lv_iload hx hb d_Mo_cutBy_79 (lv_at hl 0 rfl) ?_
          refine lv_iadd hx hb d_Mo_cutBy_81 ?_
          refine lv_topi (fun y_55 ey_55 => ?_)
          have ey_55 : y_55 = nI (6 * k + 4) := by rw [ey_55]; first | rfl | (simp only [nk_set_0, nk_set_1, nk_set_2, nk_set_3, nk_set_4, nk_set_5, nk_set_6, nk_set_7, nk_set_12, nk_set_13, nk_set_18, pk_mul, nI_add]; done) | (simp only [nk_set_0, nk_set_1, nk_set_2, nk_set_3, nk_set_4, nk_set_5, nk_set_6, nk_set_7, nk_set_12, nk_set_13, nk_set_18, pk_mul, nI_add]; exact congrArg nI (by omega))
          subst ey_55
          have hq_56 : nI (6 * k + 4) = nI (6 * k + 4) := by first | rfl | (simp only [nk_set_0, nk_set_1, nk_set_2, nk_set_3, nk_set_4, nk_set_5, nk_set_6, nk_set_7, nk_set_12, nk_set_13, nk_set_18, pk_mul, nI_add]; done) | (simp only [nk_set_0, nk_set_1, nk_set_2, nk_set_3, nk_set_4, nk_set_5, nk_set_6, nk_set_7, nk_set_12, nk_set_13, nk_set_18, pk_mul, nI_add]; exact congrArg nI (by omega))
          have hi_57 : vp_in (nI (6 * k + 4)) 120 := by rw [hq_56]; exact vp_in_nI (by omega) (by decide)
          refine va_lald hx hb hK hP 2 0 rfl rfl hi_57 d_Mo_cutBy_82 ?_
          refine lv_topl (fun y_58 ey_58 => ?_)
          rw [hq_56, nI_clamp (by omega)] at ey_58
          have hq_59 : nI (6 * ((pu_cs fo wi hi sd kn mrf mxf k).1) + 4) = nI (6 * ((pu_cs fo wi hi sd kn mrf mxf k).1) + 4) := by first | rfl | (simp only [nk_set_0, nk_set_1, nk_set_2, nk_set_3, nk_set_4, nk_set_5, nk_set_6, nk_set_7, nk_set_12, nk_set_13, nk_set_18, pk_mul, nI_add]; done) | (simp only [nk_set_0, nk_set_1, nk_set_2, nk_set_3, nk_set_4, nk_set_5, nk_set_6, nk_set_7, nk_set_12, nk_set_13, nk_set_18, pk_mul, nI_add]; exact congrArg nI (by omega))
          have hi_60 : vp_in (nI (6 * ((pu_cs fo wi hi sd kn mrf mxf k).1) + 4)) 120 := by rw [hq_59]; exact vp_in_nI (by omega) (by decide)
          refine va_last hx hb hK hP hD hS 3 0 rfl rfl hi_60 d_Mo_cutBy_83 (fun H locs hP hD hS => ?_)
          rw [hq_59, nI_clamp (by omega)] at hP hD
          have hP : va_P (dC, dI) cls4 [(mo, .inr (3, [.int 0, .int wi, .int hi, .int fo, .ref mt, .ref mr, .int (nI kn), .ref mx, .int (nI (pu_cs fo wi hi sd kn mrf mxf k).1), .ref mp, .ref mq, .int (nI ct)])), (mt, .inl (cJ, 18, .inr (.inl mtf))), (mr, .inl (cJ, 120, .inr (.inl mrf))), (mx, .inl (cJ, 120, .inr (.inl (vp_updL (vp_updL (vp_updL (vp_updL (vp_updL ((pu_cs fo wi hi sd kn mrf mxf k).2) (6 * ((pu_cs fo wi hi sd kn mrf mxf k).1) + 0) y_18) (6 * ((pu_cs fo wi hi sd kn mrf mxf k).1) + 1) y_28) (6 * ((pu_cs fo wi hi sd kn mrf mxf k).1) + 2) y_38) (6 * ((pu_cs fo wi hi sd kn mrf mxf k).1) + 3) y_48) (6 * ((pu_cs fo wi hi sd kn mrf mxf k).1) + 4) y_58)))), (mp, .inl (cJ, 324, .inr (.inl mpf))), (mq, .inl (cJ, 18, .inr (.inl mqf)))] H := hP
          have hD : va_D A [(mo, .inr (3, [.int 0, .int wi, .int hi, .int fo, .ref mt, .ref mr, .int (nI kn), .ref mx, .int (nI (pu_cs fo wi hi sd kn mrf mxf k).1), .ref mp, .ref mq, .int (nI ct)])), (mt, .inl (cJ, 18, .inr (.inl mtf))), (mr, .inl (cJ, 120, .inr (.inl mrf))), (mx, .inl (cJ, 120, .inr (.inl (vp_updL (vp_updL (vp_updL (vp_updL (vp_updL ((pu_cs fo wi hi sd kn mrf mxf k).2) (6 * ((pu_cs fo wi hi sd kn mrf mxf k).1) + 0) y_18) (6 * ((pu_cs fo wi hi sd kn mrf mxf k).1) + 1) y_28) (6 * ((pu_cs fo wi hi sd kn mrf mxf k).1) + 2) y_38) (6 * ((pu_cs fo wi hi sd kn mrf mxf k).1) + 3) y_48) (6 * ((pu_cs fo wi hi sd kn mrf mxf k).1) + 4) y_58)))), (mp, .inl (cJ, 324, .inr (.inl mpf))), (mq, .inl (cJ, 18, .inr (.inl mqf)))] := hD
          refine lv_iinc (v := 5) (lv' := [(8, .int 5), (6, .long r_6), (4, .long r_5), (3, .int (nI ((k + 1) % kn))), (0, .ref mo), (1, .int (nI sd)), (2, .int (nI k))]) hx hb d_Mo_cutBy_84 hl (k := 0) rfl (by decide) (by decide) rfl (fun ls hl => ?_)
          refine lv_goto (tgt := 50) hx hb d_Mo_cutBy_87 (by decide) ?_
          refine lv_iload hx hb d_Mo_cutBy_50 (lv_at hl 0 rfl) ?_
          refine lv_bipush (v := 6) hx hb d_Mo_cutBy_52 (by decide) ?_
          refine lv_icmp_ge (tgt := 90) hx hb d_Mo_cutBy_54 (by decide) (fun c_61 => absurd c_61 (by decide)) (fun _ => ?_)
          refine lv_aload_n hx hb d_Mo_cutBy_57 rfl (lv_at hl 4 rfl) ?_
          refine va_get (D := (dC, dI)) (ci := 3) (v := .ref mx) (C := R_Mo) (T := F_Mo) (N := 12) hx hb hts (fun w h => mw (i_Mo w h)) hown hK hP 0 rfl rfl 7 (by decide) (hts _ (mw wd_244)) (fun _ h9 => h9) rfl d_Mo_cutBy_58 ?_
          refine lv_bipush (v := 6) hx hb d_Mo_cutBy_61 (by decide) ?_
          refine lv_aload_n hx hb d_Mo_cutBy_63 rfl (lv_at hl 4 rfl) ?_
          refine va_get (D := (dC, dI)) (ci := 3) (v := .int (nI (pu_cs fo wi hi sd kn mrf mxf k).1)) (C := R_Mo) (T := F_Mo) (N := 12) hx hb hts (fun w h => mw (i_Mo w h)) hown hK hP 0 rfl rfl 8 (by decide) (hts _ (mw wd_245)) (fun _ h9 => h9) rfl d_Mo_cutBy_64 ?_
          refine lv_imul hx hb d_Mo_cutBy_67 ?_
          refine lv_topi (fun y_62 ey_62 => ?_)
          have ey_62 : y_62 = nI (6 * ((pu_cs fo wi hi sd kn mrf mxf k).1)) := by rw [ey_62]; first | rfl | (simp only [nk_set_0, nk_set_1, nk_set_2, nk_set_3, nk_set_4, nk_set_5, nk_set_6, nk_set_7, nk_set_12, nk_set_13, nk_set_18, pk_mul, nI_add]; done) | (simp only [nk_set_0, nk_set_1, nk_set_2, nk_set_3, nk_set_4, nk_set_5, nk_set_6, nk_set_7, nk_set_12, nk_set_13, nk_set_18, pk_mul, nI_add]; exact congrArg nI (by omega))
          subst ey_62
          refine lv_iload hx hb d_Mo_cutBy_68 (lv_at hl 0 rfl) ?_
          refine lv_iadd hx hb d_Mo_cutBy_70 ?_
          refine lv_topi (fun y_63 ey_63 => ?_)
          have ey_63 : y_63 = nI (6 * ((pu_cs fo wi hi sd kn mrf mxf k).1) + 5) := by rw [ey_63]; first | rfl | (simp only [nk_set_0, nk_set_1, nk_set_2, nk_set_3, nk_set_4, nk_set_5, nk_set_6, nk_set_7, nk_set_12, nk_set_13, nk_set_18, pk_mul, nI_add]; done) | (simp only [nk_set_0, nk_set_1, nk_set_2, nk_set_3, nk_set_4, nk_set_5, nk_set_6, nk_set_7, nk_set_12, nk_set_13, nk_set_18, pk_mul, nI_add]; exact congrArg nI (by omega))
          subst ey_63
          refine lv_aload_n hx hb d_Mo_cutBy_71 rfl (lv_at hl 4 rfl) ?_
          refine va_get (D := (dC, dI)) (ci := 3) (v := .ref mr) (C := R_Mo) (T := F_Mo) (N := 12) hx hb hts (fun w h => mw (i_Mo w h)) hown hK hP 0 rfl rfl 5 (by decide) (hts _ (mw wd_242)) (fun _ h9 => h9) rfl d_Mo_cutBy_72 ?_
          refine lv_bipush (v := 6) hx hb d_Mo_cutBy_75 (by decide) ?_
          refine lv_iload_n hx hb d_Mo_cutBy_77 rfl (lv_at hl 6 rfl) ?_
          refine lv_imul hx hb d_Mo_cutBy_78 ?_
          refine lv_topi (fun y_64 ey_64 => ?_)
          have ey_64 : y_64 = nI (6 * k) := by rw [ey_64]; first | rfl | (simp only [nk_set_0, nk_set_1, nk_set_2, nk_set_3, nk_set_4, nk_set_5, nk_set_6, nk_set_7, nk_set_12, nk_set_13, nk_set_18, pk_mul, nI_add]; done) | (simp only [nk_set_0, nk_set_1, nk_set_2, nk_set_3, nk_set_4, nk_set_5, nk_set_6, nk_set_7, nk_set_12, nk_set_13, nk_set_18, pk_mul, nI_add]; exact congrArg nI (by omega))
          subst ey_64
          refine lv_iload hx hb d_Mo_cutBy_79 (lv_at hl 0 rfl) ?_
          refine lv_iadd hx hb d_Mo_cutBy_81 ?_
          refine lv_topi (fun y_65 ey_65 => ?_)
          have ey_65 : y_65 = nI (6 * k + 5) := by rw [ey_65]; first | rfl | (simp only [nk_set_0, nk_set_1, nk_set_2, nk_set_3, nk_set_4, nk_set_5, nk_set_6, nk_set_7, nk_set_12, nk_set_13, nk_set_18, pk_mul, nI_add]; done) | (simp only [nk_set_0, nk_set_1, nk_set_2, nk_set_3, nk_set_4, nk_set_5, nk_set_6, nk_set_7, nk_set_12, nk_set_13, nk_set_18, pk_mul, nI_add]; exact congrArg nI (by omega))
          subst ey_65
          have hq_66 : nI (6 * k + 5) = nI (6 * k + 5) := by first | rfl | (simp only [nk_set_0, nk_set_1, nk_set_2, nk_set_3, nk_set_4, nk_set_5, nk_set_6, nk_set_7, nk_set_12, nk_set_13, nk_set_18, pk_mul, nI_add]; done) | (simp only [nk_set_0, nk_set_1, nk_set_2, nk_set_3, nk_set_4, nk_set_5, nk_set_6, nk_set_7, nk_set_12, nk_set_13, nk_set_18, pk_mul, nI_add]; exact congrArg nI (by omega))
          have hi_67 : vp_in (nI (6 * k + 5)) 120 := by rw [hq_66]; exact vp_in_nI (by omega) (by decide)
          refine va_lald hx hb hK hP 2 0 rfl rfl hi_67 d_Mo_cutBy_82 ?_
          refine lv_topl (fun y_68 ey_68 => ?_)
          rw [hq_66, nI_clamp (by omega)] at ey_68
          have hq_69 : nI (6 * ((pu_cs fo wi hi sd kn mrf mxf k).1) + 5) = nI (6 * ((pu_cs fo wi hi sd kn mrf mxf k).1) + 5) := by first | rfl | (simp only [nk_set_0, nk_set_1, nk_set_2, nk_set_3, nk_set_4, nk_set_5, nk_set_6, nk_set_7, nk_set_12, nk_set_13, nk_set_18, pk_mul, nI_add]; done) | (simp only [nk_set_0, nk_set_1, nk_set_2, nk_set_3, nk_set_4, nk_set_5, nk_set_6, nk_set_7, nk_set_12, nk_set_13, nk_set_18, pk_mul, nI_add]; exact congrArg nI (by omega))
          have hi_70 : vp_in (nI (6 * ((pu_cs fo wi hi sd kn mrf mxf k).1) + 5)) 120 := by rw [hq_69]; exact vp_in_nI (by omega) (by decide)
          refine va_last hx hb hK hP hD hS 3 0 rfl rfl hi_70 d_Mo_cutBy_83 (fun H locs hP hD hS => ?_)
          rw [hq_69, nI_clamp (by omega)] at hP hD
          have hP : va_P (dC, dI) cls4 [(mo, .inr (3, [.int 0, .int wi, .int hi, .int fo, .ref mt, .ref mr, .int (nI kn), .ref mx, .int (nI (pu_cs fo wi hi sd kn mrf mxf k).1), .ref mp, .ref mq, .int (nI ct)])), (mt, .inl (cJ, 18, .inr (.inl mtf))), (mr, .inl (cJ, 120, .inr (.inl mrf))), (mx, .inl (cJ, 120, .inr (.inl (vp_updL (vp_updL (vp_updL (vp_updL (vp_updL (vp_updL ((pu_cs fo wi hi sd kn mrf mxf k).2) (6 * ((pu_cs fo wi hi sd kn mrf mxf k).1) + 0) y_18) (6 * ((pu_cs fo wi hi sd kn mrf mxf k).1) + 1) y_28) (6 * ((pu_cs fo wi hi sd kn mrf mxf k).1) + 2) y_38) (6 * ((pu_cs fo wi hi sd kn mrf mxf k).1) + 3) y_48) (6 * ((pu_cs fo wi hi sd kn mrf mxf k).1) + 4) y_58) (6 * ((pu_cs fo wi hi sd kn mrf mxf k).1) + 5) y_68)))), (mp, .inl (cJ, 324, .inr (.inl mpf))), (mq, .inl (cJ, 18, .inr (.inl mqf)))] H := hP
          have hD : va_D A [(mo, .inr (3, [.int 0, .int wi, .int hi, .int fo, .ref mt, .ref mr, .int (nI kn), .ref mx, .int (nI (pu_cs fo wi hi sd kn mrf mxf k).1), .ref mp, .ref mq, .int (nI ct)])), (mt, .inl (cJ, 18, .inr (.inl mtf))), (mr, .inl (cJ, 120, .inr (.inl mrf))), (mx, .inl (cJ, 120, .inr (.inl (vp_updL (vp_updL (vp_updL (vp_updL (vp_updL (vp_updL ((pu_cs fo wi hi sd kn mrf mxf k).2) (6 * ((pu_cs fo wi hi sd kn mrf mxf k).1) + 0) y_18) (6 * ((pu_cs fo wi hi sd kn mrf mxf k).1) + 1) y_28) (6 * ((pu_cs fo wi hi sd kn mrf mxf k).1) + 2) y_38) (6 * ((pu_cs fo wi hi sd kn mrf mxf k).1) + 3) y_48) (6 * ((pu_cs fo wi hi sd kn mrf mxf k).1) + 4) y_58) (6 * ((pu_cs fo wi hi sd kn mrf mxf k).1) + 5) y_68)))), (mp, .inl (cJ, 324, .inr (.inl mpf))), (mq, .inl (cJ, 18, .inr (.inl mqf)))] := hD
          refine lv_iinc (v := 6) (lv' := [(8, .int 6), (6, .long r_6), (4, .long r_5), (3, .int (nI ((k + 1) % kn))), (0, .ref mo), (1, .int (nI sd)), (2, .int (nI k))]) hx hb d_Mo_cutBy_84 hl (k := 0) rfl (by decide) (by decide) rfl (fun ls hl => ?_)
          refine lv_goto (tgt := 50) hx hb d_Mo_cutBy_87 (by decide) ?_
          refine lv_iload hx hb d_Mo_cutBy_50 (lv_at hl 0 rfl) ?_
          refine lv_bipush (v := 6) hx hb d_Mo_cutBy_52 (by decide) ?_
          refine lv_icmp_ge (tgt := 90) hx hb d_Mo_cutBy_54 (by decide) (fun _ => ?_) (fun c_71 => absurd (by decide) c_71)
          refine lv_aload_n hx hb d_Mo_cutBy_90 rfl (lv_at hl 4 rfl) ?_
          refine lv_dup hx hb d_Mo_cutBy_91 rfl ?_
          refine va_get (D := (dC, dI)) (ci := 3) (v := .int (nI (pu_cs fo wi hi sd kn mrf mxf k).1)) (C := R_Mo) (T := F_Mo) (N := 12) hx hb hts (fun w h => mw (i_Mo w h)) hown hK hP 0 rfl rfl 8 (by decide) (hts _ (mw wd_245)) (fun _ h9 => h9) rfl d_Mo_cutBy_92 ?_
          refine lv_iconst (v := 1) hx hb d_Mo_cutBy_95 (by decide) ?_
          refine lv_iadd hx hb d_Mo_cutBy_96 ?_
          refine lv_topi (fun y_72 ey_72 => ?_)
          have ey_72 : y_72 = nI ((pu_cs fo wi hi sd kn mrf mxf k).1 + 1) := by rw [ey_72]; first | rfl | (simp only [nk_set_0, nk_set_1, nk_set_2, nk_set_3, nk_set_4, nk_set_5, nk_set_6, nk_set_7, nk_set_12, nk_set_13, nk_set_18, pk_mul, nI_add]; done) | (simp only [nk_set_0, nk_set_1, nk_set_2, nk_set_3, nk_set_4, nk_set_5, nk_set_6, nk_set_7, nk_set_12, nk_set_13, nk_set_18, pk_mul, nI_add]; exact congrArg nI (by omega))
          subst ey_72
          refine va_put (D := (dC, dI)) (ci := 3) (v := .int (nI ((pu_cs fo wi hi sd kn mrf mxf k).1 + 1))) (ty := .int) (C := R_Mo) (T := F_Mo) (N := 12) hx hb hts (fun w h => mw (i_Mo w h)) t_Mo t_Mo_ok n_Mo hown hK hP hD hS 0 rfl rfl 8 (by decide) (hts _ (mw wd_245)) (fun _ h9 => h9) rfl (by decide +kernel) rfl rfl (Nat.le_of_ble_eq_true rfl) d_Mo_cutBy_97 (fun H locs hP hD hS => ?_)
          have hP : va_P (dC, dI) cls4 [(mo, .inr (3, [.int 0, .int wi, .int hi, .int fo, .ref mt, .ref mr, .int (nI kn), .ref mx, .int (nI ((pu_cs fo wi hi sd kn mrf mxf k).1 + 1)), .ref mp, .ref mq, .int (nI ct)])), (mt, .inl (cJ, 18, .inr (.inl mtf))), (mr, .inl (cJ, 120, .inr (.inl mrf))), (mx, .inl (cJ, 120, .inr (.inl (vp_updL (vp_updL (vp_updL (vp_updL (vp_updL (vp_updL ((pu_cs fo wi hi sd kn mrf mxf k).2) (6 * ((pu_cs fo wi hi sd kn mrf mxf k).1) + 0) y_18) (6 * ((pu_cs fo wi hi sd kn mrf mxf k).1) + 1) y_28) (6 * ((pu_cs fo wi hi sd kn mrf mxf k).1) + 2) y_38) (6 * ((pu_cs fo wi hi sd kn mrf mxf k).1) + 3) y_48) (6 * ((pu_cs fo wi hi sd kn mrf mxf k).1) + 4) y_58) (6 * ((pu_cs fo wi hi sd kn mrf mxf k).1) + 5) y_68)))), (mp, .inl (cJ, 324, .inr (.inl mpf))), (mq, .inl (cJ, 18, .inr (.inl mqf)))] H := hP
          have hD : va_D A [(mo, .inr (3, [.int 0, .int wi, .int hi, .int fo, .ref mt, .ref mr, .int (nI kn), .ref mx, .int (nI ((pu_cs fo wi hi sd kn mrf mxf k).1 + 1)), .ref mp, .ref mq, .int (nI ct)])), (mt, .inl (cJ, 18, .inr (.inl mtf))), (mr, .inl (cJ, 120, .inr (.inl mrf))), (mx, .inl (cJ, 120, .inr (.inl (vp_updL (vp_updL (vp_updL (vp_updL (vp_updL (vp_updL ((pu_cs fo wi hi sd kn mrf mxf k).2) (6 * ((pu_cs fo wi hi sd kn mrf mxf k).1) + 0) y_18) (6 * ((pu_cs fo wi hi sd kn mrf mxf k).1) + 1) y_28) (6 * ((pu_cs fo wi hi sd kn mrf mxf k).1) + 2) y_38) (6 * ((pu_cs fo wi hi sd kn mrf mxf k).1) + 3) y_48) (6 * ((pu_cs fo wi hi sd kn mrf mxf k).1) + 4) y_58) (6 * ((pu_cs fo wi hi sd kn mrf mxf k).1) + 5) y_68)))), (mp, .inl (cJ, 324, .inr (.inl mpf))), (mq, .inl (cJ, 18, .inr (.inl mqf)))] := hD
          have hcp : vp_updL (vp_updL (vp_updL (vp_updL (vp_updL (vp_updL ((pu_cs fo wi hi sd kn mrf mxf k).2) (6 * ((pu_cs fo wi hi sd kn mrf mxf k).1) + 0) y_18) (6 * ((pu_cs fo wi hi sd kn mrf mxf k).1) + 1) y_28) (6 * ((pu_cs fo wi hi sd kn mrf mxf k).1) + 2) y_38) (6 * ((pu_cs fo wi hi sd kn mrf mxf k).1) + 3) y_48) (6 * ((pu_cs fo wi hi sd kn mrf mxf k).1) + 4) y_58) (6 * ((pu_cs fo wi hi sd kn mrf mxf k).1) + 5) y_68 = pu_put (pu_cs fo wi hi sd kn mrf mxf k).2 (pu_cs fo wi hi sd kn mrf mxf k).1 (fun j => mrf (6 * k + j)) := six_eq (fun j => mrf (6 * k + j)) rfl rfl rfl rfl rfl rfl ey_18 ey_28 ey_38 ey_48 ey_58 ey_68
          rw [hcp] at hP hD
          refine lv_lload hx hb d_Mo_cutBy_100 (lv_at hl 2 rfl) ?_
          refine lv_lconst (v := 0) hx hb d_Mo_cutBy_102 (by decide) ?_
          refine W.lcmp hx hb d_Mo_cutBy_103 ?_
          refine lv_if_lt (tgt := 124) hx hb d_Mo_cutBy_104 (by decide) (fun c_73 => absurd c_73 (by rw [lg_cmp_lt]; exact c_7)) (fun c_73 => ?_)
          refine lv_lload hx hb d_Mo_cutBy_107 (lv_at hl 1 rfl) ?_
          refine lv_lconst (v := 0) hx hb d_Mo_cutBy_109 (by decide) ?_
          refine W.lcmp hx hb d_Mo_cutBy_110 ?_
          refine lv_if_ge (tgt := 124) hx hb d_Mo_cutBy_111 (by decide) (fun c_74 => ?_) (fun c_74 => ?_)
          · rw [lg_cmp_ge] at c_74
            have c_74 : 0 ≤ r_6 := c_74
            refine lv_lload hx hb d_Mo_cutBy_124 (lv_at hl 2 rfl) ?_
            refine lv_lconst (v := 0) hx hb d_Mo_cutBy_126 (by decide) ?_
            refine W.lcmp hx hb d_Mo_cutBy_127 ?_
            refine lv_if_ge (tgt := 148) hx hb d_Mo_cutBy_128 (by decide) (fun c_75 => ?_) (fun c_75 => absurd (by rw [lg_cmp_ge]; exact st_ge c_7) c_75)
            refine lv_iinc (v := (nI (k + 1))) (lv' := [(2, .int (nI (k + 1))), (8, .int 6), (6, .long r_6), (4, .long r_5), (3, .int (nI ((k + 1) % kn))), (0, .ref mo), (1, .int (nI sd))]) hx hb d_Mo_cutBy_148 hl (k := 6) rfl (nI_1 k) (by decide) rfl (fun ls hl => ?_)
            refine lv_goto (tgt := 7) hx hb d_Mo_cutBy_151 (by decide) ?_
            have h1 : 0 ≤ pu_side fo wi hi sd mrf k := by rw [← er_5]; exact st_ge c_7
            have h2 : 0 ≤ pu_side fo wi hi sd mrf (pu_nx kn k) := by rw [hnx, ← er_6]; exact c_74
            have hstep := pu_cs_11 (n := kn) (N0 := mxf) h1 h2
            have hroom := cb_top (fo := fo) (wi := wi) (hi := hi) (sd := sd) (R := mrf) (N0 := mxf) (show k < kn by omega) hkn
            rw [hstep] at hroom
            try dsimp only at hroom
            rw [hnx] at h2
            refine ih (k + 1) (by omega) (by omega) _ _ ?_ ?_ hS ls (lv_sub hl [5, 6, 0] rfl)
            · rw [hstep]; exact hP
            · rw [hstep]; exact hD
          · rw [lg_cmp_ge] at c_74
            have c_74 : ¬ (0 ≤ r_6) := c_74
            have h1 : 0 ≤ pu_side fo wi hi sd mrf k := by rw [← er_5]; exact st_ge c_7
            have h2 : ¬ 0 ≤ pu_side fo wi hi sd mrf (pu_nx kn k) := by rw [hnx, ← er_6]; exact c_74
            have hstep := pu_cs_10 (n := kn) (N0 := mxf) h1 h2
            have hroom := cb_top (fo := fo) (wi := wi) (hi := hi) (sd := sd) (R := mrf) (N0 := mxf) (show k < kn by omega) hkn
            rw [hstep] at hroom
            try dsimp only at hroom
            rw [hnx] at hstep h2
            refine lv_aload_n hx hb d_Mo_cutBy_114 rfl (lv_at hl 4 rfl) ?_
            refine lv_iload_n hx hb d_Mo_cutBy_115 rfl (lv_at hl 6 rfl) ?_
            refine lv_lload hx hb d_Mo_cutBy_116 (lv_at hl 2 rfl) ?_
            refine lv_iload_n hx hb d_Mo_cutBy_118 rfl (lv_at hl 3 rfl) ?_
            refine lv_lload hx hb d_Mo_cutBy_119 (lv_at hl 1 rfl) ?_
            have hPc := hP
            have hDc := hD.sub (ws' := [(mo, .inr (3, [.int 0, .int wi, .int hi, .int fo, .ref mt, .ref mr, .int (nI kn), .ref mx, .int (nI ((pu_cs fo wi hi sd kn mrf mxf k).1 + 1)), .ref mp, .ref mq, .int (nI ct)])), (mt, .inl (cJ, 18, .inr (.inl mtf))), (mr, .inl (cJ, 120, .inr (.inl mrf))), (mx, .inl (cJ, 120, .inr (.inl (pu_put (pu_cs fo wi hi sd kn mrf mxf k).2 (pu_cs fo wi hi sd kn mrf mxf k).1 (fun j => mrf (6 * k + j)))))), (mp, .inl (cJ, 324, .inr (.inl mpf))), (mq, .inl (cJ, 18, .inr (.inl mqf)))]) [0, 1, 2, 3, 4, 5] (by decide) rfl
            have hFc := va_free (wc := [(mo, .inr (3, [.int 0, .int wi, .int hi, .int fo, .ref mt, .ref mr, .int (nI kn), .ref mx, .int (nI ((pu_cs fo wi hi sd kn mrf mxf k).1 + 1)), .ref mp, .ref mq, .int (nI ct)])), (mt, .inl (cJ, 18, .inr (.inl mtf))), (mr, .inl (cJ, 120, .inr (.inl mrf))), (mx, .inl (cJ, 120, .inr (.inl (pu_put (pu_cs fo wi hi sd kn mrf mxf k).2 (pu_cs fo wi hi sd kn mrf mxf k).1 (fun j => mrf (6 * k + j)))))), (mp, .inl (cJ, 324, .inr (.inl mpf))), (mq, .inl (cJ, 18, .inr (.inl mqf)))]) hD hS hA [0, 1, 2, 3, 4, 5] rfl
            refine va_callv (va_runV (As := [.int (nI k), .long r_5, .int (nI ((k + 1) % kn)), .long r_6]) (rest := []) ⟨hx, hb, hml, hown, hts⟩ (c_Mo_between l dC dI cJ cI H.size mo wi hi fo mt mr (nI kn) mx ((pu_cs fo wi hi sd kn mrf mxf k).1 + 1) mp mq ct mtf mrf (pu_put (pu_cs fo wi hi sd kn mrf mxf k).2 (pu_cs fo wi hi sd kn mrf mxf k).1 (fun j => mrf (6 * k + j))) mpf mqf k r_5 ((k + 1) % kn) r_6 (by omega) (by omega) (by omega) (by rw [er_5, er_6]; exact mc_nz (cb_pos hfit (hc3 (k) (by omega)) (hc3 ((k + 1) % kn) (by omega)) h1 h2))) (cwV 4 hts (gd_V wd_295 wd_296 wd_24 wd_37 wd_297) rfl rfl rfl (by decide +kernel) ⟨Nat.le_of_ble_eq_true rfl, Nat.le_of_ble_eq_true rfl⟩) ⟨fb_rw, va_recv hK hPc (ci := 3) (q0 := 0) rfl rfl, pre_rw hK hN hPc hDc⟩ rfl rfl hl.1 rfl (lv_room (Nat.le_of_ble_eq_true rfl)) d_Mo_cutBy_121 ⟨Nat.le_of_ble_eq_true rfl, Nat.le_of_ble_eq_true rfl⟩) hS (fun q _ h => hFc q h) hFc (fun u t H locs ht hvm hw hB hz1 hk1 hS => ?_)
            obtain ⟨hP1, hD1⟩ := hB
            rw [ht] at hP1
            obtain ⟨hP, hD⟩ := va_join (wr := []) (w1 := [(mo, .inr (3, [.int 0, .int wi, .int hi, .int fo, .ref mt, .ref mr, .int (nI kn), .ref mx, .int (nI (((pu_cs fo wi hi sd kn mrf mxf k).1 + 1) + 1)), .ref mp, .ref mq, .int (nI ct)])), (mt, .inl (cJ, 18, .inr (.inl mtf))), (mr, .inl (cJ, 120, .inr (.inl mrf))), (mx, .inl (cJ, 120, .inr (.inl (pu_put (pu_put (pu_cs fo wi hi sd kn mrf mxf k).2 (pu_cs fo wi hi sd kn mrf mxf k).1 (fun j => mrf (6 * k + j))) ((pu_cs fo wi hi sd kn mrf mxf k).1 + 1) (fun q9 => pu_btw (mrf (6 * k + q9)) (mrf (6 * ((k + 1) % kn) + q9)) r_5 r_6))))), (mp, .inl (cJ, 324, .inr (.inl mpf))), (mq, .inl (cJ, 18, .inr (.inl mqf)))]) hP hD [0, 1, 2, 3, 4, 5] [] rfl rfl (by decide) (by decide) hk1 hFc hP1 hD1
            have hP : va_P (dC, dI) cls4 [(mo, .inr (3, [.int 0, .int wi, .int hi, .int fo, .ref mt, .ref mr, .int (nI kn), .ref mx, .int (nI (((pu_cs fo wi hi sd kn mrf mxf k).1 + 1) + 1)), .ref mp, .ref mq, .int (nI ct)])), (mt, .inl (cJ, 18, .inr (.inl mtf))), (mr, .inl (cJ, 120, .inr (.inl mrf))), (mx, .inl (cJ, 120, .inr (.inl (pu_put (pu_put (pu_cs fo wi hi sd kn mrf mxf k).2 (pu_cs fo wi hi sd kn mrf mxf k).1 (fun j => mrf (6 * k + j))) ((pu_cs fo wi hi sd kn mrf mxf k).1 + 1) (fun q9 => pu_btw (mrf (6 * k + q9)) (mrf (6 * ((k + 1) % kn) + q9)) r_5 r_6))))), (mp, .inl (cJ, 324, .inr (.inl mpf))), (mq, .inl (cJ, 18, .inr (.inl mqf)))] H := hP
            have hD : va_D A [(mo, .inr (3, [.int 0, .int wi, .int hi, .int fo, .ref mt, .ref mr, .int (nI kn), .ref mx, .int (nI (((pu_cs fo wi hi sd kn mrf mxf k).1 + 1) + 1)), .ref mp, .ref mq, .int (nI ct)])), (mt, .inl (cJ, 18, .inr (.inl mtf))), (mr, .inl (cJ, 120, .inr (.inl mrf))), (mx, .inl (cJ, 120, .inr (.inl (pu_put (pu_put (pu_cs fo wi hi sd kn mrf mxf k).2 (pu_cs fo wi hi sd kn mrf mxf k).1 (fun j => mrf (6 * k + j))) ((pu_cs fo wi hi sd kn mrf mxf k).1 + 1) (fun q9 => pu_btw (mrf (6 * k + q9)) (mrf (6 * ((k + 1) % kn) + q9)) r_5 r_6))))), (mp, .inl (cJ, 324, .inr (.inl mpf))), (mq, .inl (cJ, 18, .inr (.inl mqf)))] := hD
            refine lv_lload hx hb d_Mo_cutBy_124 (lv_at hl 2 rfl) ?_
            refine lv_lconst (v := 0) hx hb d_Mo_cutBy_126 (by decide) ?_
            refine W.lcmp hx hb d_Mo_cutBy_127 ?_
            refine lv_if_ge (tgt := 148) hx hb d_Mo_cutBy_128 (by decide) (fun c_76 => ?_) (fun c_76 => absurd (by rw [lg_cmp_ge]; exact st_ge c_7) c_76)
            refine lv_iinc (v := (nI (k + 1))) (lv' := [(2, .int (nI (k + 1))), (8, .int 6), (6, .long r_6), (4, .long r_5), (3, .int (nI ((k + 1) % kn))), (0, .ref mo), (1, .int (nI sd))]) hx hb d_Mo_cutBy_148 hl (k := 6) rfl (nI_1 k) (by decide) rfl (fun ls hl => ?_)
            refine lv_goto (tgt := 7) hx hb d_Mo_cutBy_151 (by decide) ?_
            rw [er_5, er_6] at hP hD
            refine ih (k + 1) (by omega) (by omega) _ _ ?_ ?_ hS ls (lv_sub hl [5, 6, 0] rfl)
            · rw [hstep]; exact hP
            · rw [hstep]; exact hD
  refine lv_aload_n hx hb d_Mo_cutBy_0 rfl (lv_at hl 0 rfl) ?_
  refine lv_iconst (v := 0) hx hb d_Mo_cutBy_1 (by decide) ?_
  refine va_put (D := (dC, dI)) (ci := 3) (v := .int 0) (ty := .int) (C := R_Mo) (T := F_Mo) (N := 12) hx hb hts (fun w h => mw (i_Mo w h)) t_Mo t_Mo_ok n_Mo hown hK hP hD hS 0 rfl rfl 8 (by decide) (hts _ (mw wd_245)) (fun _ h9 => h9) rfl (by decide +kernel) rfl rfl (Nat.le_of_ble_eq_true rfl) d_Mo_cutBy_2 (fun H locs hP hD hS => ?_)
  have hP : va_P (dC, dI) cls4 [(mo, .inr (3, [.int 0, .int wi, .int hi, .int fo, .ref mt, .ref mr, .int (nI kn), .ref mx, .int 0, .ref mp, .ref mq, .int (nI ct)])), (mt, .inl (cJ, 18, .inr (.inl mtf))), (mr, .inl (cJ, 120, .inr (.inl mrf))), (mx, .inl (cJ, 120, .inr (.inl mxf))), (mp, .inl (cJ, 324, .inr (.inl mpf))), (mq, .inl (cJ, 18, .inr (.inl mqf)))] H := hP
  have hD : va_D A [(mo, .inr (3, [.int 0, .int wi, .int hi, .int fo, .ref mt, .ref mr, .int (nI kn), .ref mx, .int 0, .ref mp, .ref mq, .int (nI ct)])), (mt, .inl (cJ, 18, .inr (.inl mtf))), (mr, .inl (cJ, 120, .inr (.inl mrf))), (mx, .inl (cJ, 120, .inr (.inl mxf))), (mp, .inl (cJ, 324, .inr (.inl mpf))), (mq, .inl (cJ, 18, .inr (.inl mqf)))] := hD
  refine lv_iconst (v := 0) hx hb d_Mo_cutBy_5 (by decide) ?_
  refine lv_istore_n (lv' := [(2, .int 0), (0, .ref mo), (1, .int (nI sd))]) hx hb d_Mo_cutBy_6 rfl hl (by decide) rfl (fun ls hl => ?_)
  exact LOOP (kn + 1) 0 (by omega) (by omega) _ _ hP hD hS ls (lv_sub hl [1, 2, 0] rfl)
